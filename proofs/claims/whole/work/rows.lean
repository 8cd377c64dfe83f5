section
-- ===== PART A: goes FIRST, ahead of the names: the tables' words, and 'selects' of the private methods out of them =====
/-- a private method of a class that the tables say can be made, by its rows of tables_1 -/
def lw_okq (q : MethodName × Nat) : Prop := (q.1.cls ≠ "java/lang/invoke/MethodHandle" ∧ q.1.cls ≠ "java/lang/invoke/VarHandle") ∧ Cond.instantiable q.1.cls q.2 ∈ tables_1 ∧ Cond.privateMethod q.1 ∈ tables_1 ∧ Cond.instanceMethod q.1 ∈ tables_1
theorem lw_p0 : lw_okq (⟨"Releaseledger$Version", "openToken", "(III)V"⟩, 4) := ⟨⟨by decide +kernel, by decide +kernel⟩, List.mem_of_getElem? (i := 36) (by decide +kernel), List.mem_of_getElem? (i := 68) (by decide +kernel), List.mem_of_getElem? (i := 69) (by decide +kernel)⟩
theorem lw_p1 : lw_okq (⟨"Releaseledger$Version", "growToken", "(IIC)V"⟩, 4) := ⟨⟨by decide +kernel, by decide +kernel⟩, List.mem_of_getElem? (i := 36) (by decide +kernel), List.mem_of_getElem? (i := 76) (by decide +kernel), List.mem_of_getElem? (i := 77) (by decide +kernel)⟩
theorem lw_p2 : lw_okq (⟨"Releaseledger$Version", "hasToken", "(II)Z"⟩, 4) := ⟨⟨by decide +kernel, by decide +kernel⟩, List.mem_of_getElem? (i := 36) (by decide +kernel), List.mem_of_getElem? (i := 80) (by decide +kernel), List.mem_of_getElem? (i := 81) (by decide +kernel)⟩
theorem lw_p3 : lw_okq (⟨"Releaseledger", "orderSlots", "()V"⟩, 6) := ⟨⟨by decide +kernel, by decide +kernel⟩, List.mem_of_getElem? (i := 13) (by decide +kernel), List.mem_of_getElem? (i := 131) (by decide +kernel), List.mem_of_getElem? (i := 132) (by decide +kernel)⟩
theorem lw_p4 : lw_okq (⟨"Releaseledger", "versionIn", "(I)LReleaseledger$Version;"⟩, 6) := ⟨⟨by decide +kernel, by decide +kernel⟩, List.mem_of_getElem? (i := 13) (by decide +kernel), List.mem_of_getElem? (i := 135) (by decide +kernel), List.mem_of_getElem? (i := 136) (by decide +kernel)⟩
theorem lw_p5 : lw_okq (⟨"java/lang/Throwable", "fillInStackTrace", "(I)Ljava/lang/Throwable;"⟩, 6) := ⟨⟨by decide +kernel, by decide +kernel⟩, List.mem_of_getElem? (i := 180) (by decide +kernel), List.mem_of_getElem? (i := 178) (by decide +kernel), List.mem_of_getElem? (i := 179) (by decide +kernel)⟩
theorem lw_p6 : lw_okq (⟨"Releaseledger$Version", "orderOfRow", "(ILReleaseledger$Version;)I"⟩, 4) := ⟨⟨by decide +kernel, by decide +kernel⟩, List.mem_of_getElem? (i := 36) (by decide +kernel), List.mem_of_getElem? (i := 214) (by decide +kernel), List.mem_of_getElem? (i := 215) (by decide +kernel)⟩
theorem lw_p7 : lw_okq (⟨"Releaseledger$Version", "orderOfWords", "(IILReleaseledger$Version;)I"⟩, 4) := ⟨⟨by decide +kernel, by decide +kernel⟩, List.mem_of_getElem? (i := 36) (by decide +kernel), List.mem_of_getElem? (i := 229) (by decide +kernel), List.mem_of_getElem? (i := 230) (by decide +kernel)⟩
theorem lw_p8 : lw_okq (⟨"Releaseledger$Version", "startAt", "(II)I"⟩, 4) := ⟨⟨by decide +kernel, by decide +kernel⟩, List.mem_of_getElem? (i := 36) (by decide +kernel), List.mem_of_getElem? (i := 233) (by decide +kernel), List.mem_of_getElem? (i := 234) (by decide +kernel)⟩
theorem lw_p9 : lw_okq (⟨"Releaseledger", "fillOrders", "()V"⟩, 6) := ⟨⟨by decide +kernel, by decide +kernel⟩, List.mem_of_getElem? (i := 13) (by decide +kernel), List.mem_of_getElem? (i := 270) (by decide +kernel), List.mem_of_getElem? (i := 271) (by decide +kernel)⟩
theorem lw_p10 : lw_okq (⟨"Releaseledger", "isTrueOfOne", "(LReleaseledger$Version;)Z"⟩, 6) := ⟨⟨by decide +kernel, by decide +kernel⟩, List.mem_of_getElem? (i := 13) (by decide +kernel), List.mem_of_getElem? (i := 274) (by decide +kernel), List.mem_of_getElem? (i := 275) (by decide +kernel)⟩
theorem lw_p11 : lw_okq (⟨"Releaseledger", "parseAnew", "(LReleaseledger$Version;)V"⟩, 6) := ⟨⟨by decide +kernel, by decide +kernel⟩, List.mem_of_getElem? (i := 13) (by decide +kernel), List.mem_of_getElem? (i := 278) (by decide +kernel), List.mem_of_getElem? (i := 279) (by decide +kernel)⟩
theorem lw_p12 : lw_okq (⟨"Releaseledger", "parseWithNumberBehind", "(LReleaseledger$Version;CI)V"⟩, 6) := ⟨⟨by decide +kernel, by decide +kernel⟩, List.mem_of_getElem? (i := 13) (by decide +kernel), List.mem_of_getElem? (i := 298) (by decide +kernel), List.mem_of_getElem? (i := 299) (by decide +kernel)⟩
theorem lw_p13 : lw_okq (⟨"Releaseledger", "parseWithLetterBehind", "(LReleaseledger$Version;C)V"⟩, 6) := ⟨⟨by decide +kernel, by decide +kernel⟩, List.mem_of_getElem? (i := 13) (by decide +kernel), List.mem_of_getElem? (i := 309) (by decide +kernel), List.mem_of_getElem? (i := 310) (by decide +kernel)⟩
theorem lw_p14 : lw_okq (⟨"Releaseledger", "isTrueOfTwo", "(II)Z"⟩, 6) := ⟨⟨by decide +kernel, by decide +kernel⟩, List.mem_of_getElem? (i := 13) (by decide +kernel), List.mem_of_getElem? (i := 313) (by decide +kernel), List.mem_of_getElem? (i := 314) (by decide +kernel)⟩
theorem lw_p15 : lw_okq (⟨"Releaseledger", "orderOf", "(II)I"⟩, 6) := ⟨⟨by decide +kernel, by decide +kernel⟩, List.mem_of_getElem? (i := 13) (by decide +kernel), List.mem_of_getElem? (i := 317) (by decide +kernel), List.mem_of_getElem? (i := 318) (by decide +kernel)⟩
def lw_privs_1 : List (MethodName × Nat) := [(⟨"Releaseledger$Version", "openToken", "(III)V"⟩, 4), (⟨"Releaseledger$Version", "growToken", "(IIC)V"⟩, 4), (⟨"Releaseledger$Version", "hasToken", "(II)Z"⟩, 4), (⟨"Releaseledger", "orderSlots", "()V"⟩, 6), (⟨"Releaseledger", "versionIn", "(I)LReleaseledger$Version;"⟩, 6), (⟨"java/lang/Throwable", "fillInStackTrace", "(I)Ljava/lang/Throwable;"⟩, 6), (⟨"Releaseledger$Version", "orderOfRow", "(ILReleaseledger$Version;)I"⟩, 4), (⟨"Releaseledger$Version", "orderOfWords", "(IILReleaseledger$Version;)I"⟩, 4), (⟨"Releaseledger$Version", "startAt", "(II)I"⟩, 4), (⟨"Releaseledger", "fillOrders", "()V"⟩, 6), (⟨"Releaseledger", "isTrueOfOne", "(LReleaseledger$Version;)Z"⟩, 6), (⟨"Releaseledger", "parseAnew", "(LReleaseledger$Version;)V"⟩, 6), (⟨"Releaseledger", "parseWithNumberBehind", "(LReleaseledger$Version;CI)V"⟩, 6), (⟨"Releaseledger", "parseWithLetterBehind", "(LReleaseledger$Version;C)V"⟩, 6), (⟨"Releaseledger", "isTrueOfTwo", "(II)Z"⟩, 6), (⟨"Releaseledger", "orderOf", "(II)I"⟩, 6)]
theorem lw_r1 : ∀ q ∈ lw_privs_1, lw_okq q := List.forall_mem_cons.mpr ⟨lw_p0, List.forall_mem_cons.mpr ⟨lw_p1, List.forall_mem_cons.mpr ⟨lw_p2, List.forall_mem_cons.mpr ⟨lw_p3, List.forall_mem_cons.mpr ⟨lw_p4, List.forall_mem_cons.mpr ⟨lw_p5, List.forall_mem_cons.mpr ⟨lw_p6, List.forall_mem_cons.mpr ⟨lw_p7, List.forall_mem_cons.mpr ⟨lw_p8, List.forall_mem_cons.mpr ⟨lw_p9, List.forall_mem_cons.mpr ⟨lw_p10, List.forall_mem_cons.mpr ⟨lw_p11, List.forall_mem_cons.mpr ⟨lw_p12, List.forall_mem_cons.mpr ⟨lw_p13, List.forall_mem_cons.mpr ⟨lw_p14, List.forall_mem_cons.mpr ⟨lw_p15, fun _ h => absurd h List.not_mem_nil⟩⟩⟩⟩⟩⟩⟩⟩⟩⟩⟩⟩⟩⟩⟩⟩
theorem lw_p16 : lw_okq (⟨"Releaseledger", "checkJoin", "(CII)V"⟩, 6) := ⟨⟨by decide +kernel, by decide +kernel⟩, List.mem_of_getElem? (i := 13) (by decide +kernel), List.mem_of_getElem? (i := 376) (by decide +kernel), List.mem_of_getElem? (i := 377) (by decide +kernel)⟩
theorem lw_p17 : lw_okq (⟨"Releaseledger", "putJoint", "(C)V"⟩, 6) := ⟨⟨by decide +kernel, by decide +kernel⟩, List.mem_of_getElem? (i := 13) (by decide +kernel), List.mem_of_getElem? (i := 411) (by decide +kernel), List.mem_of_getElem? (i := 412) (by decide +kernel)⟩
theorem lw_p18 : lw_okq (⟨"Releaseledger", "exchangeSpare", "(I)I"⟩, 6) := ⟨⟨by decide +kernel, by decide +kernel⟩, List.mem_of_getElem? (i := 13) (by decide +kernel), List.mem_of_getElem? (i := 451) (by decide +kernel), List.mem_of_getElem? (i := 452) (by decide +kernel)⟩
theorem lw_p19 : lw_okq (⟨"ReleaseledgerModel", "no", "(ZI)Z"⟩, 9) := ⟨⟨by decide +kernel, by decide +kernel⟩, List.mem_of_getElem? (i := 589) (by decide +kernel), List.mem_of_getElem? (i := 641) (by decide +kernel), List.mem_of_getElem? (i := 642) (by decide +kernel)⟩
theorem lw_p20 : lw_okq (⟨"ReleaseledgerModel", "isJoined", "(ZCI)Z"⟩, 9) := ⟨⟨by decide +kernel, by decide +kernel⟩, List.mem_of_getElem? (i := 589) (by decide +kernel), List.mem_of_getElem? (i := 662) (by decide +kernel), List.mem_of_getElem? (i := 663) (by decide +kernel)⟩
theorem lw_p21 : lw_okq (⟨"ReleaseledgerModel", "join", "(C)V"⟩, 9) := ⟨⟨by decide +kernel, by decide +kernel⟩, List.mem_of_getElem? (i := 589) (by decide +kernel), List.mem_of_getElem? (i := 669) (by decide +kernel), List.mem_of_getElem? (i := 670) (by decide +kernel)⟩
theorem lw_p22 : lw_okq (⟨"ReleaseledgerModel", "lay", "(I[CI)I"⟩, 9) := ⟨⟨by decide +kernel, by decide +kernel⟩, List.mem_of_getElem? (i := 589) (by decide +kernel), List.mem_of_getElem? (i := 693) (by decide +kernel), List.mem_of_getElem? (i := 694) (by decide +kernel)⟩
theorem lw_p23 : lw_okq (⟨"ReleaseledgerModel", "look", "(I[CI)V"⟩, 9) := ⟨⟨by decide +kernel, by decide +kernel⟩, List.mem_of_getElem? (i := 589) (by decide +kernel), List.mem_of_getElem? (i := 697) (by decide +kernel), List.mem_of_getElem? (i := 698) (by decide +kernel)⟩
theorem lw_p24 : lw_okq (⟨"ReleaseledgerModel", "look", "(II)V"⟩, 9) := ⟨⟨by decide +kernel, by decide +kernel⟩, List.mem_of_getElem? (i := 589) (by decide +kernel), List.mem_of_getElem? (i := 701) (by decide +kernel), List.mem_of_getElem? (i := 702) (by decide +kernel)⟩
theorem lw_p25 : lw_okq (⟨"ReleaseledgerModel", "judged", "()[I"⟩, 9) := ⟨⟨by decide +kernel, by decide +kernel⟩, List.mem_of_getElem? (i := 589) (by decide +kernel), List.mem_of_getElem? (i := 705) (by decide +kernel), List.mem_of_getElem? (i := 706) (by decide +kernel)⟩
theorem lw_p26 : lw_okq (⟨"ReleaseledgerModel", "rows", "(I)I"⟩, 9) := ⟨⟨by decide +kernel, by decide +kernel⟩, List.mem_of_getElem? (i := 589) (by decide +kernel), List.mem_of_getElem? (i := 709) (by decide +kernel), List.mem_of_getElem? (i := 710) (by decide +kernel)⟩
theorem lw_p27 : lw_okq (⟨"ReleaseledgerModel", "isNumber", "(III)Z"⟩, 9) := ⟨⟨by decide +kernel, by decide +kernel⟩, List.mem_of_getElem? (i := 589) (by decide +kernel), List.mem_of_getElem? (i := 713) (by decide +kernel), List.mem_of_getElem? (i := 714) (by decide +kernel)⟩
theorem lw_p28 : lw_okq (⟨"ReleaseledgerModel", "number", "(III)I"⟩, 9) := ⟨⟨by decide +kernel, by decide +kernel⟩, List.mem_of_getElem? (i := 589) (by decide +kernel), List.mem_of_getElem? (i := 717) (by decide +kernel), List.mem_of_getElem? (i := 718) (by decide +kernel)⟩
theorem lw_p29 : lw_okq (⟨"ReleaseledgerModel", "words", "(II)I"⟩, 9) := ⟨⟨by decide +kernel, by decide +kernel⟩, List.mem_of_getElem? (i := 589) (by decide +kernel), List.mem_of_getElem? (i := 721) (by decide +kernel), List.mem_of_getElem? (i := 722) (by decide +kernel)⟩
theorem lw_p30 : lw_okq (⟨"ReleaseledgerModel", "order", "(II)I"⟩, 9) := ⟨⟨by decide +kernel, by decide +kernel⟩, List.mem_of_getElem? (i := 589) (by decide +kernel), List.mem_of_getElem? (i := 753) (by decide +kernel), List.mem_of_getElem? (i := 754) (by decide +kernel)⟩
theorem lw_p31 : lw_okq (⟨"ReleaseledgerModel", "place", "(I)I"⟩, 9) := ⟨⟨by decide +kernel, by decide +kernel⟩, List.mem_of_getElem? (i := 589) (by decide +kernel), List.mem_of_getElem? (i := 773) (by decide +kernel), List.mem_of_getElem? (i := 774) (by decide +kernel)⟩
def lw_privs_2 : List (MethodName × Nat) := [(⟨"Releaseledger", "checkJoin", "(CII)V"⟩, 6), (⟨"Releaseledger", "putJoint", "(C)V"⟩, 6), (⟨"Releaseledger", "exchangeSpare", "(I)I"⟩, 6), (⟨"ReleaseledgerModel", "no", "(ZI)Z"⟩, 9), (⟨"ReleaseledgerModel", "isJoined", "(ZCI)Z"⟩, 9), (⟨"ReleaseledgerModel", "join", "(C)V"⟩, 9), (⟨"ReleaseledgerModel", "lay", "(I[CI)I"⟩, 9), (⟨"ReleaseledgerModel", "look", "(I[CI)V"⟩, 9), (⟨"ReleaseledgerModel", "look", "(II)V"⟩, 9), (⟨"ReleaseledgerModel", "judged", "()[I"⟩, 9), (⟨"ReleaseledgerModel", "rows", "(I)I"⟩, 9), (⟨"ReleaseledgerModel", "isNumber", "(III)Z"⟩, 9), (⟨"ReleaseledgerModel", "number", "(III)I"⟩, 9), (⟨"ReleaseledgerModel", "words", "(II)I"⟩, 9), (⟨"ReleaseledgerModel", "order", "(II)I"⟩, 9), (⟨"ReleaseledgerModel", "place", "(I)I"⟩, 9)]
theorem lw_r2 : ∀ q ∈ lw_privs_2, lw_okq q := List.forall_mem_cons.mpr ⟨lw_p16, List.forall_mem_cons.mpr ⟨lw_p17, List.forall_mem_cons.mpr ⟨lw_p18, List.forall_mem_cons.mpr ⟨lw_p19, List.forall_mem_cons.mpr ⟨lw_p20, List.forall_mem_cons.mpr ⟨lw_p21, List.forall_mem_cons.mpr ⟨lw_p22, List.forall_mem_cons.mpr ⟨lw_p23, List.forall_mem_cons.mpr ⟨lw_p24, List.forall_mem_cons.mpr ⟨lw_p25, List.forall_mem_cons.mpr ⟨lw_p26, List.forall_mem_cons.mpr ⟨lw_p27, List.forall_mem_cons.mpr ⟨lw_p28, List.forall_mem_cons.mpr ⟨lw_p29, List.forall_mem_cons.mpr ⟨lw_p30, List.forall_mem_cons.mpr ⟨lw_p31, fun _ h => absurd h List.not_mem_nil⟩⟩⟩⟩⟩⟩⟩⟩⟩⟩⟩⟩⟩⟩⟩⟩
theorem lw_p32 : lw_okq (⟨"ReleaseledgerModel", "hasRoom", "(II)Z"⟩, 9) := ⟨⟨by decide +kernel, by decide +kernel⟩, List.mem_of_getElem? (i := 589) (by decide +kernel), List.mem_of_getElem? (i := 789) (by decide +kernel), List.mem_of_getElem? (i := 790) (by decide +kernel)⟩
theorem lw_p33 : lw_okq (⟨"ReleaseledgerModel", "behind", "(ICII)I"⟩, 9) := ⟨⟨by decide +kernel, by decide +kernel⟩, List.mem_of_getElem? (i := 589) (by decide +kernel), List.mem_of_getElem? (i := 793) (by decide +kernel), List.mem_of_getElem? (i := 794) (by decide +kernel)⟩
theorem lw_p34 : lw_okq (⟨"ReleaseledgerModel", "longer", "(I)[C"⟩, 9) := ⟨⟨by decide +kernel, by decide +kernel⟩, List.mem_of_getElem? (i := 589) (by decide +kernel), List.mem_of_getElem? (i := 797) (by decide +kernel), List.mem_of_getElem? (i := 798) (by decide +kernel)⟩
theorem lw_p35 : lw_okq (⟨"ReleaseledgerModel", "put", "(I[CII)I"⟩, 9) := ⟨⟨by decide +kernel, by decide +kernel⟩, List.mem_of_getElem? (i := 589) (by decide +kernel), List.mem_of_getElem? (i := 801) (by decide +kernel), List.mem_of_getElem? (i := 802) (by decide +kernel)⟩
def lw_privs_3 : List (MethodName × Nat) := [(⟨"ReleaseledgerModel", "hasRoom", "(II)Z"⟩, 9), (⟨"ReleaseledgerModel", "behind", "(ICII)I"⟩, 9), (⟨"ReleaseledgerModel", "longer", "(I)[C"⟩, 9), (⟨"ReleaseledgerModel", "put", "(I[CII)I"⟩, 9)]
theorem lw_r3 : ∀ q ∈ lw_privs_3, lw_okq q := List.forall_mem_cons.mpr ⟨lw_p32, List.forall_mem_cons.mpr ⟨lw_p33, List.forall_mem_cons.mpr ⟨lw_p34, List.forall_mem_cons.mpr ⟨lw_p35, fun _ h => absurd h List.not_mem_nil⟩⟩⟩⟩
def lw_privs : List (MethodName × Nat) := lw_privs_1 ++ (lw_privs_2 ++ (lw_privs_3))
def lw_tbl : List Cond := k2_sels lw_privs ++ tables_1
theorem lw_privs_ok : ∀ q ∈ lw_privs, lw_okq q := by
  show ∀ q ∈ lw_privs_1 ++ (lw_privs_2 ++ (lw_privs_3)), lw_okq q
  exact List.forall_mem_append.mpr ⟨lw_r1, List.forall_mem_append.mpr ⟨lw_r2, lw_r3⟩⟩
/-- the streams that the claim lets the run draw from -/
abbrev lw_cs : List Choice := [Jvm.Choice.named "NaN.bits"]
theorem lw_bits : nanBits ∈ lw_cs := by first | decide | exact List.mem_cons_self | simp [lw_cs, nanBits]
end
section
/-! ===== BEGIN words of one list among another's, by their places ===== -/
theorem goodIn_r {big : List Cond} (ws : List Cond) (ps : List Nat) (hp : ws = ps.filterMap (fun i => big[i]?)) (h : ws.all goodWord = true) : GoodIn big ws := by
  intro w hw
  have h1 := List.all_eq_true.mp h w hw
  rw [hp] at hw
  obtain ⟨i, -, hi⟩ := List.mem_filterMap.mp hw
  have hm : w ∈ big := by first | exact List.mem_of_getElem? hi | exact List.getElem?_mem hi
  exact ⟨hm, good_of_word h1⟩
theorem goodIn_app {big a b : List Cond} (ha : GoodIn big a) (hb : GoodIn big b) : GoodIn big (a ++ b) := fun w h => (List.mem_append.mp h).elim (ha w) (hb w)
theorem goodIn_ca {big a b : List Cond} {c : Cond} (ha : GoodIn big (c :: a)) (hb : GoodIn big b) : GoodIn big (c :: (a ++ b)) := fun w h => (List.mem_cons.mp h).elim (fun e => ha w (List.mem_cons.mpr (Or.inl e))) (fun h => (List.mem_append.mp h).elim (fun h => ha w (List.mem_cons.mpr (Or.inr h))) (hb w))
theorem goodIn_sub {big ws : List Cond} (hm : ∀ w ∈ ws, w ∈ big) (h : ws.all goodWord = true) : GoodIn big ws := fun w hw => ⟨hm w hw, good_of_word (List.all_eq_true.mp h w hw)⟩
/-! ===== END ===== -/

/-! ===== BEGIN exceptions that leave a method, and their catching by the caller (launches without stack traces) ===== -/
section VXA
/-! The laws vx_back, vx_callV, vx_callS, vx_callSW, vx_throw0, vx_throwS follow proofs of the library, with one case more: JvmDerived/Free/Laws.lean (Back.of_free), Shelf42/LK1.lean (callV, callS), Shelf/KitTraced.lean (throwNew0V, throwNewS). -/
/-- where a method has thrown q: the class by its name, the cell, what was written, the world -/
def vx_T (XC : String → State → State → Prop) (st : State) (q : Addr) (t : State) (mc ms : Nat) (free : Addr → Prop) : Prop :=
  ∃ (E : String) (ce : Cell) (L : List Loc), XC E st t ∧ t.heap[q]? = some ce ∧ ce.vm = .none ∧ st.vm.findClass E = some ce.cls ∧ st.WarmedH t.vm ∧ st.sameButNew ({ t with vm := st.vm } : State) L mc ms ∧ ∀ z ∈ L, free z.base
def vx_Q (Qc : Array Value → State → Outcome → State → Prop) (XC : String → State → State → Prop) (mc ms : Nat) (free : Addr → Prop) : Array Value → State → Outcome → State → Prop := fun a st o t =>
  (Qc a st o t ∧ ∃ L, FrameEnd st o t L mc ms ∧ ∀ q ∈ L, free q.base) ∨ ∃ q, o = .threw q ∧ vx_T XC st q t mc ms free
/-- a callee that returns or throws -/
def vx_Met (l : Launch) (y : MethodName) (ws : List Cond) (rm : Room) (Pc : Array Value → State → Prop) (Qc : Array Value → State → Outcome → State → Prop) (XC : String → State → State → Prop) (mc ms : Nat) (free : Addr → Prop) : Prop :=
  MetFree l y (headSpec ws rm) Pc (fun _ _ _ _ _ => True) (vx_Q Qc XC mc ms free)
def vx_Post (XC : String → State → State → Prop) (mc ms : Nat) (free : Addr → Prop) : Pt → Array Value → Addr → Pt → Prop := fun A a q B =>
  ∃ (g : JFrame) (mk : MethodId) (t : State) (L : List Loc) (E : String) (ce : Cell), B.U.heap = t.heap ∧ B.U.vm = t.vm ∧ XC E (A.U.calling g mk a) t ∧ t.heap[q]? = some ce ∧ ce.vm = .none ∧ A.U.vm.findClass E = some ce.cls ∧ B.locs = A.locs ++ L ∧ (∀ z ∈ L, free z.base) ∧ B.cells = A.cells + mc ∧ B.slots = A.slots + ms
def vx_Back (l : Launch) (R : Room) (p : Program) (e : Env) (below : List Frame) (s : State) (sargs : Array Value) (y : MethodName) (len W9 : Nat)
    (Pre : Pt → Array Value → Prop) (Post : Pt → Array Value → Option Value → Pt → Prop) (PostX : Pt → Array Value → Addr → Pt → Prop) : Prop :=
  ∀ (m : MethodId) (meth : Method) (c : Code) (A : Pt) (g : JFrame) (ig : Instr) (mk : MethodId) (a : Array Value),
    Stand p l e R s m sargs below meth c A.U A.locs A.cells A.slots → g.method = m → g.locals.size = c.maxLocals → decode c.code g.pc = .ok (ig, len) →
    2 * g.monitorRoom + (g.stack.map fun v => v.category).sum ≤ W9 → A.U.methodNamed? y = some mk → Pre A a →
    (∃ (v : Option Value) (B : Pt), Stand p l e R s m sargs below meth c B.U B.locs B.cells B.slots ∧ Post A a v B ∧
      Steps p.tables e below (doInvoke e (A.U.setTop g) [] mk a).1 (B.U.setTop { g with pc := g.pc + len, stack := v.toList ++ g.stack })) ∨
    (∃ (q : Addr) (B : Pt), Stand p l e R s m sargs below meth c B.U B.locs B.cells B.slots ∧ PostX A a q B ∧
      Steps p.tables e below (doInvoke e (A.U.setTop g) [] mk a).1 ((B.U.setTop g).pushFrame (.throwing q)))
section Payer
variable {l : Launch} {R : Room} {p : Program} {e : Env} {below : List Frame} {s : State} {sargs : Array Value} {y : MethodName} {len W9 : Nat}
theorem vx_back {ws : List Cond} {rm : Room} {Pc : Array Value → State → Prop} {Qc : Array Value → State → Outcome → State → Prop} {XC : String → State → State → Prop} {mc ms : Nat} {free : Addr → Prop} {bytes : ByteArray} {maxL : Nat} {ret : Option FieldType}
    (hM : vx_Met l y ws rm Pc Qc XC mc ms free) (hblind : FrameBlind Pc) (hrc : rm.cells = mc) (hrs : rm.slots = ms)
    (hframes : rm.frames + 1 ≤ R.frames) (hlocals : W9 + (maxL + 11) + rm.locals ≤ R.locals)
    (hws : ∀ w ∈ ws, ∀ a' U, s.WarmedH U.vm → w.before a' U = true) (hcode : Cond.code y bytes maxL ret ∈ ws) (hinit : ∀ a' U, s.WarmedH U.vm → (Cond.initialized y.cls).before a' U = true) :
    vx_Back l R p e below s sargs y len W9 (PreOf R mc ms Pc) (PostOf Qc mc ms free) (vx_Post XC mc ms free) := by
  intro m meth c A g ig mk a X hg hsize hdg hW hn hp
  have h1 : (headSpec ws rm).pre.before a A.U = true := atoms_intro fun w hw => hws w hw _ _ X.warmed
  have h2 : (Cond.code y bytes maxL ret).before a A.U = true := hws _ hcode _ _ X.warmed
  have h3 : (Cond.initialized y.cls).before a A.U = true := hinit _ _ X.warmed
  have h4 : A.cells + (headSpec ws rm).room.cells ≤ R.cells := by rw [show (headSpec ws rm).room.cells = mc from hrc]; exact hp.1
  have h5 : A.slots + (headSpec ws rm).room.slots ≤ R.slots := by rw [show (headSpec ws rm).room.slots = ms from hrs]; exact hp.2.1
  have hPc : Pc a (A.U.calling g mk a) := hblind _ _ _ _ hp.2.2
  obtain ⟨U, Ls, c0, s0⟩ := A
  dsimp only [Pt.U, Pt.locs, Pt.cells, Pt.slots] at h1 h2 h3 h4 h5 X hn hPc ⊢
  obtain ⟨methY, cY, hmY, hcY, -, hlY, -, -, -, -⟩ := Cond.code_spec hn h2
  obtain ⟨kY, hkY, -⟩ := className_of_methodNamed hn
  have hinitY : kY.init = .initialized := Cond.initialized_spec (findClass_of_methodNamed hn) hkY h3
  have h : At U g.method c below := by rw [hg]; exact X.here
  have hlocals9 : W9 + (maxL + 11) + (headSpec ws rm).room.locals ≤ R.locals := hlocals
  have happ : (headSpec ws rm).appliesLoose y e.platform (U.calling g mk a) = true :=
    Spec.appliesLoose_calling (g := g) h hdg hn hkY hinitY
      (X.room_calling (g := g) (R' := (headSpec ws rm).room) hsize hmY hcY hframes (by rw [hlY]; omega) h4 h5) h1
  obtain ⟨mid, hmid⟩ := h.above
  have hfr : (U.setTop g).frames = (.java g :: mid) ++ below := by rw [State.frames_setTop' g h.top, hmid]; rfl
  obtain ⟨o, s₂, hsteps, -, hend, hq⟩ := Steps.callFree hM p X.admits X.cas X.clock (acts := []) hfr happ hPc trivial
  have hq' : vx_Q Qc XC mc ms free a (U.calling g mk a) o s₂ := hq
  rw [State.frames_setTop' g h.top] at hend
  obtain ⟨g₀, hg0⟩ := Option.isSome_iff_exists.mp h.top
  obtain ⟨r, hr⟩ := State.topJava?_eq_some.mp hg0
  have hr' : (({ U with heap := s₂.heap, slotsUsed := s₂.slotsUsed } : State).setVm s₂.vm).frames = .java g₀ :: r := hr
  rcases hq' with ⟨hqc, L, hfe, hL⟩ | ⟨q, rfl, E, ce, L, hx, hce, hcv, hcl, hW₂, hsm, hL⟩
  · obtain ⟨⟨v, rfl⟩, hW₂, e2, q2, q3, q4, q5, q6⟩ := id hfe
    have e3 : s₂ = ({ (U.calling g mk a).setFrames s₂.frames with heap := s₂.heap, slotsUsed := s₂.slotsUsed } : State).setVm s₂.vm := by
      have : s₂ = ({ s₂ with vm := (U.calling g mk a).vm } : State).setVm s₂.vm := rfl
      rw [e2] at this
      exact this
    obtain ⟨c₂, i₂, len₂, hc₂, hd₂, hf₂⟩ := hend
    have hW' : U.WarmedH s₂.vm := hW₂
    have hcc : c₂ = c := by
      have h1 : s₂.code? g.method = U.code? g.method := by
        rw [State.code?_eq, State.code?_eq, hW'.alike.method?]
      exact Option.some.inj (hc₂.symm.trans (h1.trans h.code))
    subst hcc
    have hlen : len₂ = len := by rw [hdg] at hd₂; cases hd₂; rfl
    subst hlen
    have hs₂ : s₂ = (({ U with heap := s₂.heap, slotsUsed := s₂.slotsUsed } : State).setVm s₂.vm).setTop { g with pc := g.pc + len₂, stack := v.toList ++ g.stack } := by
      refine e3.trans ?_
      rw [hf₂, State.calling_eq h.top, State.setFrames_setFrames, State.setTop_of_frames _ hr', hr]
      rfl
    have hsame : U.sameButNew ({ U with heap := s₂.heap, slotsUsed := s₂.slotsUsed } : State) L mc ms := by
      refine ⟨?_, q2, q3, q4, q5, q6⟩
      obtain ⟨t, ht, -⟩ := State.frames_cons hr
      show ({ U with heap := s₂.heap, slotsUsed := s₂.slotsUsed } : State) = { U.setFrames U.frames with heap := s₂.heap, slotsUsed := s₂.slotsUsed }
      rw [State.setFrames_self ht]
    subst hg
    refine Or.inl ⟨v, ⟨(({ U with heap := s₂.heap, slotsUsed := s₂.slotsUsed } : State).setVm s₂.vm), Ls ++ L, c0 + mc, s0 + ms⟩,
      ⟨X.admits, X.cas, X.clock, X.frames, X.room, X.hears, X.method, X.code, (X.here.setHeapUsed s₂.heap s₂.slotsUsed).setVm hW'.alike, X.tail, State.WarmedH.trans X.warmed hW', X.limits, X.bytes, X.same.trans (hsame.setVm s.vm)⟩,
      ⟨g, mk, s₂, L, rfl, rfl, hqc, rfl, hL, rfl, rfl⟩, ?_⟩
    show Steps p.tables e below _ ((({ U with heap := s₂.heap, slotsUsed := s₂.slotsUsed } : State).setVm s₂.vm).setTop { g with pc := g.pc + len₂, stack := v.toList ++ g.stack })
    rw [← hs₂]
    exact hsteps
  · obtain ⟨e2, q2, q3, q4, q5, q6⟩ := id hsm
    have e3 : s₂ = ({ (U.calling g mk a).setFrames s₂.frames with heap := s₂.heap, slotsUsed := s₂.slotsUsed } : State).setVm s₂.vm := by
      have : s₂ = ({ s₂ with vm := (U.calling g mk a).vm } : State).setVm s₂.vm := rfl
      rw [e2] at this
      exact this
    have hf₂ : s₂.frames = .throwing q :: .java g :: U.frames.tail := hend
    have hW' : U.WarmedH s₂.vm := hW₂
    have hs₂ : s₂ = ((({ U with heap := s₂.heap, slotsUsed := s₂.slotsUsed } : State).setVm s₂.vm).setTop g).pushFrame (.throwing q) := by
      refine e3.trans ?_
      rw [hf₂, State.calling_eq h.top, State.setFrames_setFrames, State.pushFrame, State.frames_setTop _ hr', State.setTop_of_frames _ hr', State.setFrames_setFrames, hr]
      rfl
    have hsame : U.sameButNew ({ U with heap := s₂.heap, slotsUsed := s₂.slotsUsed } : State) L mc ms := by
      refine ⟨?_, q2, q3, q4, q5, q6⟩
      obtain ⟨t, ht, -⟩ := State.frames_cons hr
      show ({ U with heap := s₂.heap, slotsUsed := s₂.slotsUsed } : State) = { U.setFrames U.frames with heap := s₂.heap, slotsUsed := s₂.slotsUsed }
      rw [State.setFrames_self ht]
    subst hg
    refine Or.inr ⟨q, ⟨(({ U with heap := s₂.heap, slotsUsed := s₂.slotsUsed } : State).setVm s₂.vm), Ls ++ L, c0 + mc, s0 + ms⟩,
      ⟨X.admits, X.cas, X.clock, X.frames, X.room, X.hears, X.method, X.code, (X.here.setHeapUsed s₂.heap s₂.slotsUsed).setVm hW'.alike, X.tail, State.WarmedH.trans X.warmed hW', X.limits, X.bytes, X.same.trans (hsame.setVm s.vm)⟩,
      ⟨g, mk, s₂, L, E, ce, rfl, rfl, hx, hce, hcv, hcl, rfl, hL, rfl, rfl⟩, ?_⟩
    show Steps p.tables e below _ (((({ U with heap := s₂.heap, slotsUsed := s₂.slotsUsed } : State).setVm s₂.vm).setTop g).pushFrame (.throwing q))
    rw [← hs₂]
    exact hsteps
end Payer
section Calls
variable {p : Program} {l : Launch} {e : Env} {R : Room} {s : State} {m : MethodId} {args : Array Value} {below : List Frame} {meth : Method} {c : Code} {T : State} {locs : List Loc} {cells slots : Nat}
theorem vx_callV (X : Stand p l e R s m args below meth c T locs cells slots) (hexec : p.tables.exec = Jvm.exec) {own C : String} {index : Nat} {y : MethodName} {bytes : ByteArray} {maxL : Nat} {ret : Option FieldType}
    (hown : s.vm.findClass own = some m.cls) (hlink : (Cond.methodLink own index y).before args s = true) (hinst : (Cond.instanceMethod y).before args s = true) (hsel : (Cond.selects C y y).before args s = true)
    (hcode : (Cond.code y bytes maxL ret).before args s = true) (hy : y.cls ≠ "java/lang/invoke/MethodHandle" ∧ y.cls ≠ "java/lang/invoke/VarHandle")
    {W9 : Nat} {Pre : Pt → Array Value → Prop} {Post : Pt → Array Value → Option Value → Pt → Prop} {PostX : Pt → Array Value → Addr → Pt → Prop} (hK : vx_Back l R p e below s args y 3 W9 Pre Post PostX)
    {b : Addr} {cellB : Cell} (hcell : T.heap[b]? = some cellB) (hobj : cellB.vm.isStatics = false) (hcls : s.vm.findClass C = some cellB.cls)
    {g : JFrame} (hg : g.method = m) (hsize : g.locals.size = c.maxLocals) {argsL rest : List Value} (hlen : ∀ sig, parseMethodDescriptor y.desc = some sig → argsL.length = sig.parameters.length)
    (hstack : g.stack = argsL.reverse ++ .ref b :: rest) (hW : 2 * g.monitorRoom + (rest.map fun v => v.category).sum ≤ W9) (hdg : decode c.code g.pc = .ok (.invokevirtual index, 3))
    (hpre : ∀ vm₁, s.WarmedH vm₁ → Pre ⟨T.setVm vm₁, locs, cells, slots⟩ (Value.ref b :: argsL).toArray) :
    (∃ (v : Option Value) (vm₁ : Vm) (B : Pt), s.WarmedH vm₁ ∧ Stand p l e R s m args below meth c B.U B.locs B.cells B.slots ∧ Post ⟨T.setVm vm₁, locs, cells, slots⟩ (Value.ref b :: argsL).toArray v B ∧
      ∀ target, Steps p.tables e below (B.U.setTop { g with pc := g.pc + 3, stack := v.toList ++ rest }) target → Steps p.tables e below (T.setTop g) target) ∨
    (∃ (q : Addr) (vm₁ : Vm) (B : Pt), s.WarmedH vm₁ ∧ Stand p l e R s m args below meth c B.U B.locs B.cells B.slots ∧ PostX ⟨T.setVm vm₁, locs, cells, slots⟩ (Value.ref b :: argsL).toArray q B ∧
      Steps p.tables e below (T.setTop g) ((B.U.setTop { g with stack := rest }).pushFrame (.throwing q))) := by
  obtain ⟨mk, methM, hnamed, hmethM, hstM, habM⟩ := Cond.instanceMethod_spec hinst
  obtain ⟨methM', cM, hmethM', -, -, -, -, -, -, hsigM⟩ := Cond.code_spec hnamed hcode
  cases hmethM.symm.trans hmethM'
  obtain ⟨c2, r2, m2, q1, q2, q3, q4, kP, hkP, hkPi⟩ := Cond.selects_spec hsel
  cases hcls.symm.trans q1
  cases (State.methodFound?_of_named hnamed hy).symm.trans q2
  cases hnamed.symm.trans q3
  have hselP : selectMethod e.platform s.vm cellB.cls mk = .method mk := by rw [Launch.admits_selectMethod X.admits]; exact q4
  obtain ⟨vm₁, X₁, hstep₁⟩ := X.invokevirtual hexec hown hlink hnamed hmethM hstM hkP hkPi hy (a := b) (cell := cellB) hcell
    (fun z h => by rw [h] at hobj; cases hobj) hselP hmethM habM hkP hkPi (g := g) hg (argsL := argsL) (rest := rest) (hlen _ hsigM) hstack hdg
  rcases hK m meth c ⟨T.setVm vm₁, locs, cells, slots⟩ { g with stack := rest } (.invokevirtual index) mk (Value.ref b :: argsL).toArray X₁ hg hsize hdg hW (X₁.named hnamed) (hpre vm₁ X₁.warmed) with ⟨v, B, X', hpost, hsteps⟩ | ⟨q, B, X', hpost, hsteps⟩
  · exact Or.inl ⟨v, vm₁, B, X₁.warmed, X', hpost, fun target h => hstep₁ _ fun acts => by rw [doInvoke_state]; exact hsteps.trans h⟩
  · exact Or.inr ⟨q, vm₁, B, X₁.warmed, X', hpost, hstep₁ _ fun acts => by rw [doInvoke_state]; exact hsteps⟩
theorem vx_callS (X : Stand p l e R s m args below meth c T locs cells slots) (hexec : p.tables.exec = Jvm.exec) {own : String} {index : Nat} {y : MethodName} {bytes : ByteArray} {maxL : Nat} {ret : Option FieldType}
    (hown : s.vm.findClass own = some m.cls) (hlink : (Cond.methodLink own index y).before args s = true) (hstat : (Cond.static y).before args s = true) (hinit : (Cond.initialized y.cls).before args s = true)
    (hcode : (Cond.code y bytes maxL ret).before args s = true) (hy : y.cls ≠ "java/lang/invoke/MethodHandle" ∧ y.cls ≠ "java/lang/invoke/VarHandle")
    {W9 : Nat} {Pre : Pt → Array Value → Prop} {Post : Pt → Array Value → Option Value → Pt → Prop} {PostX : Pt → Array Value → Addr → Pt → Prop} (hK : vx_Back l R p e below s args y 3 W9 Pre Post PostX)
    {g : JFrame} (hg : g.method = m) (hsize : g.locals.size = c.maxLocals) {argsL rest : List Value} (hlen : ∀ sig, parseMethodDescriptor y.desc = some sig → argsL.length = sig.parameters.length)
    (hstack : g.stack = argsL.reverse ++ rest) (hW : 2 * g.monitorRoom + (rest.map fun v => v.category).sum ≤ W9) (hdg : decode c.code g.pc = .ok (.invokestatic index, 3))
    (hpre : ∀ vm₁, s.WarmedH vm₁ → Pre ⟨T.setVm vm₁, locs, cells, slots⟩ argsL.toArray) :
    (∃ (v : Option Value) (vm₁ : Vm) (B : Pt), s.WarmedH vm₁ ∧ Stand p l e R s m args below meth c B.U B.locs B.cells B.slots ∧ Post ⟨T.setVm vm₁, locs, cells, slots⟩ argsL.toArray v B ∧
      ∀ target, Steps p.tables e below (B.U.setTop { g with pc := g.pc + 3, stack := v.toList ++ rest }) target → Steps p.tables e below (T.setTop g) target) ∨
    (∃ (q : Addr) (vm₁ : Vm) (B : Pt), s.WarmedH vm₁ ∧ Stand p l e R s m args below meth c B.U B.locs B.cells B.slots ∧ PostX ⟨T.setVm vm₁, locs, cells, slots⟩ argsL.toArray q B ∧
      Steps p.tables e below (T.setTop g) ((B.U.setTop { g with stack := rest }).pushFrame (.throwing q))) := by
  obtain ⟨mk, hnamed⟩ := Cond.code_named hcode
  obtain ⟨methM, cM, hmethM, -, -, -, -, -, -, hsigM⟩ := Cond.code_spec hnamed hcode
  have hstatic : methM.isStatic = true := Cond.static_spec hnamed hmethM hstat
  obtain ⟨kP, hkP, -⟩ := className_of_methodNamed hnamed
  have hinitP : kP.init = .initialized := Cond.initialized_spec (findClass_of_methodNamed hnamed) hkP hinit
  obtain ⟨vm₁, X₁, hstep₁⟩ := X.invokestatic hexec hown hlink hnamed hmethM hstatic hkP hinitP hy (g := g) hg (argsL := argsL) (rest := rest) (hlen _ hsigM) hstack hdg
  rcases hK m meth c ⟨T.setVm vm₁, locs, cells, slots⟩ { g with stack := rest } (.invokestatic index) mk argsL.toArray X₁ hg hsize hdg hW (X₁.named hnamed) (hpre vm₁ X₁.warmed) with ⟨v, B, X', hpost, hsteps⟩ | ⟨q, B, X', hpost, hsteps⟩
  · exact Or.inl ⟨v, vm₁, B, X₁.warmed, X', hpost, fun target h => hstep₁ _ fun acts => by rw [doInvoke_state]; exact hsteps.trans h⟩
  · exact Or.inr ⟨q, vm₁, B, X₁.warmed, X', hpost, hstep₁ _ fun acts => by rw [doInvoke_state]; exact hsteps⟩
end Calls
theorem vx_cls {s : State} {T : State} {vm₁ : Vm} {E : String} {k : ClassId} (hW : s.WarmedH vm₁) (h : (T.setVm vm₁).vm.findClass E = some k) : s.vm.findClass E = some k := by
  have h1 : vm₁.findClass E = some k := h
  rw [hW.alike.findClass] at h1
  exact h1
/-- the method's frame g, with q thrown over it -/
def vx_W (p : Program) (l : Launch) (e : Env) (R : Room) (s : State) (m : MethodId) (args : Array Value) (below : List Frame) (meth : Method) (c : Code) (H : Heap) (locs : List Loc) (cells slots : Nat) (Q : State → Prop) (g : JFrame) (q : Addr) : Prop :=
  ∀ T : State, T.heap = H → Stand p l e R s m args below meth c T locs cells slots → ∃ t, Steps p.tables e below ((T.setTop g).pushFrame (.throwing q)) t ∧ Q t
def vx_Run (p : Program) (l : Launch) (e : Env) (R : Room) (s : State) (m : MethodId) (args : Array Value) (below : List Frame) (meth : Method) (c : Code) (H : Heap) (locs : List Loc) (cells slots mc ms : Nat) (g : JFrame) (rest : List Value) (Qa : State → Outcome → State → Prop) (XC : String → State → State → Prop) (free : Addr → Prop) : Prop :=
  ∀ T : State, T.heap = H → Stand p l e R s m args below meth c T locs cells slots →
    (∃ (v : Option Value) (st₀ t T' : State) (L : List Loc), st₀.heap = H ∧ Stand p l e R s m args below meth c T' (locs ++ L) (cells + mc) (slots + ms) ∧ (∀ q ∈ L, free q.base) ∧ T'.heap = t.heap ∧ T'.vm = t.vm ∧ Qa st₀ (.returned v) t ∧
      Goes p e below T g T' { g with pc := g.pc + 3, stack := v.toList ++ rest }) ∨
    (∃ (q : Addr) (st₀ t T' : State) (L : List Loc) (E : String) (ce : Cell), st₀.heap = H ∧ Stand p l e R s m args below meth c T' (locs ++ L) (cells + mc) (slots + ms) ∧ (∀ z ∈ L, free z.base) ∧ T'.heap = t.heap ∧ T'.vm = t.vm ∧ XC E st₀ t ∧ t.heap[q]? = some ce ∧ ce.vm = .none ∧ s.vm.findClass E = some ce.cls ∧
      Steps p.tables e below (T.setTop g) ((T'.setTop { g with stack := rest }).pushFrame (.throwing q)))
def vx_X {S : Type} (px : S → Prop) (B : String → S → State → Prop) (A : Nat → Prop) : String → State → State → Prop := fun E st t => ∃ u : S, px u ∧ B E u t ∧ va_F A st t
section Runs
variable {p : Program} {l : Launch} {e : Env} {R : Room} {s : State} {m : MethodId} {args : Array Value} {below : List Frame} {meth : Method} {c : Code} {H : Heap} {locs : List Loc} {cells slots : Nat}
variable {y : MethodName} {bytes cc : ByteArray} {maxL nL mc ms n index : Nat} {ret : Option FieldType} {ws : List Cond} {rm : Room} {Pc : Array Value → State → Prop} {Qc : Array Value → State → Outcome → State → Prop} {XC : String → State → State → Prop} {free : Addr → Prop} {Ts : List Cond} {own C : String} {b : Addr} {As rest : List Value} {g : JFrame}
theorem vx_callBack (cb : CallB R s args own index y bytes maxL ret ws rm mc ms n) (hM : vx_Met l y ws rm Pc Qc XC mc ms free) (hbl : FrameBlind Pc) : vx_Back l R p e below s args y 3 8 (PreOf R mc ms Pc) (PostOf Qc mc ms free) (vx_Post XC mc ms free) := by
  obtain ⟨hrc, hrs, hfr, hlo, hws, hcw, -, hini, -⟩ := cb
  exact vx_back (bytes := bytes) (maxL := maxL) (ret := ret) hM hbl hrc hrs hfr hlo hws hcw (fun a' U hW => word_at hW (Or.inl (by first | rfl | simp [Cond.onTables, Cond.keeps, Cond.steady])) hini)
theorem vx_runV (S : CallFix p m c cc nL s args Ts own) (hM : vx_Met l y ws rm Pc Qc XC mc ms free) (cw : CallW R s args own C index y bytes maxL ret ws rm mc ms n) (hp : PreV s H C b Pc As)
    (hg : g.method = m) (hn : As.length = n) (hsize : g.locals.size = nL) (hstack : g.stack = As.reverse ++ .ref b :: rest) (hW : 2 * g.monitorRoom + (rest.map fun v => v.category).sum ≤ 8) (hdg : decode cc g.pc = .ok (.invokevirtual index, 3)) (hf : cells + mc ≤ R.cells ∧ slots + ms ≤ R.slots) :
    vx_Run p l e R s m args below meth c H locs cells slots mc ms g rest (Qc (Value.ref b :: As).toArray) XC free := by
  have hK : vx_Back l R p e below s args y 3 8 (PreOf R mc ms Pc) (PostOf Qc mc ms free) (vx_Post XC mc ms free) := vx_callBack cw.1 hM hp.1
  obtain ⟨⟨-, -, -, -, -, -, hcode, -, hy, hlen, hl⟩, hin, hse⟩ := cw
  obtain ⟨hx, hb, hml, ho, -⟩ := S
  obtain ⟨-, ⟨cellB, hcB, hoB, hclB⟩, hPc⟩ := hp
  intro T hT X
  rcases vx_callV X hx (C := C) (bytes := bytes) (maxL := maxL) (ret := ret) ho hl hin hse hcode hy hK (by rw [hT]; exact hcB) hoB hclB hg (hsize.trans hml.symm) (argsL := As) (rest := rest) (fun sig h => hn.trans (hlen sig h)) hstack hW (by rw [hb]; exact hdg)
    (fun vm₁ hW₁ => ⟨hf.1, hf.2, hPc (T.setVm vm₁) hT hW₁⟩) with ⟨v, vm₁, ⟨U', l2, c2, s2⟩, hW₁, X', ⟨g', mk, t, L, e1, e2, hq, h1, hL, h2, h3⟩, st⟩ | ⟨q, vm₁, ⟨U', l2, c2, s2⟩, hW₁, X', ⟨g', mk, t, L, E, ce, e1, e2, hq, hce, hcv, hcl, h1, hL, h2, h3⟩, st⟩
  · dsimp only [Pt.U, Pt.locs, Pt.cells, Pt.slots] at X' e1 e2 h1 h2 h3 st
    subst h1; subst h2; subst h3
    exact Or.inl ⟨v, (T.setVm vm₁).calling g' mk (Value.ref b :: As).toArray, t, U', L, hT, X', hL, e1, e2, hq, st⟩
  · dsimp only [Pt.U, Pt.locs, Pt.cells, Pt.slots] at X' e1 e2 h1 h2 h3 st hcl
    subst h1; subst h2; subst h3
    exact Or.inr ⟨q, (T.setVm vm₁).calling g' mk (Value.ref b :: As).toArray, t, U', L, E, ce, hT, X', hL, e1, e2, hq, hce, hcv, vx_cls hW₁ hcl, st⟩
theorem vx_runS (S : CallFix p m c cc nL s args Ts own) (hM : vx_Met l y ws rm Pc Qc XC mc ms free) (cw : CallB R s args own index y bytes maxL ret ws rm mc ms n ∧ (Cond.static y).before args s = true) (hp : PreS s H Pc As)
    (hg : g.method = m) (hn : As.length = n) (hsize : g.locals.size = nL) (hstack : g.stack = As.reverse ++ rest) (hW : 2 * g.monitorRoom + (rest.map fun v => v.category).sum ≤ 8) (hdg : decode cc g.pc = .ok (.invokestatic index, 3)) (hf : cells + mc ≤ R.cells ∧ slots + ms ≤ R.slots) :
    vx_Run p l e R s m args below meth c H locs cells slots mc ms g rest (Qc As.toArray) XC free := by
  have hK : vx_Back l R p e below s args y 3 8 (PreOf R mc ms Pc) (PostOf Qc mc ms free) (vx_Post XC mc ms free) := vx_callBack cw.1 hM hp.1
  obtain ⟨⟨-, -, -, -, -, -, hcode, hini, hy, hlen, hl⟩, hstt⟩ := cw
  obtain ⟨hx, hb, hml, ho, -⟩ := S
  intro T hT X
  rcases vx_callS X hx (bytes := bytes) (maxL := maxL) (ret := ret) ho hl hstt hini hcode hy hK hg (hsize.trans hml.symm) (argsL := As) (rest := rest) (fun sig h => hn.trans (hlen sig h)) hstack hW (by rw [hb]; exact hdg)
    (fun vm₁ hW₁ => ⟨hf.1, hf.2, hp.2 (T.setVm vm₁) hT hW₁⟩) with ⟨v, vm₁, ⟨U', l2, c2, s2⟩, hW₁, X', ⟨g', mk, t, L, e1, e2, hq, h1, hL, h2, h3⟩, st⟩ | ⟨q, vm₁, ⟨U', l2, c2, s2⟩, hW₁, X', ⟨g', mk, t, L, E, ce, e1, e2, hq, hce, hcv, hcl, h1, hL, h2, h3⟩, st⟩
  · dsimp only [Pt.U, Pt.locs, Pt.cells, Pt.slots] at X' e1 e2 h1 h2 h3 st
    subst h1; subst h2; subst h3
    exact Or.inl ⟨v, (T.setVm vm₁).calling g' mk As.toArray, t, U', L, hT, X', hL, e1, e2, hq, st⟩
  · dsimp only [Pt.U, Pt.locs, Pt.cells, Pt.slots] at X' e1 e2 h1 h2 h3 st hcl
    subst h1; subst h2; subst h3
    exact Or.inr ⟨q, (T.setVm vm₁).calling g' mk As.toArray, t, U', L, E, ce, hT, X', hL, e1, e2, hq, hce, hcv, vx_cls hW₁ hcl, st⟩
end Runs
section Rows
variable {p : Program} {l : Launch} {e : Env} {R : Room} {s : State} {m : MethodId} {args : Array Value} {below : List Frame} {meth : Method} {c : Code} {H : Heap} {locs : List Loc} {cells slots : Nat} {Q : State → Prop}
variable {mc ms : Nat} {free : Addr → Prop} {A0 A1 : Nat → Prop} {H0 : Heap} {a : Array Value} {pc : Nat} {ls : Array Slot} {st0 rest : List Value}
theorem vx_keep {st₀ t T' : State} {L : List Loc} (h0 : st₀.heap = H) (e1 : T'.heap = t.heap) (hS : va_S A0 H0 H locs) (hA : ∀ q, q < H.size → A1 q → A0 q) (hf : ∀ q, free q → A0 q) (hL : ∀ q ∈ L, free q.base) (hF : va_F A1 st₀ t) :
    H.size ≤ T'.heap.size ∧ (∀ q : Nat, q < H.size → ¬ A1 q → T'.heap[q]? = H[q]?) ∧ va_S A0 H0 T'.heap (locs ++ L) := by
  obtain ⟨hz, hk⟩ := hF
  rw [h0] at hz hk
  exact ⟨by rw [e1]; exact hz, fun q h1 h2 => by rw [e1]; exact hk q h1 h2,
    ⟨Nat.le_trans hS.1 (by rw [e1]; exact hz), fun q h1 h2 => by rw [e1, hk q (Nat.lt_of_lt_of_le h1 hS.1) (fun z => h2 (hA q (Nat.lt_of_lt_of_le h1 hS.1) z))]; exact hS.2.1 q h1 h2, fun q hq => by
      rcases List.mem_append.mp hq with h | h
      · exact hS.2.2 q h
      · exact hf _ (hL q h)⟩⟩
theorem vx_calli {S SX : Type} {post : Int32 → S → Prop} {px : SX → Prop} {B : S → State → Prop} {BX : String → SX → State → Prop} {AX : Nat → Prop} (hr : vx_Run p l e R s m args below meth c H locs cells slots mc ms (F0 m pc ls st0) rest (va_Qi post B A1 a) (vx_X px BX AX) free) (hS : va_S A0 H0 H locs) (hA : ∀ q, q < H.size → A1 q → A0 q) (hf : ∀ q, free q → A0 q) (hAX : ∀ q, q < H.size → AX q → A0 q)
    (kx : ∀ (E : String) (ce : Cell) (q9 : Addr) (u : SX) (t : State) (H1 : Heap) (locs1 : List Loc), t.heap = H1 → s.vm.Alike t.vm → px u → BX E u t → H.size ≤ H1.size → (∀ q : Nat, q < H.size → ¬ AX q → H1[q]? = H[q]?) → va_S A0 H0 H1 locs1 → H1[q9]? = some ce → ce.vm = .none → s.vm.findClass E = some ce.cls → vx_W p l e R s m args below meth c H1 locs1 (cells + mc) (slots + ms) Q (F0 m pc ls rest) q9)
    (kk : ∀ (r : Int32) (u : S) (t : State) (H1 : Heap) (locs1 : List Loc), t.heap = H1 → s.vm.Alike t.vm → post r u → B u t → H.size ≤ H1.size → (∀ q : Nat, q < H.size → ¬ A1 q → H1[q]? = H[q]?) → va_S A0 H0 H1 locs1 → W p l e R s m args below meth c H1 locs1 (cells + mc) (slots + ms) Q (F0 m (pc + 3) ls (.int r :: rest))) : W p l e R s m args below meth c H locs cells slots Q (F0 m pc ls st0) := by
  intro T hT X
  rcases hr T hT X with ⟨v, st₀, t, T', L, h0, X', hL, e1, e2, ⟨⟨r, u, hv, hp, hb⟩, hF⟩, st⟩ | ⟨q, st₀, t, T', L, E, ce, h0, X', hL, e1, e2, ⟨u, hp, hb, hF⟩, hce, hcv, hcl, st⟩
  · cases hv
    obtain ⟨k1, k2, k3⟩ := vx_keep h0 e1 hS hA hf hL hF
    obtain ⟨t2, a1, b1⟩ := kk r u t T'.heap (locs ++ L) e1.symm (by rw [← e2]; exact X'.warmed.alike) hp hb k1 k2 k3 T' rfl X'
    exact ⟨t2, st t2 a1, b1⟩
  · obtain ⟨k1, k2, k3⟩ := vx_keep h0 e1 hS hAX hf hL hF
    obtain ⟨t2, a1, b1⟩ := kx E ce q u t T'.heap (locs ++ L) e1.symm (by rw [← e2]; exact X'.warmed.alike) hp hb k1 k2 k3 (by rw [e1]; exact hce) hcv hcl T' rfl X'
    exact ⟨t2, st.trans a1, b1⟩
theorem vx_calll {S SX : Type} {post : Int64 → S → Prop} {px : SX → Prop} {B : S → State → Prop} {BX : String → SX → State → Prop} {AX : Nat → Prop} (hr : vx_Run p l e R s m args below meth c H locs cells slots mc ms (F0 m pc ls st0) rest (va_Ql post B A1 a) (vx_X px BX AX) free) (hS : va_S A0 H0 H locs) (hA : ∀ q, q < H.size → A1 q → A0 q) (hf : ∀ q, free q → A0 q) (hAX : ∀ q, q < H.size → AX q → A0 q)
    (kx : ∀ (E : String) (ce : Cell) (q9 : Addr) (u : SX) (t : State) (H1 : Heap) (locs1 : List Loc), t.heap = H1 → s.vm.Alike t.vm → px u → BX E u t → H.size ≤ H1.size → (∀ q : Nat, q < H.size → ¬ AX q → H1[q]? = H[q]?) → va_S A0 H0 H1 locs1 → H1[q9]? = some ce → ce.vm = .none → s.vm.findClass E = some ce.cls → vx_W p l e R s m args below meth c H1 locs1 (cells + mc) (slots + ms) Q (F0 m pc ls rest) q9)
    (kk : ∀ (r : Int64) (u : S) (t : State) (H1 : Heap) (locs1 : List Loc), t.heap = H1 → s.vm.Alike t.vm → post r u → B u t → H.size ≤ H1.size → (∀ q : Nat, q < H.size → ¬ A1 q → H1[q]? = H[q]?) → va_S A0 H0 H1 locs1 → W p l e R s m args below meth c H1 locs1 (cells + mc) (slots + ms) Q (F0 m (pc + 3) ls (.long r :: rest))) : W p l e R s m args below meth c H locs cells slots Q (F0 m pc ls st0) := by
  intro T hT X
  rcases hr T hT X with ⟨v, st₀, t, T', L, h0, X', hL, e1, e2, ⟨⟨r, u, hv, hp, hb⟩, hF⟩, st⟩ | ⟨q, st₀, t, T', L, E, ce, h0, X', hL, e1, e2, ⟨u, hp, hb, hF⟩, hce, hcv, hcl, st⟩
  · cases hv
    obtain ⟨k1, k2, k3⟩ := vx_keep h0 e1 hS hA hf hL hF
    obtain ⟨t2, a1, b1⟩ := kk r u t T'.heap (locs ++ L) e1.symm (by rw [← e2]; exact X'.warmed.alike) hp hb k1 k2 k3 T' rfl X'
    exact ⟨t2, st t2 a1, b1⟩
  · obtain ⟨k1, k2, k3⟩ := vx_keep h0 e1 hS hAX hf hL hF
    obtain ⟨t2, a1, b1⟩ := kx E ce q u t T'.heap (locs ++ L) e1.symm (by rw [← e2]; exact X'.warmed.alike) hp hb k1 k2 k3 (by rw [e1]; exact hce) hcv hcl T' rfl X'
    exact ⟨t2, st.trans a1, b1⟩
theorem vx_callf {S SX : Type} {post : UInt32 → S → Prop} {px : SX → Prop} {B : S → State → Prop} {BX : String → SX → State → Prop} {AX : Nat → Prop} (hr : vx_Run p l e R s m args below meth c H locs cells slots mc ms (F0 m pc ls st0) rest (va_Qf post B A1 a) (vx_X px BX AX) free) (hS : va_S A0 H0 H locs) (hA : ∀ q, q < H.size → A1 q → A0 q) (hf : ∀ q, free q → A0 q) (hAX : ∀ q, q < H.size → AX q → A0 q)
    (kx : ∀ (E : String) (ce : Cell) (q9 : Addr) (u : SX) (t : State) (H1 : Heap) (locs1 : List Loc), t.heap = H1 → s.vm.Alike t.vm → px u → BX E u t → H.size ≤ H1.size → (∀ q : Nat, q < H.size → ¬ AX q → H1[q]? = H[q]?) → va_S A0 H0 H1 locs1 → H1[q9]? = some ce → ce.vm = .none → s.vm.findClass E = some ce.cls → vx_W p l e R s m args below meth c H1 locs1 (cells + mc) (slots + ms) Q (F0 m pc ls rest) q9)
    (kk : ∀ (r : UInt32) (u : S) (t : State) (H1 : Heap) (locs1 : List Loc), t.heap = H1 → s.vm.Alike t.vm → post r u → B u t → H.size ≤ H1.size → (∀ q : Nat, q < H.size → ¬ A1 q → H1[q]? = H[q]?) → va_S A0 H0 H1 locs1 → W p l e R s m args below meth c H1 locs1 (cells + mc) (slots + ms) Q (F0 m (pc + 3) ls (.float r :: rest))) : W p l e R s m args below meth c H locs cells slots Q (F0 m pc ls st0) := by
  intro T hT X
  rcases hr T hT X with ⟨v, st₀, t, T', L, h0, X', hL, e1, e2, ⟨⟨r, u, hv, hp, hb⟩, hF⟩, st⟩ | ⟨q, st₀, t, T', L, E, ce, h0, X', hL, e1, e2, ⟨u, hp, hb, hF⟩, hce, hcv, hcl, st⟩
  · cases hv
    obtain ⟨k1, k2, k3⟩ := vx_keep h0 e1 hS hA hf hL hF
    obtain ⟨t2, a1, b1⟩ := kk r u t T'.heap (locs ++ L) e1.symm (by rw [← e2]; exact X'.warmed.alike) hp hb k1 k2 k3 T' rfl X'
    exact ⟨t2, st t2 a1, b1⟩
  · obtain ⟨k1, k2, k3⟩ := vx_keep h0 e1 hS hAX hf hL hF
    obtain ⟨t2, a1, b1⟩ := kx E ce q u t T'.heap (locs ++ L) e1.symm (by rw [← e2]; exact X'.warmed.alike) hp hb k1 k2 k3 (by rw [e1]; exact hce) hcv hcl T' rfl X'
    exact ⟨t2, st.trans a1, b1⟩
theorem vx_calld {S SX : Type} {post : UInt64 → S → Prop} {px : SX → Prop} {B : S → State → Prop} {BX : String → SX → State → Prop} {AX : Nat → Prop} (hr : vx_Run p l e R s m args below meth c H locs cells slots mc ms (F0 m pc ls st0) rest (va_Qd post B A1 a) (vx_X px BX AX) free) (hS : va_S A0 H0 H locs) (hA : ∀ q, q < H.size → A1 q → A0 q) (hf : ∀ q, free q → A0 q) (hAX : ∀ q, q < H.size → AX q → A0 q)
    (kx : ∀ (E : String) (ce : Cell) (q9 : Addr) (u : SX) (t : State) (H1 : Heap) (locs1 : List Loc), t.heap = H1 → s.vm.Alike t.vm → px u → BX E u t → H.size ≤ H1.size → (∀ q : Nat, q < H.size → ¬ AX q → H1[q]? = H[q]?) → va_S A0 H0 H1 locs1 → H1[q9]? = some ce → ce.vm = .none → s.vm.findClass E = some ce.cls → vx_W p l e R s m args below meth c H1 locs1 (cells + mc) (slots + ms) Q (F0 m pc ls rest) q9)
    (kk : ∀ (r : UInt64) (u : S) (t : State) (H1 : Heap) (locs1 : List Loc), t.heap = H1 → s.vm.Alike t.vm → post r u → B u t → H.size ≤ H1.size → (∀ q : Nat, q < H.size → ¬ A1 q → H1[q]? = H[q]?) → va_S A0 H0 H1 locs1 → W p l e R s m args below meth c H1 locs1 (cells + mc) (slots + ms) Q (F0 m (pc + 3) ls (.double r :: rest))) : W p l e R s m args below meth c H locs cells slots Q (F0 m pc ls st0) := by
  intro T hT X
  rcases hr T hT X with ⟨v, st₀, t, T', L, h0, X', hL, e1, e2, ⟨⟨r, u, hv, hp, hb⟩, hF⟩, st⟩ | ⟨q, st₀, t, T', L, E, ce, h0, X', hL, e1, e2, ⟨u, hp, hb, hF⟩, hce, hcv, hcl, st⟩
  · cases hv
    obtain ⟨k1, k2, k3⟩ := vx_keep h0 e1 hS hA hf hL hF
    obtain ⟨t2, a1, b1⟩ := kk r u t T'.heap (locs ++ L) e1.symm (by rw [← e2]; exact X'.warmed.alike) hp hb k1 k2 k3 T' rfl X'
    exact ⟨t2, st t2 a1, b1⟩
  · obtain ⟨k1, k2, k3⟩ := vx_keep h0 e1 hS hAX hf hL hF
    obtain ⟨t2, a1, b1⟩ := kx E ce q u t T'.heap (locs ++ L) e1.symm (by rw [← e2]; exact X'.warmed.alike) hp hb k1 k2 k3 (by rw [e1]; exact hce) hcv hcl T' rfl X'
    exact ⟨t2, st.trans a1, b1⟩
theorem vx_callv {S SX : Type} {post : S → Prop} {px : SX → Prop} {B : S → State → Prop} {BX : String → SX → State → Prop} {AX : Nat → Prop} (hr : vx_Run p l e R s m args below meth c H locs cells slots mc ms (F0 m pc ls st0) rest (va_Qv post B A1 a) (vx_X px BX AX) free) (hS : va_S A0 H0 H locs) (hA : ∀ q, q < H.size → A1 q → A0 q) (hf : ∀ q, free q → A0 q) (hAX : ∀ q, q < H.size → AX q → A0 q)
    (kx : ∀ (E : String) (ce : Cell) (q9 : Addr) (u : SX) (t : State) (H1 : Heap) (locs1 : List Loc), t.heap = H1 → s.vm.Alike t.vm → px u → BX E u t → H.size ≤ H1.size → (∀ q : Nat, q < H.size → ¬ AX q → H1[q]? = H[q]?) → va_S A0 H0 H1 locs1 → H1[q9]? = some ce → ce.vm = .none → s.vm.findClass E = some ce.cls → vx_W p l e R s m args below meth c H1 locs1 (cells + mc) (slots + ms) Q (F0 m pc ls rest) q9)
    (kk : ∀ (u : S) (t : State) (H1 : Heap) (locs1 : List Loc), t.heap = H1 → s.vm.Alike t.vm → post u → B u t → H.size ≤ H1.size → (∀ q : Nat, q < H.size → ¬ A1 q → H1[q]? = H[q]?) → va_S A0 H0 H1 locs1 → W p l e R s m args below meth c H1 locs1 (cells + mc) (slots + ms) Q (F0 m (pc + 3) ls (rest))) : W p l e R s m args below meth c H locs cells slots Q (F0 m pc ls st0) := by
  intro T hT X
  rcases hr T hT X with ⟨v, st₀, t, T', L, h0, X', hL, e1, e2, ⟨⟨u, hv, hp, hb⟩, hF⟩, st⟩ | ⟨q, st₀, t, T', L, E, ce, h0, X', hL, e1, e2, ⟨u, hp, hb, hF⟩, hce, hcv, hcl, st⟩
  · cases hv
    obtain ⟨k1, k2, k3⟩ := vx_keep h0 e1 hS hA hf hL hF
    obtain ⟨t2, a1, b1⟩ := kk u t T'.heap (locs ++ L) e1.symm (by rw [← e2]; exact X'.warmed.alike) hp hb k1 k2 k3 T' rfl X'
    exact ⟨t2, st t2 a1, b1⟩
  · obtain ⟨k1, k2, k3⟩ := vx_keep h0 e1 hS hAX hf hL hF
    obtain ⟨t2, a1, b1⟩ := kx E ce q u t T'.heap (locs ++ L) e1.symm (by rw [← e2]; exact X'.warmed.alike) hp hb k1 k2 k3 (by rw [e1]; exact hce) hcv hcl T' rfl X'
    exact ⟨t2, st.trans a1, b1⟩
/-- caught by the row x of this method's table; the rows ahead don't take it -/
theorem vx_catch {own name : String} {E : String} {ce : Cell} {q : Addr} (hown : s.vm.findClass own = some m.cls) (pre : List ExceptionTableEntry) (x : ExceptionTableEntry) (suf : List ExceptionTableEntry) (hsplit : c.exceptionTable.toList = pre ++ x :: suf)
    (hpass : ∀ z ∈ pre, covers z pc = false ∨ (z.catchType ≠ 0 ∧ ∃ nm : String, (Cond.classLink own z.catchType nm).before args s = true ∧ va_Nc E nm s)) (hx : covers x pc = true) (h0 : x.catchType ≠ 0)
    (hlink : (Cond.classLink own x.catchType name).before args s = true) (hcast : (Cond.castable E name).before args s = true) (hcell : H[q]? = some ce) (hv : ce.vm = .none) (hcl : s.vm.findClass E = some ce.cls)
    (kk : W p l e R s m args below meth c H locs cells slots Q (F0 m x.handlerPc ls [.ref q])) : vx_W p l e R s m args below meth c H locs cells slots Q (F0 m pc ls rest) q := by
  intro T hT X
  have hpl : e.platform.magicAccessors = ({} : Platform).magicAccessors := by rw [X.admits.platform]
  obtain ⟨c3, c4, hc3, hc4, hasg⟩ := Cond.castable_spec hcast
  cases Option.some.inj (hc3.symm.trans hcl)
  obtain ⟨c5, hc5, hcl5⟩ := Cond.classLink_spec hown hlink e.platform hpl
  cases Option.some.inj (hc4.symm.trans hc5)
  obtain ⟨vm', X', st⟩ := X.thenCaughtThrough q (g := F0 m pc ls rest) rfl (Steps.refl _) (by rw [hT]; exact hcell) (by rw [hv]; rfl) (by obtain ⟨k9, h9, -⟩ := Vm.findClass_spec hcl; exact ⟨k9, h9⟩) pre x suf hsplit
    (fun z hz => by
      rcases hpass z hz with h | ⟨hz0, nm, hl1, hn1⟩
      · exact Or.inl h
      · obtain ⟨c6, hc6, hcl6⟩ := Cond.classLink_spec hown hl1 e.platform hpl
        obtain ⟨a8, b8, h1, h2, h3⟩ := hn1
        cases Option.some.inj (h1.symm.trans hcl)
        cases Option.some.inj (h2.symm.trans hc6)
        exact Or.inr ⟨hz0, _, hcl6, h3⟩) hx (Or.inr ⟨h0, c4, hcl5, hasg⟩)
  obtain ⟨t, a1, b1⟩ := kk (T.setVm vm') hT X'
  exact ⟨t, st.trans a1, b1⟩
end Rows
section Ends
variable {p : Program} {l : Launch} {e : Env} {R : Room} {s : State} {m : MethodId} {args : Array Value} {below : List Frame} {meth : Method} {c : Code} {H : Heap} {locs : List Loc} {cells slots : Nat} {Q : State → Prop}
variable {mc ms : Nat} {free : Addr → Prop} {A0 A1 : Nat → Prop} {H0 : Heap} {a : Array Value} {ls : Array Slot} {st0 rest : List Value}
variable {Qc : Array Value → State → Outcome → State → Prop} {XC : String → State → State → Prop}
/-- what a body that may throw owes at its end -/
def vx_MQ (below : List Frame) (Qc : Array Value → State → Outcome → State → Prop) (XC : String → State → State → Prop) (a : Array Value) (s : State) (mc ms : Nat) (free : Addr → Prop) : State → Prop := fun t =>
  ∃ o, t.status = .running ∧ Ended t below o ∧ vx_Q Qc XC mc ms free a s o t
theorem vx_ret {g : JFrame} {mc ms : Nat} (k : W p l e R s m args below meth c H locs cells slots (MQ below Qc args s mc ms free) g) : W p l e R s m args below meth c H locs cells slots (vx_MQ below Qc XC args s mc ms free) g := by
  intro T hT X
  obtain ⟨t, a1, o, b1, b2, b3, b4⟩ := k T hT X
  exact ⟨t, a1, o, b1, b2, Or.inl ⟨b3, b4⟩⟩
/-- not caught here: it goes on to the caller -/
theorem vx_widen {g : JFrame} {q : Addr} {k n : Nat} (h1 : cells ≤ k) (h2 : slots ≤ n) (kk : vx_W p l e R s m args below meth c H locs k n Q g q) : vx_W p l e R s m args below meth c H locs cells slots Q g q := fun T hT X => kk T hT (stand_widen X h1 h2)
theorem vx_out {pc : Nat} {E : String} {ce : Cell} {q : Addr} {mc ms : Nat} (hout : ∀ x ∈ c.exceptionTable.toList, covers x pc = false) (hlocks : meth.locks = false) (hcell : H[q]? = some ce) (hv : ce.vm = .none) (hcl : s.vm.findClass E = some ce.cls)
    (hx : ∀ t : State, t.heap = H → s.vm.Alike t.vm → XC E s t) (hf : ∀ z ∈ locs, free z.base) (hc : cells ≤ mc) (hs : slots ≤ ms) :
    vx_W p l e R s m args below meth c H locs cells slots (vx_MQ below Qc XC args s mc ms free) (F0 m pc ls rest) q := by
  intro T hT X
  obtain ⟨st1, hrun, hend, hW, hsm⟩ := X.leaveThrown q (g := F0 m pc ls rest) rfl rfl rfl hout hlocks
  have hcell9 : (T.setFrames (.throwing q :: below)).heap[q]? = some ce := by
    show T.heap[q]? = some ce
    rw [hT]; exact hcell
  exact ⟨_, st1, .threw q, hrun, hend, Or.inr ⟨q, rfl, E, ce, locs, hx _ hT hW.alike, hcell9, hv, hcl, hW, hsm.mono hc hs, hf⟩⟩
theorem vx_frame {U : State} {k n : Nat} (h : s.sameButNew ({ U with vm := s.vm } : State) locs k n) : s.heap.size ≤ U.heap.size ∧ ∀ q : Nat, q < s.heap.size → (∀ z ∈ locs, z.base ≠ q) → U.heap[q]? = s.heap[q]? := by
  obtain ⟨-, h2, -, -, -, h6⟩ := h
  refine ⟨h2, fun q hq hz => ?_⟩
  obtain ⟨c9, e1, e2, e3, e4⟩ := h6 q _ (Array.getElem?_eq_getElem hq)
  have hs : c9.slots = (s.heap[q]).slots := Array.ext_getElem? fun i => e4 i fun hm => hz _ hm rfl
  have h9 : c9 = s.heap[q] := by
    rw [hs] at e2
    exact e2
  have e5 : U.heap[q]? = some c9 := e1
  rw [e5, h9, Array.getElem?_eq_getElem hq]
/-- the words of a throw but the four that speak of the heap -/
def vx_no (w : Cond) : Bool := decide (w ≠ .isRef (.static Bundle.tN "UNASSIGNED_STACK" Bundle.steD)) && decide (w ≠ .isRef (.static Bundle.tN "SUPPRESSED_SENTINEL" Bundle.listD)) && decide (w ≠ .laysStatic Bundle.tN "UNASSIGNED_STACK" Bundle.steD) && decide (w ≠ .laysStatic Bundle.tN "SUPPRESSED_SENTINEL" Bundle.listD)
def vx_at0 (own : String) (ic : Nat) (X : String) (names : List String) : List Cond := (Bundle.ownAtoms0 own ic X names).filter vx_no
def vx_atS (own : String) (ic : Nat) (X : String) (names : List String) : List Cond := (Bundle.ownAtoms own ic X names).filter vx_no
/-- a word that the tables alone decide, or a good one -/
def vx_ot (w : Cond) : Bool := w.onTables || goodWord w
theorem vx_ot_at {args a' : Array Value} {s U : State} {w : Cond} (hW : s.WarmedH U.vm) (hvm : s.vm = U.vm) (hg : vx_ot w = true) (h : w.before args s = true) : w.before a' U = true := by
  simp only [vx_ot, Bool.or_eq_true] at hg
  rcases hg with hg | hg
  · exact va_tabs hg hvm h
  · exact word_at hW (good_of_word hg) h
/-- a list's words: the good ones out of the method's own list, the others by premises of their own -/
theorem vx_hat {args : Array Value} {s : State} {L B : List Cond} (h1 : ∀ w ∈ L.filter goodWord, w.before args s = true) (h2 : ∀ w ∈ L.filter (fun w => !goodWord w), w ∈ B) (h3 : ∀ w ∈ B, w.before args s = true) : ∀ w ∈ L, w.before args s = true := by
  intro w hw
  by_cases g : goodWord w = true
  · exact h1 w (List.mem_filter.mpr ⟨hw, g⟩)
  · refine h3 w (h2 w (List.mem_filter.mpr ⟨hw, ?_⟩))
    show (!goodWord w) = true
    cases hgw : goodWord w
    · rfl
    · exact absurd hgw g
theorem vx_c {args : Array Value} {s : State} {w : Cond} {B : List Cond} (h : w.before args s = true) (t : ∀ w ∈ B, w.before args s = true) : ∀ w' ∈ w :: B, w'.before args s = true := fun w' h' => (List.mem_cons.mp h').elim (fun e => by rw [e]; exact h) (t w')
theorem vx_n {args : Array Value} {s : State} : ∀ w ∈ ([] : List Cond), w.before args s = true := fun _ h => nomatch h
theorem vx_own {args : Array Value} {s : State} {L : List Cond} (h1 : ∀ w ∈ L.filter vx_no, w.before args s = true)
    (hU : (Cond.isRef (.static Bundle.tN "UNASSIGNED_STACK" Bundle.steD)).before args s = true) (hN : (Cond.isRef (.static Bundle.tN "SUPPRESSED_SENTINEL" Bundle.listD)).before args s = true)
    (lU : (Cond.laysStatic Bundle.tN "UNASSIGNED_STACK" Bundle.steD).before args s = true) (lN : (Cond.laysStatic Bundle.tN "SUPPRESSED_SENTINEL" Bundle.listD).before args s = true) : ∀ w ∈ L, w.before args s = true := by
  intro w hw
  by_cases e1 : w = .isRef (.static Bundle.tN "UNASSIGNED_STACK" Bundle.steD)
  · rw [e1]; exact hU
  · by_cases e2 : w = .isRef (.static Bundle.tN "SUPPRESSED_SENTINEL" Bundle.listD)
    · rw [e2]; exact hN
    · by_cases e3 : w = .laysStatic Bundle.tN "UNASSIGNED_STACK" Bundle.steD
      · rw [e3]; exact lU
      · by_cases e4 : w = .laysStatic Bundle.tN "SUPPRESSED_SENTINEL" Bundle.listD
        · rw [e4]; exact lN
        · exact h1 w (List.mem_filter.mpr ⟨hw, by unfold vx_no; rw [decide_eq_true e1, decide_eq_true e2, decide_eq_true e3, decide_eq_true e4]; rfl⟩)
/-- where a static field lies, its class's statics cell in H -/
def vx_L (C n d : String) (A : Nat → Prop) (U : State) (H : Heap) : Prop := ∃ (c : ClassId) (k : Class) (i : Nat) (f : Field) (a : Nat) (cell : Cell), U.vm.findClass C = some c ∧ U.fieldFound? C n d = some (c, k, i, f) ∧ f.isStatic = true ∧ k.statics = some a ∧ H[a]? = some cell ∧ cell.vm.isStatics = true ∧ cell.cls = c ∧ f.slot < cell.slots.size ∧ k.staticTypes[f.slot]? = some f.type ∧ ¬ A a
theorem vx_L.moved {C n d : String} {A : Nat → Prop} {u U : State} {H : Heap} (hvm : u.vm.Alike U.vm) (h : vx_L C n d A u H) : vx_L C n d A U H := by
  obtain ⟨c, k, i, f, a, cell, h1, h2, h3, h4, h5, h6, h7, h8, h9, h10⟩ := h
  obtain ⟨k', hi', he⟩ := State.fieldFound?_setVm hvm h2
  exact ⟨c, k', i, f, a, cell, by rw [hvm.findClass]; exact h1, hi', h3, by rw [he]; exact h4, h5, h6, h7, h8, by rw [he]; exact h9, h10⟩
theorem vx_L.kept {C n d : String} {A : Nat → Prop} {U : State} {H H1 : Heap} (h : vx_L C n d A U H) (hq : ∀ a : Nat, a < H.size → ¬ A a → H1[a]? = H[a]?) : vx_L C n d A U H1 := by
  obtain ⟨c, k, i, f, a, cell, h1, h2, h3, h4, h5, h6, h7, h8, h9, h10⟩ := h
  exact ⟨c, k, i, f, a, cell, h1, h2, h3, h4, by rw [hq a (Array.getElem?_eq_some_iff.mp h5).1 h10]; exact h5, h6, h7, h8, h9, h10⟩
theorem vx_L.narrow {C n d : String} {A B : Nat → Prop} {U : State} {H : Heap} (h : vx_L C n d A U H) (hAB : ∀ q, B q → A q) : vx_L C n d B U H := by
  obtain ⟨c, k, i, f, a, cell, h1, h2, h3, h4, h5, h6, h7, h8, h9, h10⟩ := h
  exact ⟨c, k, i, f, a, cell, h1, h2, h3, h4, h5, h6, h7, h8, h9, fun z => h10 (hAB _ z)⟩
theorem vx_L.word {C n d : String} {A : Nat → Prop} {s : State} {args : Array Value} (h : vx_L C n d A s s.heap) : (Cond.laysStatic C n d).before args s = true := by
  obtain ⟨c, k, i, f, a, cell, h1, h2, h3, h4, h5, h6, h7, h8, h9, -⟩ := h
  show (Cond.laysStatic C n d).holds args s none s [] = true
  exact Cond.laysStatic_of h1 h2 h3 h4 h5 h6 h7 h8 h9
/-- .. and what it holds: null or some reference -/
def vx_Zq (C n d : String) (A : Nat → Prop) (U : State) (H : Heap) : Prop := va_Zq C n d A U H ∧ vx_L C n d A U H
theorem vx_Zq.moved {C n d : String} {A : Nat → Prop} {u U : State} {H : Heap} (hvm : u.vm.Alike U.vm) (h : vx_Zq C n d A u H) : vx_Zq C n d A U H := ⟨va_Zq.moved hvm h.1, vx_L.moved hvm h.2⟩
theorem vx_Zq.kept {C n d : String} {A : Nat → Prop} {U : State} {H H1 : Heap} (h : vx_Zq C n d A U H) (hq : ∀ a : Nat, a < H.size → ¬ A a → H1[a]? = H[a]?) : vx_Zq C n d A U H1 := ⟨va_Zq.kept h.1 hq, vx_L.kept h.2 hq⟩
theorem vx_Zq.narrow {C n d : String} {A B : Nat → Prop} {U : State} {H : Heap} (h : vx_Zq C n d A U H) (hAB : ∀ q, B q → A q) : vx_Zq C n d B U H := ⟨va_Zq.narrow h.1 hAB, vx_L.narrow h.2 hAB⟩
theorem vx_Zqof {args : Array Value} {s : State} {C n d : String} {A : Nat → Prop} (hl : (Cond.laysStatic C n d).before args s = true) (hini : (Cond.initialized C).before args s = true) (h : (Cond.isRef (.static C n d)).before args s = true) (hA : ∀ a : Nat, a < s.heap.size → ¬ A a) : vx_Zq C n d A s s.heap := by
  refine ⟨va_Zqof hl hini h hA, ?_⟩
  obtain ⟨c, k, i, f, a, cell, h1, h2, h3, h4, h5, h6, h7, h8, h9⟩ := Cond.laysStatic_spec hl
  exact ⟨c, k, i, f, a, cell, h1, h2, h3, h4, h5, h6, h7, h8, h9, hA a (Array.getElem?_eq_some_iff.mp h5).1⟩
theorem vx_isRef {C n d : String} {v : Value} {A : Nat → Prop} {s : State} {args : Array Value} (h : va_Z C n d v A s s.heap) (hv : v.isRef = true) : (Cond.isRef (.static C n d)).before args s = true := by
  obtain ⟨cf, kf, fi, f, a, cell, h1, h2, h3, h4, h5, h6, h7, -⟩ := h
  have he : (Term.static C n d).eval args s none [] s = some v := by
    simp [Term.eval, State.fieldNamed?, h1, h2, h4, h5, h6, h7]
  simp only [Cond.before, Cond.holds, Cond.value, he]
  cases v <;> simp_all [Value.isRef]
theorem vx_isRefq {C n d : String} {A : Nat → Prop} {s : State} {args : Array Value} (h : va_Zq C n d A s s.heap) : (Cond.isRef (.static C n d)).before args s = true := by
  rcases h with h | ⟨t, h⟩
  · exact vx_isRef h rfl
  · exact vx_isRef h rfl
/-- the same frame, seen from here: as if the method were called anew in this heap -/
theorem vx_rebase {T : State} (X : Stand p l e R s m args below meth c T locs cells slots) {R' : Room} (hf : R'.frames ≤ R.frames) (hl : R'.locals ≤ R.locals) (hc : cells + R'.cells ≤ R.cells) (hs : slots + R'.slots ≤ R.slots) :
    Stand p l e R' ((T.setVm s.vm).setFrames (.invoking m args :: below)) m args below meth c T [] 0 0 := by
  have htop : (T.setVm s.vm).topJava?.isSome := X.here.top
  have hF : ((T.setVm s.vm).setFrames (.invoking m args :: below)).frames = .invoking m args :: below := State.frames_setFrames _ (State.cur_lt_of_top htop)
  obtain ⟨g₀, hg0⟩ := Option.isSome_iff_exists.mp htop
  obtain ⟨r, hr⟩ := State.topJava?_eq_some.mp hg0
  have hl9 : e.platform.stackLimits (T.setVm s.vm).me = e.platform.stackLimits s.me := X.limits
  have hb9 : (T.setVm s.vm).me.stackBytes = s.me.stackBytes := X.bytes
  refine ⟨X.admits, X.cas, X.clock, hF, ?_, X.hears, X.method, X.code, X.here, X.tail, X.warmed, ?_, ?_, ?_⟩
  · have h := X.room
    have hU : ((T.setVm s.vm).setFrames (.invoking m args :: below)).localsInUse = s.localsInUse := by
      rw [State.localsInUse_invoking hF (meth := meth) (c := c) X.method X.code, State.localsInUse_invoking X.frames X.method X.code]
    simp only [State.hasRoom, Bool.and_eq_true, decide_eq_true_eq] at h ⊢
    obtain ⟨⟨⟨⟨h1, h2, h3, h4, h5, h6⟩, h7⟩, h8⟩, h9⟩ := h
    rw [X.frames, List.length_cons] at h2 h3
    have q1 := X.heapSize
    have q2 := X.used
    simp only [hF, hU, List.length_cons, State.stackLimits_setFrames, State.stackBytes_setFrames, hl9, hb9]
    refine ⟨⟨⟨⟨by omega, by omega, by omega, by omega, by omega, h6⟩, ?_⟩, ?_⟩, X.book⟩
    · show T.heap.size + R'.cells ≤ e.platform.maxCells
      omega
    · show T.slotsUsed + R'.slots ≤ e.platform.maxSlots
      omega
  · rw [State.stackLimits_setFrames]; rfl
  · rw [State.stackBytes_setFrames]; rfl
  · refine ⟨?_, Nat.le_refl _, Nat.le_refl _, ?_, ?_, fun a c9 h9 => ⟨c9, h9, rfl, rfl, fun _ _ => rfl⟩⟩
    · obtain ⟨t, ht, -⟩ := State.frames_cons hr
      show T.setVm s.vm = { ((T.setVm s.vm).setFrames (.invoking m args :: below)).setFrames (T.setVm s.vm).frames with heap := T.heap, slotsUsed := T.slotsUsed }
      rw [State.setFrames_setFrames, State.setFrames_self ht]
      rfl
    · show T.slotsUsed = T.slotsUsed + ((T.heap.toList.drop T.heap.size).map (·.slots.size)).sum
      rw [List.drop_eq_nil_of_le (Nat.le_of_eq Array.length_toList)]
      rfl
    · show ((T.heap.toList.drop T.heap.size).map (·.slots.size)).sum ≤ 0
      rw [List.drop_eq_nil_of_le (Nat.le_of_eq Array.length_toList)]
      exact Nat.le_refl _
/-- 'throw new E()': new; dup; invokespecial; athrow -/
theorem vx_throw0 {cc : ByteArray} {pc : Nat} (hexec : p.tables.exec = Jvm.exec) (hb : c.code = cc) (hl : l.stackTraces = false) {own cls : String} {names : List String} {ik ic mc ms : Nat} {A : Nat → Prop}
    (hown : s.vm.findClass own = some m.cls) (hcls : Bundle.fit cls = true) (hnames : ∀ n ∈ names, Bundle.fit n = true)
    (hk : (Cond.classLink own ik cls).before args s = true) (hini : (Cond.initialized cls).before args s = true) (hat : ∀ w ∈ vx_at0 own ic cls names, w.before args s = true)
    (hgood : ∀ w ∈ Cond.classLink own ik cls :: Cond.initialized cls :: vx_at0 own ic cls names, vx_ot w = true)
    (hU : vx_Zq Bundle.tN "UNASSIGNED_STACK" Bundle.steD A s s.heap) (hN : vx_Zq Bundle.tN "SUPPRESSED_SENTINEL" Bundle.listD A s s.heap) (hS : va_S A s.heap H locs) (hsize : ls.size = c.maxLocals)
    (d0 : decode cc pc = .ok (.new ik, 3)) (d3 : decode cc (pc + 3) = .ok (.dup, 1)) (d4 : decode cc (pc + 4) = .ok (.invokespecial ic, 3)) (d7 : decode cc (pc + 7) = .ok (.athrow, 1))
    (hout : ∀ x ∈ c.exceptionTable.toList, covers x (pc + 7) = false)
    (hRframes : names.length + 3 < R.frames) (hRlocals : (rest.map fun v => v.category).sum + (13 * (names.length + 1) + 42) ≤ R.locals) (hRcells : cells + 1 ≤ R.cells) (hRslots : slots + 6 ≤ R.slots) (hlocks : meth.locks = false)
    (hx : ∀ t : State, s.vm.Alike t.vm → H.size ≤ t.heap.size → (∀ q : Nat, q < H.size → t.heap[q]? = H[q]?) → XC cls s t)
    (hf : ∀ z ∈ locs, free z.base) (hc : cells + 1 ≤ mc) (hs : slots + 6 ≤ ms) :
    W p l e R s m args below meth c H locs cells slots (vx_MQ below Qc XC args s mc ms free) (F0 m pc ls rest) := by
  intro T hT X
  have htr : e.platform.stackTraces = false := (show e.platform.stackTraces = l.stackTraces by rw [X.admits.platform]).trans hl
  have Y := vx_rebase X (R' := { frames := R.frames, locals := R.locals, cells := 1, slots := 6 }) (Nat.le_refl _) (Nat.le_refl _) hRcells hRslots
  obtain ⟨s', hA⟩ : ∃ z, z = (T.setVm s.vm).setFrames (.invoking m args :: below) := ⟨_, rfl⟩
  rw [← hA] at Y
  have hvm : s'.vm = s.vm := by rw [hA]; rfl
  have hhp : s'.heap = H := by rw [hA]; exact hT
  have hW0 : s.WarmedH s'.vm := by rw [hvm]; exact State.WarmedH.refl s
  have hat' : ∀ w ∈ vx_at0 own ic cls names, w.before args s' = true := fun w hw => vx_ot_at hW0 hvm.symm (hgood w (List.mem_cons_of_mem _ (List.mem_cons_of_mem _ hw))) (hat w hw)
  have hk' : (Cond.classLink own ik cls).before args s' = true := vx_ot_at hW0 hvm.symm (hgood _ List.mem_cons_self) hk
  have hini' : (Cond.initialized cls).before args s' = true := vx_ot_at hW0 hvm.symm (hgood _ (List.mem_cons_of_mem _ List.mem_cons_self)) hini
  have hU' : vx_Zq Bundle.tN "UNASSIGNED_STACK" Bundle.steD A s' s'.heap := by rw [hhp]; exact vx_Zq.moved hW0.alike (hU.kept hS.2.1)
  have hN' : vx_Zq Bundle.tN "SUPPRESSED_SENTINEL" Bundle.listD A s' s'.heap := by rw [hhp]; exact vx_Zq.moved hW0.alike (hN.kept hS.2.1)
  have h : ∀ w ∈ Bundle.ownAtoms0 own ic cls names, w.before args s' = true := vx_own hat' (vx_isRefq hU'.1) (vx_isRefq hN'.1) hU'.2.word hN'.2.word
  have hown' : s'.vm.findClass own = some m.cls := by rw [hvm]; exact hown
  have hins : (Cond.instantiable cls 6).before args s' = true := h _ (by simp [Bundle.ownAtoms0])
  obtain ⟨vm₁, cX, kX, hfX, hkX, -, -, X₁, st1⟩ := Y.newCold hexec (own := own) (C := cls) (index := ik) (n := 6) hown' hk' hins hini'
    (g := F0 m pc ls rest) rfl (by rw [hb]; exact d0) (Nat.le_refl _) (Nat.le_refl _)
  generalize hT1 : (T.setVm vm₁).pushCell { cls := cX, slots := kX.instanceTypes.map defaultValue, vm := .none } = T1 at X₁ st1
  have hcat : (Value.ref T.heap.size).category = 1 := rfl
  have hcellA : T1.heap[T.heap.size]? = some (freshCell cX kX) := by rw [← hT1]; exact State.heap_pushCell_size _ _
  have d3' : decode c.code (pc + 3) = .ok (.dup, 1) := by rw [hb]; exact d3
  obtain ⟨U, hsteps, hrun, hend, hW, hsame, ce, hce, hO⟩ := X₁.ctorThrow0 hexec htr (own := own) (cls := cls) (names := names) (ic := ic) hown' hcls hnames h (fun x hx => nomatch hx) hfX hkX hcellA (by rw [hhp, hT]; exact Nat.le_refl _)
    (g := { method := m, pc := pc + 4, locals := ls, stack := .ref T.heap.size :: .ref T.heap.size :: rest, locked := none }) rfl hsize rfl rfl (rest := rest) rfl
    (by rw [hb]; exact d4) (by rw [hb]; exact d7) hout hRframes (by simp only [List.map_cons, List.sum_cons, hcat]; omega) hlocks
  obtain ⟨f1, f2⟩ := vx_frame hsame
  rw [hhp] at f1 f2
  have hWs : s.WarmedH U.vm := State.WarmedH.trans hW0 hW
  have hcl : s.vm.findClass cls = some ce.cls := by
    have h9 := hO.cls
    rw [hvm] at h9
    exact h9
  have hall : s.sameButNew ({ U with vm := s.vm } : State) locs mc ms := by
    subst hA
    obtain ⟨e1, e2⟩ := hsame
    rw [State.setFrames_setFrames] at e1
    have h2 : (T.setVm s.vm).sameButNew ({ U with vm := s.vm } : State) [] (0 + 1) (0 + 6) := ⟨e1, e2⟩
    have h3 := X.same.trans h2
    rw [List.append_nil] at h3
    exact h3.mono hc hs
  refine ⟨U, ?_, .threw T.heap.size, hrun, hend, Or.inr ⟨T.heap.size, rfl, cls, ce, locs, hx U hWs.alike f1 (fun q hq => f2 q hq (fun z hz => nomatch hz)), hce, hO.vm, hcl, hWs, hall, hf⟩⟩
  refine st1 _ ?_
  show Steps p.tables e below (T1.setTop { method := m, pc := pc + 3, locals := ls, stack := .ref T.heap.size :: rest, locked := none }) _
  jvm_step X₁.here [X₁.here.top, hexec, d3', Value.category]
  exact hsteps
/-- 'throw new E("text")': new; dup; ldc; invokespecial; athrow -/
theorem vx_throwS {cc : ByteArray} {pc : Nat} (hexec : p.tables.exec = Jvm.exec) (hb : c.code = cc) (hl : l.stackTraces = false) {own cls text : String} {names : List String} {ik is ic mc ms sa : Nat} {A : Nat → Prop}
    (hown : s.vm.findClass own = some m.cls) (hcls : Bundle.fit cls = true) (hnames : ∀ n ∈ names, Bundle.fit n = true)
    (hk : (Cond.classLink own ik cls).before args s = true) (hini : (Cond.initialized cls).before args s = true) (hstr : vk_R own is text sa s) (hat : ∀ w ∈ vx_atS own ic cls names, w.before args s = true)
    (hgood : ∀ w ∈ Cond.classLink own ik cls :: Cond.initialized cls :: vx_atS own ic cls names, vx_ot w = true)
    (hU : vx_Zq Bundle.tN "UNASSIGNED_STACK" Bundle.steD A s s.heap) (hN : vx_Zq Bundle.tN "SUPPRESSED_SENTINEL" Bundle.listD A s s.heap) (hS : va_S A s.heap H locs) (hsize : ls.size = c.maxLocals)
    (d0 : decode cc pc = .ok (.new ik, 3)) (d3 : decode cc (pc + 3) = .ok (.dup, 1)) (d4 : decode cc (pc + 4) = .ok (.ldc is, 2)) (d6 : decode cc (pc + 6) = .ok (.invokespecial ic, 3)) (d9 : decode cc (pc + 9) = .ok (.athrow, 1))
    (hout : ∀ x ∈ c.exceptionTable.toList, covers x (pc + 9) = false)
    (hRframes : names.length + 3 < R.frames) (hRlocals : (rest.map fun v => v.category).sum + (13 * (names.length + 1) + 43) ≤ R.locals) (hRcells : cells + 1 ≤ R.cells) (hRslots : slots + 6 ≤ R.slots) (hlocks : meth.locks = false)
    (hx : ∀ t : State, s.vm.Alike t.vm → H.size ≤ t.heap.size → (∀ q : Nat, q < H.size → t.heap[q]? = H[q]?) → XC cls s t)
    (hf : ∀ z ∈ locs, free z.base) (hc : cells + 1 ≤ mc) (hs : slots + 6 ≤ ms) :
    W p l e R s m args below meth c H locs cells slots (vx_MQ below Qc XC args s mc ms free) (F0 m pc ls rest) := by
  intro T hT X
  have htr : e.platform.stackTraces = false := (show e.platform.stackTraces = l.stackTraces by rw [X.admits.platform]).trans hl
  have Y := vx_rebase X (R' := { frames := R.frames, locals := R.locals, cells := 1, slots := 6 }) (Nat.le_refl _) (Nat.le_refl _) hRcells hRslots
  obtain ⟨s', hA⟩ : ∃ z, z = (T.setVm s.vm).setFrames (.invoking m args :: below) := ⟨_, rfl⟩
  rw [← hA] at Y
  have hvm : s'.vm = s.vm := by rw [hA]; rfl
  have hhp : s'.heap = H := by rw [hA]; exact hT
  have hW0 : s.WarmedH s'.vm := by rw [hvm]; exact State.WarmedH.refl s
  have hat' : ∀ w ∈ vx_atS own ic cls names, w.before args s' = true := fun w hw => vx_ot_at hW0 hvm.symm (hgood w (List.mem_cons_of_mem _ (List.mem_cons_of_mem _ hw))) (hat w hw)
  have hk' : (Cond.classLink own ik cls).before args s' = true := vx_ot_at hW0 hvm.symm (hgood _ List.mem_cons_self) hk
  have hini' : (Cond.initialized cls).before args s' = true := vx_ot_at hW0 hvm.symm (hgood _ (List.mem_cons_of_mem _ List.mem_cons_self)) hini
  have hU' : vx_Zq Bundle.tN "UNASSIGNED_STACK" Bundle.steD A s' s'.heap := by rw [hhp]; exact vx_Zq.moved hW0.alike (hU.kept hS.2.1)
  have hN' : vx_Zq Bundle.tN "SUPPRESSED_SENTINEL" Bundle.listD A s' s'.heap := by rw [hhp]; exact vx_Zq.moved hW0.alike (hN.kept hS.2.1)
  have h : ∀ w ∈ Bundle.ownAtoms own ic cls names, w.before args s' = true := vx_own hat' (vx_isRefq hU'.1) (vx_isRefq hN'.1) hU'.2.word hN'.2.word
  have hown' : s'.vm.findClass own = some m.cls := by rw [hvm]; exact hown
  have hins : (Cond.instantiable cls 6).before args s' = true := h _ (by simp [Bundle.ownAtoms])
  obtain ⟨vm₁, cX, kX, hfX, hkX, -, -, X₁, st1⟩ := Y.newCold hexec (own := own) (C := cls) (index := ik) (n := 6) hown' hk' hins hini'
    (g := F0 m pc ls rest) rfl (by rw [hb]; exact d0) (Nat.le_refl _) (Nat.le_refl _)
  generalize hT1 : (T.setVm vm₁).pushCell { cls := cX, slots := kX.instanceTypes.map defaultValue, vm := .none } = T1 at X₁ st1
  have hcat : (Value.ref T.heap.size).category = 1 := rfl
  have hcellA : T1.heap[T.heap.size]? = some (freshCell cX kX) := by rw [← hT1]; exact State.heap_pushCell_size _ _
  have d3' : decode c.code (pc + 3) = .ok (.dup, 1) := by rw [hb]; exact d3
  have d4' : decode c.code (pc + 4) = .ok (.ldc is, 2) := by rw [hb]; exact d4
  have hstr' : vk_R own is text sa s' := vk_R.warm hW0 hstr
  obtain ⟨U, hsteps, hrun, hend, hW, hsame, ce, hce, hO⟩ := X₁.ctorThrowS hexec htr (own := own) (cls := cls) (names := names) (ic := ic) hown' hcls hnames h (fun x hx => nomatch hx) hfX hkX hcellA (by rw [hhp, hT]; exact Nat.le_refl _) (msg := .ref sa) rfl
    (g := { method := m, pc := pc + 6, locals := ls, stack := .ref sa :: .ref T.heap.size :: .ref T.heap.size :: rest, locked := none }) rfl hsize rfl rfl (rest := rest) rfl
    (by rw [hb]; exact d6) (by rw [hb]; exact d9) hout hRframes (by simp only [List.map_cons, List.sum_cons, hcat]; omega) hlocks
  obtain ⟨f1, f2⟩ := vx_frame hsame
  rw [hhp] at f1 f2
  have hWs : s.WarmedH U.vm := State.WarmedH.trans hW0 hW
  have hcl : s.vm.findClass cls = some ce.cls := by
    have h9 := hO.cls
    rw [hvm] at h9
    exact h9
  have hall : s.sameButNew ({ U with vm := s.vm } : State) locs mc ms := by
    subst hA
    obtain ⟨e1, e2⟩ := hsame
    rw [State.setFrames_setFrames] at e1
    have h2 : (T.setVm s.vm).sameButNew ({ U with vm := s.vm } : State) [] (0 + 1) (0 + 6) := ⟨e1, e2⟩
    have h3 := X.same.trans h2
    rw [List.append_nil] at h3
    exact h3.mono hc hs
  refine ⟨U, ?_, .threw T.heap.size, hrun, hend, Or.inr ⟨T.heap.size, rfl, cls, ce, locs, hx U hWs.alike f1 (fun q hq => f2 q hq (fun z hz => nomatch hz)), hce, hO.vm, hcl, hWs, hall, hf⟩⟩
  refine st1 _ ?_
  show Steps p.tables e below (T1.setTop { method := m, pc := pc + 3, locals := ls, stack := .ref T.heap.size :: rest, locked := none }) _
  jvm_step X₁.here [X₁.here.top, hexec, d3', Value.category]
  exact X₁.ldcString hexec (own := own) (text := text) (index := is) (a := sa) hown' hstr'.1 hstr'.2
    (g := { method := m, pc := pc + 4, locals := ls, stack := .ref T.heap.size :: .ref T.heap.size :: rest, locked := none }) rfl d4' _ hsteps
/-- 'throw new E("text")', the text by a wide index -/
theorem vx_throwSW {cc : ByteArray} {pc : Nat} (hexec : p.tables.exec = Jvm.exec) (hb : c.code = cc) (hl : l.stackTraces = false) {own cls text : String} {names : List String} {ik is ic mc ms sa : Nat} {A : Nat → Prop}
    (hown : s.vm.findClass own = some m.cls) (hcls : Bundle.fit cls = true) (hnames : ∀ n ∈ names, Bundle.fit n = true)
    (hk : (Cond.classLink own ik cls).before args s = true) (hini : (Cond.initialized cls).before args s = true) (hstr : vk_R own is text sa s) (hat : ∀ w ∈ vx_atS own ic cls names, w.before args s = true)
    (hgood : ∀ w ∈ Cond.classLink own ik cls :: Cond.initialized cls :: vx_atS own ic cls names, vx_ot w = true)
    (hU : vx_Zq Bundle.tN "UNASSIGNED_STACK" Bundle.steD A s s.heap) (hN : vx_Zq Bundle.tN "SUPPRESSED_SENTINEL" Bundle.listD A s s.heap) (hS : va_S A s.heap H locs) (hsize : ls.size = c.maxLocals)
    (d0 : decode cc pc = .ok (.new ik, 3)) (d3 : decode cc (pc + 3) = .ok (.dup, 1)) (d4 : decode cc (pc + 4) = .ok (.ldc_w is, 3)) (d7 : decode cc (pc + 7) = .ok (.invokespecial ic, 3)) (d10 : decode cc (pc + 10) = .ok (.athrow, 1))
    (hout : ∀ x ∈ c.exceptionTable.toList, covers x (pc + 10) = false)
    (hRframes : names.length + 3 < R.frames) (hRlocals : (rest.map fun v => v.category).sum + (13 * (names.length + 1) + 43) ≤ R.locals) (hRcells : cells + 1 ≤ R.cells) (hRslots : slots + 6 ≤ R.slots) (hlocks : meth.locks = false)
    (hx : ∀ t : State, s.vm.Alike t.vm → H.size ≤ t.heap.size → (∀ q : Nat, q < H.size → t.heap[q]? = H[q]?) → XC cls s t)
    (hf : ∀ z ∈ locs, free z.base) (hc : cells + 1 ≤ mc) (hs : slots + 6 ≤ ms) :
    W p l e R s m args below meth c H locs cells slots (vx_MQ below Qc XC args s mc ms free) (F0 m pc ls rest) := by
  intro T hT X
  have htr : e.platform.stackTraces = false := (show e.platform.stackTraces = l.stackTraces by rw [X.admits.platform]).trans hl
  have Y := vx_rebase X (R' := { frames := R.frames, locals := R.locals, cells := 1, slots := 6 }) (Nat.le_refl _) (Nat.le_refl _) hRcells hRslots
  obtain ⟨s', hA⟩ : ∃ z, z = (T.setVm s.vm).setFrames (.invoking m args :: below) := ⟨_, rfl⟩
  rw [← hA] at Y
  have hvm : s'.vm = s.vm := by rw [hA]; rfl
  have hhp : s'.heap = H := by rw [hA]; exact hT
  have hW0 : s.WarmedH s'.vm := by rw [hvm]; exact State.WarmedH.refl s
  have hat' : ∀ w ∈ vx_atS own ic cls names, w.before args s' = true := fun w hw => vx_ot_at hW0 hvm.symm (hgood w (List.mem_cons_of_mem _ (List.mem_cons_of_mem _ hw))) (hat w hw)
  have hk' : (Cond.classLink own ik cls).before args s' = true := vx_ot_at hW0 hvm.symm (hgood _ List.mem_cons_self) hk
  have hini' : (Cond.initialized cls).before args s' = true := vx_ot_at hW0 hvm.symm (hgood _ (List.mem_cons_of_mem _ List.mem_cons_self)) hini
  have hU' : vx_Zq Bundle.tN "UNASSIGNED_STACK" Bundle.steD A s' s'.heap := by rw [hhp]; exact vx_Zq.moved hW0.alike (hU.kept hS.2.1)
  have hN' : vx_Zq Bundle.tN "SUPPRESSED_SENTINEL" Bundle.listD A s' s'.heap := by rw [hhp]; exact vx_Zq.moved hW0.alike (hN.kept hS.2.1)
  have h : ∀ w ∈ Bundle.ownAtoms own ic cls names, w.before args s' = true := vx_own hat' (vx_isRefq hU'.1) (vx_isRefq hN'.1) hU'.2.word hN'.2.word
  have hown' : s'.vm.findClass own = some m.cls := by rw [hvm]; exact hown
  have hins : (Cond.instantiable cls 6).before args s' = true := h _ (by simp [Bundle.ownAtoms])
  obtain ⟨vm₁, cX, kX, hfX, hkX, -, -, X₁, st1⟩ := Y.newCold hexec (own := own) (C := cls) (index := ik) (n := 6) hown' hk' hins hini'
    (g := F0 m pc ls rest) rfl (by rw [hb]; exact d0) (Nat.le_refl _) (Nat.le_refl _)
  generalize hT1 : (T.setVm vm₁).pushCell { cls := cX, slots := kX.instanceTypes.map defaultValue, vm := .none } = T1 at X₁ st1
  have hcat : (Value.ref T.heap.size).category = 1 := rfl
  have hcellA : T1.heap[T.heap.size]? = some (freshCell cX kX) := by rw [← hT1]; exact State.heap_pushCell_size _ _
  have d3' : decode c.code (pc + 3) = .ok (.dup, 1) := by rw [hb]; exact d3
  have d4' : decode c.code (pc + 4) = .ok (.ldc_w is, 3) := by rw [hb]; exact d4
  have hstr' : vk_R own is text sa s' := vk_R.warm hW0 hstr
  obtain ⟨U, hsteps, hrun, hend, hW, hsame, ce, hce, hO⟩ := X₁.ctorThrowS hexec htr (own := own) (cls := cls) (names := names) (ic := ic) hown' hcls hnames h (fun x hx => nomatch hx) hfX hkX hcellA (by rw [hhp, hT]; exact Nat.le_refl _) (msg := .ref sa) rfl
    (g := { method := m, pc := pc + 7, locals := ls, stack := .ref sa :: .ref T.heap.size :: .ref T.heap.size :: rest, locked := none }) rfl hsize rfl rfl (rest := rest) rfl
    (by rw [hb]; exact d7) (by rw [hb]; exact d10) hout hRframes (by simp only [List.map_cons, List.sum_cons, hcat]; omega) hlocks
  obtain ⟨f1, f2⟩ := vx_frame hsame
  rw [hhp] at f1 f2
  have hWs : s.WarmedH U.vm := State.WarmedH.trans hW0 hW
  have hcl : s.vm.findClass cls = some ce.cls := by
    have h9 := hO.cls
    rw [hvm] at h9
    exact h9
  have hall : s.sameButNew ({ U with vm := s.vm } : State) locs mc ms := by
    subst hA
    obtain ⟨e1, e2⟩ := hsame
    rw [State.setFrames_setFrames] at e1
    have h2 : (T.setVm s.vm).sameButNew ({ U with vm := s.vm } : State) [] (0 + 1) (0 + 6) := ⟨e1, e2⟩
    have h3 := X.same.trans h2
    rw [List.append_nil] at h3
    exact h3.mono hc hs
  refine ⟨U, ?_, .threw T.heap.size, hrun, hend, Or.inr ⟨T.heap.size, rfl, cls, ce, locs, hx U hWs.alike f1 (fun q hq => f2 q hq (fun z hz => nomatch hz)), hce, hO.vm, hcl, hWs, hall, hf⟩⟩
  refine st1 _ ?_
  show Steps p.tables e below (T1.setTop { method := m, pc := pc + 3, locals := ls, stack := .ref T.heap.size :: rest, locked := none }) _
  jvm_step X₁.here [X₁.here.top, hexec, d3', Value.category]
  exact X₁.ldcStringW hexec (own := own) (text := text) (index := is) (a := sa) hown' hstr'.1 hstr'.2
    (g := { method := m, pc := pc + 4, locals := ls, stack := .ref T.heap.size :: .ref T.heap.size :: rest, locked := none }) rfl d4' _ hsteps
end Ends
section Bodies
variable {l : Launch}
theorem vx_ofW {y : MethodName} {ws ws' : List Cond} {rm : Room} {Pc : Array Value → State → Prop} {Qc : Array Value → State → Outcome → State → Prop} {XC : String → State → State → Prop} {mc ms : Nat} {free : Addr → Prop} {cc : ByteArray} {maxL : Nat} {ret : Option FieldType}
    (hy : plainName y.cls = true) (hw : ws = Cond.code y cc maxL ret :: ws')
    (body : ∀ p e s m args below meth c s₁, BodyLoose p l y (headSpec ws rm) cc maxL ret e s m args below meth c s₁ → c.maxLocals = maxL → (∀ x ∈ c.exceptionTable.toList, False) → Pc args s →
      W p l e (headSpec ws rm).room s m args below meth c s.heap [] 0 0 (vx_MQ below Qc XC args s mc ms free) (entryFrame m args maxL)) : vx_Met l y ws rm Pc Qc XC mc ms free := by
  refine MetFree.of_bodyS (code := cc) (maxLocals := maxL) (ret := ret) hy ?_ ?_
  · intro args s m h hn
    obtain ⟨meth, c, h1, h2, h3, h4, h5, h6, -, -⟩ := Cond.code_spec hn (atoms_spec (ws := ws) h _ (by rw [hw]; exact List.mem_cons_self))
    exact ⟨meth, c, h1, h2, h3, h4, h5, h6⟩
  · intro p e s m args below meth c s₁ B hml hP _
    have hh0 : s₁.heap = s.heap := by rw [B.state]; rfl
    have ht : ∀ x ∈ c.exceptionTable.toList, False := by
      obtain ⟨meth9, c9, h1, h2, -, -, -, -, h7, -⟩ := Cond.code_spec B.named (atoms_spec (ws := ws) B.pre _ (by rw [hw]; exact List.mem_cons_self))
      cases Option.some.inj (h1.symm.trans B.method)
      cases Option.some.inj (h2.symm.trans (Stand.of_body B).code)
      intro x hx
      rw [Array.isEmpty_iff.mp h7] at hx
      cases hx
    obtain ⟨t, a1, o, b1, b2, b3⟩ := body p e s m args below meth c s₁ B hml ht hP s₁ hh0 (Stand.of_body B)
    exact ⟨t, o, a1, b1, b2, b3⟩
/-- the table of a body with handlers -/
theorem vx_table {p : Program} {x y : MethodName} {S : Spec} {cc bytes : ByteArray} {maxL maxL' : Nat} {ret ret' : Option FieldType} {e : Env} {s s₁ : State} {m : MethodId} {args : Array Value} {below : List Frame} {meth : Method} {c : Code} {hh : List (Nat × Nat × Nat × Nat)}
    (B : BodyLoose p l y S cc maxL ret e s m args below meth c s₁) (h : (Cond.codeWith y bytes maxL' ret' hh).before args s = true) : c.exceptionTable.toList = tableOf hh := by
  obtain ⟨m9, meth9, c9, hn9, h1, h2, -, -, h6, -⟩ := Cond.codeWith_spec h
  cases Option.some.inj (hn9.symm.trans B.named)
  cases Option.some.inj (h1.symm.trans B.method)
  cases Option.some.inj (h2.symm.trans (Stand.of_body B).code)
  rw [← h6, table_eq]
end Bodies
end VXA
/-! ===== END ===== -/
/-! ===== BEGIN a static call of a method with an exception table ===== -/
section VXS
variable {p : Program} {l : Launch} {e : Env} {R : Room} {s : State} {m : MethodId} {args : Array Value} {below : List Frame} {meth : Method} {c : Code} {T : State} {H : Heap} {locs : List Loc} {cells slots : Nat}
abbrev vx_CSW (R : Room) (s : State) (args : Array Value) (own : String) (index : Nat) (y : MethodName) (bytes : ByteArray) (maxL : Nat) (ret : Option FieldType) (hh : List (Nat × Nat × Nat × Nat)) (ws : List Cond) (rm : Room) (mc ms n : Nat) : Prop :=
  (rm.cells = mc ∧ rm.slots = ms ∧ rm.frames + 1 ≤ R.frames ∧ 8 + (maxL + 11) + rm.locals ≤ R.locals ∧ (∀ w ∈ ws, ∀ (a' : Array Value) (U : State), s.WarmedH U.vm → w.before a' U = true) ∧ Cond.codeWith y bytes maxL ret hh ∈ ws) ∧
  (Cond.codeWith y bytes maxL ret hh).before args s = true ∧ (Cond.initialized y.cls).before args s = true ∧ (y.cls ≠ "java/lang/invoke/MethodHandle" ∧ y.cls ≠ "java/lang/invoke/VarHandle") ∧
  (∀ sig, parseMethodDescriptor y.desc = some sig → n = sig.parameters.length) ∧ (Cond.methodLink own index y).before args s = true ∧ (Cond.static y).before args s = true
theorem vx_cwSW {own : String} {index maxL mc ms : Nat} {y : MethodName} {bytes : ByteArray} {ret : Option FieldType} {hh : List (Nat × Nat × Nat × Nat)} {Ts ws ws' : List Cond} {rm : Room} (n : Nat) (ht : ∀ w ∈ Ts, w.before args s = true) (hT : GoodIn Ts (va_wsS own index y ws)) (hw : ws = Cond.codeWith y bytes maxL ret hh :: ws') (hrc : rm.cells = mc) (hrs : rm.slots = ms)
    (hd : y.cls ≠ "java/lang/invoke/MethodHandle" ∧ y.cls ≠ "java/lang/invoke/VarHandle" ∧ (parseMethodDescriptor y.desc).map (fun d => d.parameters.length) = some n) (hR : rm.frames + 1 ≤ R.frames ∧ 8 + (maxL + 11) + rm.locals ≤ R.locals) :
    vx_CSW R s args own index y bytes maxL ret hh ws rm mc ms n := by
  have ok : ∀ w ∈ va_wsS own index y ws, w.before args s = true := fun w h => ht w (hT w h).1
  have hG : GoodIn Ts ws := fun w h => hT w (by unfold va_wsS; exact List.mem_append_right _ h)
  have hc : Cond.codeWith y bytes maxL ret hh ∈ ws := by rw [hw]; exact List.mem_cons_self
  refine ⟨⟨hrc, hrs, hR.1, hR.2, pay_in ht hG, hc⟩, ht _ (hG _ hc).1, ok _ (by simp [va_wsS]), ⟨hd.1, hd.2.1⟩, fun sig h => ?_, ok _ (by simp [va_wsS]), ok _ (by simp [va_wsS])⟩
  have h2 := hd.2.2
  rw [h] at h2
  exact (Option.some.inj h2).symm
theorem vx_callSW (X : Stand p l e R s m args below meth c T locs cells slots) (hexec : p.tables.exec = Jvm.exec) {own : String} {index : Nat} {y : MethodName} {bytes : ByteArray} {maxL : Nat} {ret : Option FieldType} {hh : List (Nat × Nat × Nat × Nat)}
    (hown : s.vm.findClass own = some m.cls) (hlink : (Cond.methodLink own index y).before args s = true) (hstat : (Cond.static y).before args s = true) (hinit : (Cond.initialized y.cls).before args s = true)
    (hcode : (Cond.codeWith y bytes maxL ret hh).before args s = true) (hy : y.cls ≠ "java/lang/invoke/MethodHandle" ∧ y.cls ≠ "java/lang/invoke/VarHandle")
    {W9 : Nat} {Pre : Pt → Array Value → Prop} {Post : Pt → Array Value → Option Value → Pt → Prop} (hK : Back l R p e below s args y 3 W9 Pre Post)
    {g : JFrame} (hg : g.method = m) (hsize : g.locals.size = c.maxLocals) {argsL rest : List Value} (hlen : ∀ sig, parseMethodDescriptor y.desc = some sig → argsL.length = sig.parameters.length)
    (hstack : g.stack = argsL.reverse ++ rest) (hW : 2 * g.monitorRoom + (rest.map fun v => v.category).sum ≤ W9) (hdg : decode c.code g.pc = .ok (.invokestatic index, 3))
    (hpre : ∀ vm₁, s.WarmedH vm₁ → Pre ⟨T.setVm vm₁, locs, cells, slots⟩ argsL.toArray) :
    ∃ (v : Option Value) (vm₁ : Vm) (B : Pt), s.WarmedH vm₁ ∧ Stand p l e R s m args below meth c B.U B.locs B.cells B.slots ∧ Post ⟨T.setVm vm₁, locs, cells, slots⟩ argsL.toArray v B ∧
      ∀ target, Steps p.tables e below (B.U.setTop { g with pc := g.pc + 3, stack := v.toList ++ rest }) target → Steps p.tables e below (T.setTop g) target := by
  obtain ⟨mk, methM, cM, hnamed, hmethM, -, -, -, -, -, -, hsigM⟩ := Cond.codeWith_spec hcode
  have hstatic : methM.isStatic = true := Cond.static_spec hnamed hmethM hstat
  obtain ⟨kP, hkP, -⟩ := className_of_methodNamed hnamed
  have hinitP : kP.init = .initialized := Cond.initialized_spec (findClass_of_methodNamed hnamed) hkP hinit
  obtain ⟨vm₁, X₁, hstep₁⟩ := X.invokestatic hexec hown hlink hnamed hmethM hstatic hkP hinitP hy (g := g) hg (argsL := argsL) (rest := rest) (hlen _ hsigM) hstack hdg
  obtain ⟨v, B, X', hpost, hsteps⟩ := hK m meth c ⟨T.setVm vm₁, locs, cells, slots⟩ { g with stack := rest } (.invokestatic index) mk argsL.toArray X₁ hg hsize hdg hW (X₁.named hnamed) (hpre vm₁ X₁.warmed)
  exact ⟨v, vm₁, B, X₁.warmed, X', hpost, fun target h => hstep₁ _ fun acts => by rw [doInvoke_state]; exact hsteps.trans h⟩
theorem vx_runSW {y : MethodName} {bytes cc : ByteArray} {maxL nL mc ms n index : Nat} {ret : Option FieldType} {hh : List (Nat × Nat × Nat × Nat)} {ws : List Cond} {rm : Room} {Pc : Array Value → State → Prop} {Qc : Array Value → State → Outcome → State → Prop} {free : Addr → Prop} {Ts : List Cond} {own : String} {As rest : List Value} {g : JFrame}
    (S : CallFix p m c cc nL s args Ts own) (hM : Met l y ws rm Pc Qc mc ms free) (cw : vx_CSW R s args own index y bytes maxL ret hh ws rm mc ms n) (hp : PreS s H Pc As)
    (hg : g.method = m) (hn : As.length = n) (hsize : g.locals.size = nL) (hstack : g.stack = As.reverse ++ rest) (hW : 2 * g.monitorRoom + (rest.map fun v => v.category).sum ≤ 8) (hdg : decode cc g.pc = .ok (.invokestatic index, 3)) (hf : cells + mc ≤ R.cells ∧ slots + ms ≤ R.slots) :
    va_Run p l e R s m args below meth c H locs cells slots mc ms g rest (Qc As.toArray) (free) := by
  obtain ⟨⟨hrc, hrs, hfr, hlo, hws, hcw⟩, hcode, hini, hy, hlen, hl, hstt⟩ := cw
  have hK : Back l R p e below s args y 3 8 (PreOf R mc ms Pc) (PostOf Qc mc ms free) := va_backW (hh := hh) (bytes := bytes) (maxL := maxL) (ret := ret) hM hp.1 hrc hrs hfr hlo hws hcw (fun a' U hW => word_at hW (Or.inl (by first | rfl | simp [Cond.onTables, Cond.keeps, Cond.steady])) hini)
  obtain ⟨hx, hb, hml, ho, -⟩ := S
  intro T hT X
  obtain ⟨v, vm₁, ⟨U', l2, c2, s2⟩, hW₁, X', ⟨g', mk, t, L, e1, e2, hq, h1, hL, h2, h3⟩, st⟩ := vx_callSW X hx (hh := hh) (bytes := bytes) (maxL := maxL) (ret := ret) ho hl hstt hini hcode hy hK hg (hsize.trans hml.symm) (argsL := As) (rest := rest) (fun sig h => hn.trans (hlen sig h)) hstack hW (by rw [hb]; exact hdg)
    (fun vm₁ hW₁ => ⟨hf.1, hf.2, hp.2 (T.setVm vm₁) hT hW₁⟩)
  dsimp only [Pt.U, Pt.locs, Pt.cells, Pt.slots] at X' e1 e2 h1 h2 h3 st
  subst h1; subst h2; subst h3
  exact ⟨v, (T.setVm vm₁).calling g' mk As.toArray, t, U', L, hT, X', hL, e1, e2, hq, st⟩
/-- not caught here, past rows that name other classes: it goes on to the caller -/
theorem vx_outP {p : Program} {l : Launch} {e : Env} {R : Room} {s : State} {m : MethodId} {args : Array Value} {below : List Frame} {meth : Method} {c : Code} {H : Heap} {locs : List Loc} {cells slots : Nat} {free : Addr → Prop} {ls : Array Slot} {rest : List Value} {Qc : Array Value → State → Outcome → State → Prop} {XC : String → State → State → Prop}
    {pc : Nat} {own E : String} {ce : Cell} {q : Addr} {mc ms : Nat} (hown : s.vm.findClass own = some m.cls) (hlocks : meth.locks = false)
    (hpass : ∀ z ∈ c.exceptionTable.toList, covers z pc = false ∨ (z.catchType ≠ 0 ∧ ∃ nm : String, (Cond.classLink own z.catchType nm).before args s = true ∧ va_Nc E nm s)) (hcell : H[q]? = some ce) (hv : ce.vm = .none) (hcl : s.vm.findClass E = some ce.cls)
    (hx : ∀ t : State, t.heap = H → s.vm.Alike t.vm → XC E s t) (hf : ∀ z ∈ locs, free z.base) (hc : cells ≤ mc) (hs : slots ≤ ms) :
    vx_W p l e R s m args below meth c H locs cells slots (vx_MQ below Qc XC args s mc ms free) (F0 m pc ls rest) q := by
  intro T hT X
  have hpl : e.platform.magicAccessors = ({} : Platform).magicAccessors := by rw [X.admits.platform]
  obtain ⟨vm', hW', X', st⟩ := X.outThrough hlocks q (g := F0 m pc ls rest) rfl rfl rfl (cell := ce) (by rw [hT]; exact hcell) (by rw [hv]; rfl)
    (by obtain ⟨k9, h9, -⟩ := Vm.findClass_spec hcl; exact ⟨k9, h9⟩) (fun z hz => by
      rcases hpass z hz with h | ⟨hz0, nm, hl1, hn1⟩
      · exact Or.inl h
      · obtain ⟨c6, hc6, hcl6⟩ := Cond.classLink_spec hown hl1 e.platform hpl
        obtain ⟨a8, b8, h1, h2, h3⟩ := hn1
        cases Option.some.inj (h1.symm.trans hcl)
        cases Option.some.inj (h2.symm.trans hc6)
        exact Or.inr ⟨hz0, _, hcl6, h3⟩)
  obtain ⟨g₀, hfr⟩ := X'.frames_eq
  have hcell9 : ((T.setVm vm').setFrames (.throwing q :: below)).heap[q]? = some ce := by
    show T.heap[q]? = some ce
    rw [hT]; exact hcell
  have hend : Ended ((T.setVm vm').setFrames (.throwing q :: below)) below (.threw q) := State.frames_setFrames _ (State.cur_lt_of_frames hfr)
  refine ⟨(T.setVm vm').setFrames (.throwing q :: below), ?_, .threw q, X'.here.running, hend, Or.inr ⟨q, rfl, E, ce, locs, hx _ hT (X'.ends _).1.alike, hcell9, hv, hcl, (X'.ends _).1, (X'.ends _).2.mono hc hs, hf⟩⟩
  rw [X.pushThrowing_eq]
  exact st
/-- a thing of a world lies in the heap -/
theorem vx_lt {D : va_G} {cl : List vw_C} {ws : va_W} {H1 : Heap} (h : va_P D cl ws H1) {k : Nat} {q : Nat × va_E} (hk : ws[k]? = some q) : q.1 < H1.size := (h k q hk).lt
end VXS
/-! ===== END ===== -/
/-! ===== BEGIN methods with a table of their own: called by a name, returning or throwing ===== -/
section VXH
/-! vx_backW, vx_callVX, vx_callSX, vx_callVW, vx_runVW, vx_runVX, vx_runSX, vx_ofWH follow the same proofs as their sisters above (Free/Laws.lean, Shelf42/LK1.lean); vx_outP calls Shelf42/NT130.lean (outThrough). -/
section
variable {l : Launch} {R : Room} {p : Program} {e : Env} {below : List Frame} {s : State} {sargs : Array Value} {y : MethodName} {len W9 : Nat}
theorem vx_backW {ws : List Cond} {rm : Room} {Pc : Array Value → State → Prop} {Qc : Array Value → State → Outcome → State → Prop} {XC : String → State → State → Prop} {mc ms : Nat} {free : Addr → Prop} {bytes : ByteArray} {maxL : Nat} {ret : Option FieldType} {hh : List (Nat × Nat × Nat × Nat)}
    (hM : vx_Met l y ws rm Pc Qc XC mc ms free) (hblind : FrameBlind Pc) (hrc : rm.cells = mc) (hrs : rm.slots = ms)
    (hframes : rm.frames + 1 ≤ R.frames) (hlocals : W9 + (maxL + 11) + rm.locals ≤ R.locals)
    (hws : ∀ w ∈ ws, ∀ a' U, s.WarmedH U.vm → w.before a' U = true) (hcode : Cond.codeWith y bytes maxL ret hh ∈ ws) (hinit : ∀ a' U, s.WarmedH U.vm → (Cond.initialized y.cls).before a' U = true) :
    vx_Back l R p e below s sargs y len W9 (PreOf R mc ms Pc) (PostOf Qc mc ms free) (vx_Post XC mc ms free) := by
  intro m meth c A g ig mk a X hg hsize hdg hW hn hp
  have h1 : (headSpec ws rm).pre.before a A.U = true := atoms_intro fun w hw => hws w hw _ _ X.warmed
  have h2 : (Cond.codeWith y bytes maxL ret hh).before a A.U = true := hws _ hcode _ _ X.warmed
  have h3 : (Cond.initialized y.cls).before a A.U = true := hinit _ _ X.warmed
  have h4 : A.cells + (headSpec ws rm).room.cells ≤ R.cells := by rw [show (headSpec ws rm).room.cells = mc from hrc]; exact hp.1
  have h5 : A.slots + (headSpec ws rm).room.slots ≤ R.slots := by rw [show (headSpec ws rm).room.slots = ms from hrs]; exact hp.2.1
  have hPc : Pc a (A.U.calling g mk a) := hblind _ _ _ _ hp.2.2
  obtain ⟨U, Ls, c0, s0⟩ := A
  dsimp only [Pt.U, Pt.locs, Pt.cells, Pt.slots] at h1 h2 h3 h4 h5 X hn hPc ⊢
  obtain ⟨m9, methY, cY, hn9, hmY, hcY, -, hlY, -⟩ := Cond.codeWith_spec h2
  cases Option.some.inj (hn9.symm.trans hn)
  obtain ⟨kY, hkY, -⟩ := className_of_methodNamed hn
  have hinitY : kY.init = .initialized := Cond.initialized_spec (findClass_of_methodNamed hn) hkY h3
  have h : At U g.method c below := by rw [hg]; exact X.here
  have hlocals9 : W9 + (maxL + 11) + (headSpec ws rm).room.locals ≤ R.locals := hlocals
  have happ : (headSpec ws rm).appliesLoose y e.platform (U.calling g mk a) = true :=
    Spec.appliesLoose_calling (g := g) h hdg hn hkY hinitY
      (X.room_calling (g := g) (R' := (headSpec ws rm).room) hsize hmY hcY hframes (by rw [hlY]; omega) h4 h5) h1
  obtain ⟨mid, hmid⟩ := h.above
  have hfr : (U.setTop g).frames = (.java g :: mid) ++ below := by rw [State.frames_setTop' g h.top, hmid]; rfl
  obtain ⟨o, s₂, hsteps, -, hend, hq⟩ := Steps.callFree hM p X.admits X.cas X.clock (acts := []) hfr happ hPc trivial
  have hq' : vx_Q Qc XC mc ms free a (U.calling g mk a) o s₂ := hq
  rw [State.frames_setTop' g h.top] at hend
  obtain ⟨g₀, hg0⟩ := Option.isSome_iff_exists.mp h.top
  obtain ⟨r, hr⟩ := State.topJava?_eq_some.mp hg0
  have hr' : (({ U with heap := s₂.heap, slotsUsed := s₂.slotsUsed } : State).setVm s₂.vm).frames = .java g₀ :: r := hr
  rcases hq' with ⟨hqc, L, hfe, hL⟩ | ⟨q, rfl, E, ce, L, hx, hce, hcv, hcl, hW₂, hsm, hL⟩
  · obtain ⟨⟨v, rfl⟩, hW₂, e2, q2, q3, q4, q5, q6⟩ := id hfe
    have e3 : s₂ = ({ (U.calling g mk a).setFrames s₂.frames with heap := s₂.heap, slotsUsed := s₂.slotsUsed } : State).setVm s₂.vm := by
      have : s₂ = ({ s₂ with vm := (U.calling g mk a).vm } : State).setVm s₂.vm := rfl
      rw [e2] at this
      exact this
    obtain ⟨c₂, i₂, len₂, hc₂, hd₂, hf₂⟩ := hend
    have hW' : U.WarmedH s₂.vm := hW₂
    have hcc : c₂ = c := by
      have h1 : s₂.code? g.method = U.code? g.method := by
        rw [State.code?_eq, State.code?_eq, hW'.alike.method?]
      exact Option.some.inj (hc₂.symm.trans (h1.trans h.code))
    subst hcc
    have hlen : len₂ = len := by rw [hdg] at hd₂; cases hd₂; rfl
    subst hlen
    have hs₂ : s₂ = (({ U with heap := s₂.heap, slotsUsed := s₂.slotsUsed } : State).setVm s₂.vm).setTop { g with pc := g.pc + len₂, stack := v.toList ++ g.stack } := by
      refine e3.trans ?_
      rw [hf₂, State.calling_eq h.top, State.setFrames_setFrames, State.setTop_of_frames _ hr', hr]
      rfl
    have hsame : U.sameButNew ({ U with heap := s₂.heap, slotsUsed := s₂.slotsUsed } : State) L mc ms := by
      refine ⟨?_, q2, q3, q4, q5, q6⟩
      obtain ⟨t, ht, -⟩ := State.frames_cons hr
      show ({ U with heap := s₂.heap, slotsUsed := s₂.slotsUsed } : State) = { U.setFrames U.frames with heap := s₂.heap, slotsUsed := s₂.slotsUsed }
      rw [State.setFrames_self ht]
    subst hg
    refine Or.inl ⟨v, ⟨(({ U with heap := s₂.heap, slotsUsed := s₂.slotsUsed } : State).setVm s₂.vm), Ls ++ L, c0 + mc, s0 + ms⟩,
      ⟨X.admits, X.cas, X.clock, X.frames, X.room, X.hears, X.method, X.code, (X.here.setHeapUsed s₂.heap s₂.slotsUsed).setVm hW'.alike, X.tail, State.WarmedH.trans X.warmed hW', X.limits, X.bytes, X.same.trans (hsame.setVm s.vm)⟩,
      ⟨g, mk, s₂, L, rfl, rfl, hqc, rfl, hL, rfl, rfl⟩, ?_⟩
    show Steps p.tables e below _ ((({ U with heap := s₂.heap, slotsUsed := s₂.slotsUsed } : State).setVm s₂.vm).setTop { g with pc := g.pc + len₂, stack := v.toList ++ g.stack })
    rw [← hs₂]
    exact hsteps
  · obtain ⟨e2, q2, q3, q4, q5, q6⟩ := id hsm
    have e3 : s₂ = ({ (U.calling g mk a).setFrames s₂.frames with heap := s₂.heap, slotsUsed := s₂.slotsUsed } : State).setVm s₂.vm := by
      have : s₂ = ({ s₂ with vm := (U.calling g mk a).vm } : State).setVm s₂.vm := rfl
      rw [e2] at this
      exact this
    have hf₂ : s₂.frames = .throwing q :: .java g :: U.frames.tail := hend
    have hW' : U.WarmedH s₂.vm := hW₂
    have hs₂ : s₂ = ((({ U with heap := s₂.heap, slotsUsed := s₂.slotsUsed } : State).setVm s₂.vm).setTop g).pushFrame (.throwing q) := by
      refine e3.trans ?_
      rw [hf₂, State.calling_eq h.top, State.setFrames_setFrames, State.pushFrame, State.frames_setTop _ hr', State.setTop_of_frames _ hr', State.setFrames_setFrames, hr]
      rfl
    have hsame : U.sameButNew ({ U with heap := s₂.heap, slotsUsed := s₂.slotsUsed } : State) L mc ms := by
      refine ⟨?_, q2, q3, q4, q5, q6⟩
      obtain ⟨t, ht, -⟩ := State.frames_cons hr
      show ({ U with heap := s₂.heap, slotsUsed := s₂.slotsUsed } : State) = { U.setFrames U.frames with heap := s₂.heap, slotsUsed := s₂.slotsUsed }
      rw [State.setFrames_self ht]
    subst hg
    refine Or.inr ⟨q, ⟨(({ U with heap := s₂.heap, slotsUsed := s₂.slotsUsed } : State).setVm s₂.vm), Ls ++ L, c0 + mc, s0 + ms⟩,
      ⟨X.admits, X.cas, X.clock, X.frames, X.room, X.hears, X.method, X.code, (X.here.setHeapUsed s₂.heap s₂.slotsUsed).setVm hW'.alike, X.tail, State.WarmedH.trans X.warmed hW', X.limits, X.bytes, X.same.trans (hsame.setVm s.vm)⟩,
      ⟨g, mk, s₂, L, E, ce, rfl, rfl, hx, hce, hcv, hcl, rfl, hL, rfl, rfl⟩, ?_⟩
    show Steps p.tables e below _ (((({ U with heap := s₂.heap, slotsUsed := s₂.slotsUsed } : State).setVm s₂.vm).setTop g).pushFrame (.throwing q))
    rw [← hs₂]
    exact hsteps
end
variable {p : Program} {l : Launch} {e : Env} {R : Room} {s : State} {m : MethodId} {args : Array Value} {below : List Frame} {meth : Method} {c : Code} {T : State} {H : Heap} {locs : List Loc} {cells slots : Nat}
theorem vx_callVX (X : Stand p l e R s m args below meth c T locs cells slots) (hexec : p.tables.exec = Jvm.exec) {own C : String} {index : Nat} {y : MethodName} {bytes : ByteArray} {maxL : Nat} {ret : Option FieldType} {hh : List (Nat × Nat × Nat × Nat)}
    (hown : s.vm.findClass own = some m.cls) (hlink : (Cond.methodLink own index y).before args s = true) (hinst : (Cond.instanceMethod y).before args s = true) (hsel : (Cond.selects C y y).before args s = true)
    (hcode : (Cond.codeWith y bytes maxL ret hh).before args s = true) (hy : y.cls ≠ "java/lang/invoke/MethodHandle" ∧ y.cls ≠ "java/lang/invoke/VarHandle")
    {W9 : Nat} {Pre : Pt → Array Value → Prop} {Post : Pt → Array Value → Option Value → Pt → Prop} {PostX : Pt → Array Value → Addr → Pt → Prop} (hK : vx_Back l R p e below s args y 3 W9 Pre Post PostX)
    {b : Addr} {cellB : Cell} (hcell : T.heap[b]? = some cellB) (hobj : cellB.vm.isStatics = false) (hcls : s.vm.findClass C = some cellB.cls)
    {g : JFrame} (hg : g.method = m) (hsize : g.locals.size = c.maxLocals) {argsL rest : List Value} (hlen : ∀ sig, parseMethodDescriptor y.desc = some sig → argsL.length = sig.parameters.length)
    (hstack : g.stack = argsL.reverse ++ .ref b :: rest) (hW : 2 * g.monitorRoom + (rest.map fun v => v.category).sum ≤ W9) (hdg : decode c.code g.pc = .ok (.invokevirtual index, 3))
    (hpre : ∀ vm₁, s.WarmedH vm₁ → Pre ⟨T.setVm vm₁, locs, cells, slots⟩ (Value.ref b :: argsL).toArray) :
    (∃ (v : Option Value) (vm₁ : Vm) (B : Pt), s.WarmedH vm₁ ∧ Stand p l e R s m args below meth c B.U B.locs B.cells B.slots ∧ Post ⟨T.setVm vm₁, locs, cells, slots⟩ (Value.ref b :: argsL).toArray v B ∧
      ∀ target, Steps p.tables e below (B.U.setTop { g with pc := g.pc + 3, stack := v.toList ++ rest }) target → Steps p.tables e below (T.setTop g) target) ∨
    (∃ (q : Addr) (vm₁ : Vm) (B : Pt), s.WarmedH vm₁ ∧ Stand p l e R s m args below meth c B.U B.locs B.cells B.slots ∧ PostX ⟨T.setVm vm₁, locs, cells, slots⟩ (Value.ref b :: argsL).toArray q B ∧
      Steps p.tables e below (T.setTop g) ((B.U.setTop { g with stack := rest }).pushFrame (.throwing q))) := by
  obtain ⟨mk, methM, hnamed, hmethM, hstM, habM⟩ := Cond.instanceMethod_spec hinst
  obtain ⟨m8, methM', cM, hn8, hmethM', -, -, -, -, -, -, hsigM⟩ := Cond.codeWith_spec hcode
  cases Option.some.inj (hn8.symm.trans hnamed)
  cases hmethM.symm.trans hmethM'
  obtain ⟨c2, r2, m2, q1, q2, q3, q4, kP, hkP, hkPi⟩ := Cond.selects_spec hsel
  cases hcls.symm.trans q1
  cases (State.methodFound?_of_named hnamed hy).symm.trans q2
  cases hnamed.symm.trans q3
  have hselP : selectMethod e.platform s.vm cellB.cls mk = .method mk := by rw [Launch.admits_selectMethod X.admits]; exact q4
  obtain ⟨vm₁, X₁, hstep₁⟩ := X.invokevirtual hexec hown hlink hnamed hmethM hstM hkP hkPi hy (a := b) (cell := cellB) hcell
    (fun z h => by rw [h] at hobj; cases hobj) hselP hmethM habM hkP hkPi (g := g) hg (argsL := argsL) (rest := rest) (hlen _ hsigM) hstack hdg
  rcases hK m meth c ⟨T.setVm vm₁, locs, cells, slots⟩ { g with stack := rest } (.invokevirtual index) mk (Value.ref b :: argsL).toArray X₁ hg hsize hdg hW (X₁.named hnamed) (hpre vm₁ X₁.warmed) with ⟨v, B, X', hpost, hsteps⟩ | ⟨q, B, X', hpost, hsteps⟩
  · exact Or.inl ⟨v, vm₁, B, X₁.warmed, X', hpost, fun target h => hstep₁ _ fun acts => by rw [doInvoke_state]; exact hsteps.trans h⟩
  · exact Or.inr ⟨q, vm₁, B, X₁.warmed, X', hpost, hstep₁ _ fun acts => by rw [doInvoke_state]; exact hsteps⟩
theorem vx_callSX (X : Stand p l e R s m args below meth c T locs cells slots) (hexec : p.tables.exec = Jvm.exec) {own : String} {index : Nat} {y : MethodName} {bytes : ByteArray} {maxL : Nat} {ret : Option FieldType} {hh : List (Nat × Nat × Nat × Nat)}
    (hown : s.vm.findClass own = some m.cls) (hlink : (Cond.methodLink own index y).before args s = true) (hstat : (Cond.static y).before args s = true) (hinit : (Cond.initialized y.cls).before args s = true)
    (hcode : (Cond.codeWith y bytes maxL ret hh).before args s = true) (hy : y.cls ≠ "java/lang/invoke/MethodHandle" ∧ y.cls ≠ "java/lang/invoke/VarHandle")
    {W9 : Nat} {Pre : Pt → Array Value → Prop} {Post : Pt → Array Value → Option Value → Pt → Prop} {PostX : Pt → Array Value → Addr → Pt → Prop} (hK : vx_Back l R p e below s args y 3 W9 Pre Post PostX)
    {g : JFrame} (hg : g.method = m) (hsize : g.locals.size = c.maxLocals) {argsL rest : List Value} (hlen : ∀ sig, parseMethodDescriptor y.desc = some sig → argsL.length = sig.parameters.length)
    (hstack : g.stack = argsL.reverse ++ rest) (hW : 2 * g.monitorRoom + (rest.map fun v => v.category).sum ≤ W9) (hdg : decode c.code g.pc = .ok (.invokestatic index, 3))
    (hpre : ∀ vm₁, s.WarmedH vm₁ → Pre ⟨T.setVm vm₁, locs, cells, slots⟩ argsL.toArray) :
    (∃ (v : Option Value) (vm₁ : Vm) (B : Pt), s.WarmedH vm₁ ∧ Stand p l e R s m args below meth c B.U B.locs B.cells B.slots ∧ Post ⟨T.setVm vm₁, locs, cells, slots⟩ argsL.toArray v B ∧
      ∀ target, Steps p.tables e below (B.U.setTop { g with pc := g.pc + 3, stack := v.toList ++ rest }) target → Steps p.tables e below (T.setTop g) target) ∨
    (∃ (q : Addr) (vm₁ : Vm) (B : Pt), s.WarmedH vm₁ ∧ Stand p l e R s m args below meth c B.U B.locs B.cells B.slots ∧ PostX ⟨T.setVm vm₁, locs, cells, slots⟩ argsL.toArray q B ∧
      Steps p.tables e below (T.setTop g) ((B.U.setTop { g with stack := rest }).pushFrame (.throwing q))) := by
  obtain ⟨mk, methM, cM, hnamed, hmethM, -, -, -, -, -, -, hsigM⟩ := Cond.codeWith_spec hcode
  have hstatic : methM.isStatic = true := Cond.static_spec hnamed hmethM hstat
  obtain ⟨kP, hkP, -⟩ := className_of_methodNamed hnamed
  have hinitP : kP.init = .initialized := Cond.initialized_spec (findClass_of_methodNamed hnamed) hkP hinit
  obtain ⟨vm₁, X₁, hstep₁⟩ := X.invokestatic hexec hown hlink hnamed hmethM hstatic hkP hinitP hy (g := g) hg (argsL := argsL) (rest := rest) (hlen _ hsigM) hstack hdg
  rcases hK m meth c ⟨T.setVm vm₁, locs, cells, slots⟩ { g with stack := rest } (.invokestatic index) mk argsL.toArray X₁ hg hsize hdg hW (X₁.named hnamed) (hpre vm₁ X₁.warmed) with ⟨v, B, X', hpost, hsteps⟩ | ⟨q, B, X', hpost, hsteps⟩
  · exact Or.inl ⟨v, vm₁, B, X₁.warmed, X', hpost, fun target h => hstep₁ _ fun acts => by rw [doInvoke_state]; exact hsteps.trans h⟩
  · exact Or.inr ⟨q, vm₁, B, X₁.warmed, X', hpost, hstep₁ _ fun acts => by rw [doInvoke_state]; exact hsteps⟩
theorem vx_callVW (X : Stand p l e R s m args below meth c T locs cells slots) (hexec : p.tables.exec = Jvm.exec) {own C : String} {index : Nat} {y : MethodName} {bytes : ByteArray} {maxL : Nat} {ret : Option FieldType} {hh : List (Nat × Nat × Nat × Nat)}
    (hown : s.vm.findClass own = some m.cls) (hlink : (Cond.methodLink own index y).before args s = true) (hinst : (Cond.instanceMethod y).before args s = true) (hsel : (Cond.selects C y y).before args s = true)
    (hcode : (Cond.codeWith y bytes maxL ret hh).before args s = true) (hy : y.cls ≠ "java/lang/invoke/MethodHandle" ∧ y.cls ≠ "java/lang/invoke/VarHandle")
    {W9 : Nat} {Pre : Pt → Array Value → Prop} {Post : Pt → Array Value → Option Value → Pt → Prop} (hK : Back l R p e below s args y 3 W9 Pre Post)
    {b : Addr} {cellB : Cell} (hcell : T.heap[b]? = some cellB) (hobj : cellB.vm.isStatics = false) (hcls : s.vm.findClass C = some cellB.cls)
    {g : JFrame} (hg : g.method = m) (hsize : g.locals.size = c.maxLocals) {argsL rest : List Value} (hlen : ∀ sig, parseMethodDescriptor y.desc = some sig → argsL.length = sig.parameters.length)
    (hstack : g.stack = argsL.reverse ++ .ref b :: rest) (hW : 2 * g.monitorRoom + (rest.map fun v => v.category).sum ≤ W9) (hdg : decode c.code g.pc = .ok (.invokevirtual index, 3))
    (hpre : ∀ vm₁, s.WarmedH vm₁ → Pre ⟨T.setVm vm₁, locs, cells, slots⟩ (Value.ref b :: argsL).toArray) :
    ∃ (v : Option Value) (vm₁ : Vm) (B : Pt), s.WarmedH vm₁ ∧ Stand p l e R s m args below meth c B.U B.locs B.cells B.slots ∧ Post ⟨T.setVm vm₁, locs, cells, slots⟩ (Value.ref b :: argsL).toArray v B ∧
      ∀ target, Steps p.tables e below (B.U.setTop { g with pc := g.pc + 3, stack := v.toList ++ rest }) target → Steps p.tables e below (T.setTop g) target := by
  obtain ⟨mk, methM, hnamed, hmethM, hstM, habM⟩ := Cond.instanceMethod_spec hinst
  obtain ⟨m8, methM', cM, hn8, hmethM', -, -, -, -, -, -, hsigM⟩ := Cond.codeWith_spec hcode
  cases Option.some.inj (hn8.symm.trans hnamed)
  cases hmethM.symm.trans hmethM'
  obtain ⟨c2, r2, m2, q1, q2, q3, q4, kP, hkP, hkPi⟩ := Cond.selects_spec hsel
  cases hcls.symm.trans q1
  cases (State.methodFound?_of_named hnamed hy).symm.trans q2
  cases hnamed.symm.trans q3
  have hselP : selectMethod e.platform s.vm cellB.cls mk = .method mk := by rw [Launch.admits_selectMethod X.admits]; exact q4
  obtain ⟨vm₁, X₁, hstep₁⟩ := X.invokevirtual hexec hown hlink hnamed hmethM hstM hkP hkPi hy (a := b) (cell := cellB) hcell
    (fun z h => by rw [h] at hobj; cases hobj) hselP hmethM habM hkP hkPi (g := g) hg (argsL := argsL) (rest := rest) (hlen _ hsigM) hstack hdg
  obtain ⟨v, B, X', hpost, hsteps⟩ := hK m meth c ⟨T.setVm vm₁, locs, cells, slots⟩ { g with stack := rest } (.invokevirtual index) mk (Value.ref b :: argsL).toArray X₁ hg hsize hdg hW (X₁.named hnamed) (hpre vm₁ X₁.warmed)
  exact ⟨v, vm₁, B, X₁.warmed, X', hpost, fun target h => hstep₁ _ fun acts => by rw [doInvoke_state]; exact hsteps.trans h⟩
abbrev vx_CVW (R : Room) (s : State) (args : Array Value) (own C : String) (index : Nat) (y : MethodName) (bytes : ByteArray) (maxL : Nat) (ret : Option FieldType) (hh : List (Nat × Nat × Nat × Nat)) (ws : List Cond) (rm : Room) (mc ms n : Nat) : Prop :=
  (rm.cells = mc ∧ rm.slots = ms ∧ rm.frames + 1 ≤ R.frames ∧ 8 + (maxL + 11) + rm.locals ≤ R.locals ∧ (∀ w ∈ ws, ∀ (a' : Array Value) (U : State), s.WarmedH U.vm → w.before a' U = true) ∧ Cond.codeWith y bytes maxL ret hh ∈ ws) ∧
  (Cond.codeWith y bytes maxL ret hh).before args s = true ∧ (Cond.initialized y.cls).before args s = true ∧ (y.cls ≠ "java/lang/invoke/MethodHandle" ∧ y.cls ≠ "java/lang/invoke/VarHandle") ∧
  (∀ sig, parseMethodDescriptor y.desc = some sig → n = sig.parameters.length) ∧ (Cond.methodLink own index y).before args s = true ∧ (Cond.instanceMethod y).before args s = true ∧ (Cond.selects C y y).before args s = true
theorem vx_cwVW {own C : String} {index maxL mc ms : Nat} {y : MethodName} {bytes : ByteArray} {ret : Option FieldType} {hh : List (Nat × Nat × Nat × Nat)} {Ts ws ws' : List Cond} {rm : Room} (n : Nat) (ht : ∀ w ∈ Ts, w.before args s = true) (hT : GoodIn Ts (wsV own index C y ws)) (hw : ws = Cond.codeWith y bytes maxL ret hh :: ws') (hrc : rm.cells = mc) (hrs : rm.slots = ms)
    (hd : y.cls = C ∧ y.cls ≠ "java/lang/invoke/MethodHandle" ∧ y.cls ≠ "java/lang/invoke/VarHandle" ∧ (parseMethodDescriptor y.desc).map (fun d => d.parameters.length) = some n) (hR : rm.frames + 1 ≤ R.frames ∧ 8 + (maxL + 11) + rm.locals ≤ R.locals) :
    vx_CVW R s args own C index y bytes maxL ret hh ws rm mc ms n := by
  obtain ⟨hC, hd⟩ := hd
  subst hC
  have ok : ∀ w ∈ wsV own index y.cls y ws, w.before args s = true := fun w h => ht w (hT w h).1
  have hG : GoodIn Ts ws := fun w h => hT w (by unfold wsV; exact List.mem_append_right _ h)
  have hc : Cond.codeWith y bytes maxL ret hh ∈ ws := by rw [hw]; exact List.mem_cons_self
  refine ⟨⟨hrc, hrs, hR.1, hR.2, pay_in ht hG, hc⟩, ht _ (hG _ hc).1, ok _ (by simp [wsV]), ⟨hd.1, hd.2.1⟩, fun sig h => ?_, ok _ (by simp [wsV]), ok _ (by simp [wsV]), ok _ (by simp [wsV])⟩
  have h2 := hd.2.2
  rw [h] at h2
  exact (Option.some.inj h2).symm
theorem vx_runVW {y : MethodName} {bytes cc : ByteArray} {maxL nL mc ms n index : Nat} {ret : Option FieldType} {hh : List (Nat × Nat × Nat × Nat)} {ws : List Cond} {rm : Room} {Pc : Array Value → State → Prop} {Qc : Array Value → State → Outcome → State → Prop} {free : Addr → Prop} {Ts : List Cond} {own C : String} {b : Addr} {As rest : List Value} {g : JFrame}
    (S : CallFix p m c cc nL s args Ts own) (hM : Met l y ws rm Pc Qc mc ms free) (cw : vx_CVW R s args own C index y bytes maxL ret hh ws rm mc ms n) (hp : PreV s H C b Pc As)
    (hg : g.method = m) (hn : As.length = n) (hsize : g.locals.size = nL) (hstack : g.stack = As.reverse ++ .ref b :: rest) (hW : 2 * g.monitorRoom + (rest.map fun v => v.category).sum ≤ 8) (hdg : decode cc g.pc = .ok (.invokevirtual index, 3)) (hf : cells + mc ≤ R.cells ∧ slots + ms ≤ R.slots) :
    va_Run p l e R s m args below meth c H locs cells slots mc ms g rest (Qc (Value.ref b :: As).toArray) free := by
  obtain ⟨⟨hrc, hrs, hfr, hlo, hws, hcw⟩, hcode, hini, hy, hlen, hl, hin, hse⟩ := cw
  have hK : Back l R p e below s args y 3 8 (PreOf R mc ms Pc) (PostOf Qc mc ms free) := va_backW (hh := hh) (bytes := bytes) (maxL := maxL) (ret := ret) hM hp.1 hrc hrs hfr hlo hws hcw (fun a' U hW => word_at hW (Or.inl (by first | rfl | simp [Cond.onTables, Cond.keeps, Cond.steady])) hini)
  obtain ⟨hx, hb, hml, ho, -⟩ := S
  obtain ⟨-, ⟨cellB, hcB, hoB, hclB⟩, hPc⟩ := hp
  intro T hT X
  obtain ⟨v, vm₁, ⟨U', l2, c2, s2⟩, hW₁, X', ⟨g', mk, t, L, e1, e2, hq, h1, hL, h2, h3⟩, st⟩ := vx_callVW X hx (C := C) (hh := hh) (bytes := bytes) (maxL := maxL) (ret := ret) ho hl hin hse hcode hy hK (by rw [hT]; exact hcB) hoB hclB hg (hsize.trans hml.symm) (argsL := As) (rest := rest) (fun sig h => hn.trans (hlen sig h)) hstack hW (by rw [hb]; exact hdg)
    (fun vm₁ hW₁ => ⟨hf.1, hf.2, hPc (T.setVm vm₁) hT hW₁⟩)
  dsimp only [Pt.U, Pt.locs, Pt.cells, Pt.slots] at X' e1 e2 h1 h2 h3 st
  subst h1; subst h2; subst h3
  exact ⟨v, (T.setVm vm₁).calling g' mk (Value.ref b :: As).toArray, t, U', L, hT, X', hL, e1, e2, hq, st⟩
section
variable {y : MethodName} {bytes cc : ByteArray} {maxL nL mc ms n index : Nat} {ret : Option FieldType} {ws : List Cond} {rm : Room} {Pc : Array Value → State → Prop} {Qc : Array Value → State → Outcome → State → Prop} {XC : String → State → State → Prop} {free : Addr → Prop} {Ts : List Cond} {own C : String} {b : Addr} {As rest : List Value} {g : JFrame}
theorem vx_runVX {hh : List (Nat × Nat × Nat × Nat)} (S : CallFix p m c cc nL s args Ts own) (hM : vx_Met l y ws rm Pc Qc XC mc ms free) (cw : vx_CVW R s args own C index y bytes maxL ret hh ws rm mc ms n) (hp : PreV s H C b Pc As)
    (hg : g.method = m) (hn : As.length = n) (hsize : g.locals.size = nL) (hstack : g.stack = As.reverse ++ .ref b :: rest) (hW : 2 * g.monitorRoom + (rest.map fun v => v.category).sum ≤ 8) (hdg : decode cc g.pc = .ok (.invokevirtual index, 3)) (hf : cells + mc ≤ R.cells ∧ slots + ms ≤ R.slots) :
    vx_Run p l e R s m args below meth c H locs cells slots mc ms g rest (Qc (Value.ref b :: As).toArray) XC free := by
  obtain ⟨⟨hrc, hrs, hfr, hlo, hws, hcw⟩, hcode, hini, hy, hlen, hl, hin, hse⟩ := cw
  have hK : vx_Back l R p e below s args y 3 8 (PreOf R mc ms Pc) (PostOf Qc mc ms free) (vx_Post XC mc ms free) := vx_backW (hh := hh) (bytes := bytes) (maxL := maxL) (ret := ret) hM hp.1 hrc hrs hfr hlo hws hcw (fun a' U hW => word_at hW (Or.inl (by first | rfl | simp [Cond.onTables, Cond.keeps, Cond.steady])) hini)
  obtain ⟨hx, hb, hml, ho, -⟩ := S
  obtain ⟨-, ⟨cellB, hcB, hoB, hclB⟩, hPc⟩ := hp
  intro T hT X
  rcases vx_callVX X hx (C := C) (hh := hh) (bytes := bytes) (maxL := maxL) (ret := ret) ho hl hin hse hcode hy hK (by rw [hT]; exact hcB) hoB hclB hg (hsize.trans hml.symm) (argsL := As) (rest := rest) (fun sig h => hn.trans (hlen sig h)) hstack hW (by rw [hb]; exact hdg)
    (fun vm₁ hW₁ => ⟨hf.1, hf.2, hPc (T.setVm vm₁) hT hW₁⟩) with ⟨v, vm₁, ⟨U', l2, c2, s2⟩, hW₁, X', ⟨g', mk, t, L, e1, e2, hq, h1, hL, h2, h3⟩, st⟩ | ⟨q, vm₁, ⟨U', l2, c2, s2⟩, hW₁, X', ⟨g', mk, t, L, E, ce, e1, e2, hq, hce, hcv, hcl, h1, hL, h2, h3⟩, st⟩
  · dsimp only [Pt.U, Pt.locs, Pt.cells, Pt.slots] at X' e1 e2 h1 h2 h3 st
    subst h1; subst h2; subst h3
    exact Or.inl ⟨v, (T.setVm vm₁).calling g' mk (Value.ref b :: As).toArray, t, U', L, hT, X', hL, e1, e2, hq, st⟩
  · dsimp only [Pt.U, Pt.locs, Pt.cells, Pt.slots] at X' e1 e2 h1 h2 h3 st hcl
    subst h1; subst h2; subst h3
    exact Or.inr ⟨q, (T.setVm vm₁).calling g' mk (Value.ref b :: As).toArray, t, U', L, E, ce, hT, X', hL, e1, e2, hq, hce, hcv, vx_cls hW₁ hcl, st⟩
theorem vx_runSX {hh : List (Nat × Nat × Nat × Nat)} (S : CallFix p m c cc nL s args Ts own) (hM : vx_Met l y ws rm Pc Qc XC mc ms free) (cw : vx_CSW R s args own index y bytes maxL ret hh ws rm mc ms n) (hp : PreS s H Pc As)
    (hg : g.method = m) (hn : As.length = n) (hsize : g.locals.size = nL) (hstack : g.stack = As.reverse ++ rest) (hW : 2 * g.monitorRoom + (rest.map fun v => v.category).sum ≤ 8) (hdg : decode cc g.pc = .ok (.invokestatic index, 3)) (hf : cells + mc ≤ R.cells ∧ slots + ms ≤ R.slots) :
    vx_Run p l e R s m args below meth c H locs cells slots mc ms g rest (Qc As.toArray) XC free := by
  obtain ⟨⟨hrc, hrs, hfr, hlo, hws, hcw⟩, hcode, hini, hy, hlen, hl, hstt⟩ := cw
  have hK : vx_Back l R p e below s args y 3 8 (PreOf R mc ms Pc) (PostOf Qc mc ms free) (vx_Post XC mc ms free) := vx_backW (hh := hh) (bytes := bytes) (maxL := maxL) (ret := ret) hM hp.1 hrc hrs hfr hlo hws hcw (fun a' U hW => word_at hW (Or.inl (by first | rfl | simp [Cond.onTables, Cond.keeps, Cond.steady])) hini)
  obtain ⟨hx, hb, hml, ho, -⟩ := S
  intro T hT X
  rcases vx_callSX X hx (hh := hh) (bytes := bytes) (maxL := maxL) (ret := ret) ho hl hstt hini hcode hy hK hg (hsize.trans hml.symm) (argsL := As) (rest := rest) (fun sig h => hn.trans (hlen sig h)) hstack hW (by rw [hb]; exact hdg)
    (fun vm₁ hW₁ => ⟨hf.1, hf.2, hp.2 (T.setVm vm₁) hT hW₁⟩) with ⟨v, vm₁, ⟨U', l2, c2, s2⟩, hW₁, X', ⟨g', mk, t, L, e1, e2, hq, h1, hL, h2, h3⟩, st⟩ | ⟨q, vm₁, ⟨U', l2, c2, s2⟩, hW₁, X', ⟨g', mk, t, L, E, ce, e1, e2, hq, hce, hcv, hcl, h1, hL, h2, h3⟩, st⟩
  · dsimp only [Pt.U, Pt.locs, Pt.cells, Pt.slots] at X' e1 e2 h1 h2 h3 st
    subst h1; subst h2; subst h3
    exact Or.inl ⟨v, (T.setVm vm₁).calling g' mk As.toArray, t, U', L, hT, X', hL, e1, e2, hq, st⟩
  · dsimp only [Pt.U, Pt.locs, Pt.cells, Pt.slots] at X' e1 e2 h1 h2 h3 st hcl
    subst h1; subst h2; subst h3
    exact Or.inr ⟨q, (T.setVm vm₁).calling g' mk As.toArray, t, U', L, E, ce, hT, X', hL, e1, e2, hq, hce, hcv, vx_cls hW₁ hcl, st⟩
end
end VXH
theorem vx_ofWH {l : Launch} {y : MethodName} {ws ws' : List Cond} {rm : Room} {Pc : Array Value → State → Prop} {Qc : Array Value → State → Outcome → State → Prop} {XC : String → State → State → Prop} {mc ms : Nat} {free : Addr → Prop} {cc : ByteArray} {maxL : Nat} {ret : Option FieldType} {hh : List (Nat × Nat × Nat × Nat)}
    (hy : plainName y.cls = true) (hw : ws = Cond.codeWith y cc maxL ret hh :: ws')
    (body : ∀ p e s m args below meth c s₁, BodyLoose p l y (headSpec ws rm) cc maxL ret e s m args below meth c s₁ → c.maxLocals = maxL → Pc args s →
      W p l e (headSpec ws rm).room s m args below meth c s.heap [] 0 0 (vx_MQ below Qc XC args s mc ms free) (entryFrame m args maxL)) : vx_Met l y ws rm Pc Qc XC mc ms free := by
  refine MetFree.of_bodyS (code := cc) (maxLocals := maxL) (ret := ret) hy ?_ ?_
  · intro args s m h hn
    obtain ⟨m9, meth, c, hn9, h1, h2, h3, h4, -, h5, h6, -⟩ := Cond.codeWith_spec (atoms_spec (ws := ws) h _ (by rw [hw]; exact List.mem_cons_self))
    cases hn.symm.trans hn9
    exact ⟨meth, c, h1, h2, h3, h4, h5, h6⟩
  · intro p e s m args below meth c s₁ B hml hP _
    have hh0 : s₁.heap = s.heap := by rw [B.state]; rfl
    obtain ⟨t, a1, o, b1, b2, b3⟩ := body p e s m args below meth c s₁ B hml hP s₁ hh0 (Stand.of_body B)
    exact ⟨t, o, a1, b1, b2, b3⟩
/-! ===== END ===== -/
end
section
/-! ===== BEGIN printed: names, fields, word lists, decode rows ===== -/
def RX0 : String := "Releaseledger$Text"
def TX0 : u_T := fun k => match k with
  | 0 => ("Releaseledger$Text", "signs", "[C", true)
  | _ => ("Releaseledger$Text", "count", "I", false)
def tyX0 : Nat → FieldType := fun k => match k with
  | 0 => .array .char
  | _ => .int
abbrev wsX00 : List Cond := u_ws RX0 TX0 2
theorem nmX0 : ∀ a, a < 2 → ∀ b, b < 2 → a ≠ b → (TX0 a).2.1 ≠ (TX0 b).2.1 := by decide +kernel
theorem tyX0_ok : ∀ k, k < 2 → parseFieldDescriptor (TX0 k).2.2.1 = some (tyX0 k) := by decide +kernel
abbrev cX0_init : ByteArray := prog_2_method_1_code
def yX0_init : MethodName := ⟨RX0, "<init>", "()V"⟩
abbrev cX0_length : ByteArray := prog_2_method_2_code
def yX0_length : MethodName := ⟨RX0, "length", "()I"⟩
abbrev cX0_signAt : ByteArray := prog_2_method_3_code
def yX0_signAt : MethodName := ⟨RX0, "signAt", "(I)C"⟩
abbrev cX0_clear : ByteArray := prog_2_method_4_code
def yX0_clear : MethodName := ⟨RX0, "clear", "()V"⟩
abbrev cX0_put : ByteArray := prog_2_method_5_code
def yX0_put : MethodName := ⟨RX0, "put", "(C)V"⟩
abbrev cX0_putAll : ByteArray := prog_2_method_6_code
def yX0_putAll : MethodName := ⟨RX0, "putAll", "(LReleaseledger$Text;)V"⟩
abbrev cX0_putNumber : ByteArray := prog_2_method_7_code
def yX0_putNumber : MethodName := ⟨RX0, "putNumber", "(II)V"⟩
abbrev cX0_putWord : ByteArray := prog_2_method_8_code
def yX0_putWord : MethodName := ⟨RX0, "putWord", "(II)V"⟩
abbrev cX0_lastKind : ByteArray := prog_2_method_9_code
def yX0_lastKind : MethodName := ⟨RX0, "lastKind", "()I"⟩
abbrev cX0_has : ByteArray := prog_2_method_10_code
def yX0_has : MethodName := ⟨RX0, "has", "(C)Z"⟩
abbrev cX0_isLike : ByteArray := prog_2_method_11_code
def yX0_isLike : MethodName := ⟨RX0, "isLike", "(LReleaseledger$Text;)Z"⟩
abbrev cX0_hash : ByteArray := prog_2_method_12_code
def yX0_hash : MethodName := ⟨RX0, "hash", "()I"⟩
abbrev cX0_addTo : ByteArray := prog_2_method_13_code
def yX0_addTo : MethodName := ⟨RX0, "addTo", "(J)J"⟩
def RX1 : String := "Releaseledger$Version"
def TX1 : u_T := fun k => match k with
  | 0 => ("Releaseledger$Version", "told", "LReleaseledger$Text;", true)
  | 1 => ("Releaseledger$Version", "starts", "[[I", true)
  | 2 => ("Releaseledger$Version", "sizes", "[[I", true)
  | _ => ("Releaseledger$Version", "counts", "[I", true)
def tyX1 : Nat → FieldType := fun k => match k with
  | 0 => .object "Releaseledger$Text"
  | 1 => .array (.array .int)
  | 2 => .array (.array .int)
  | _ => .array .int
abbrev wsX10 : List Cond := u_ws RX1 TX1 4
theorem nmX1 : ∀ a, a < 4 → ∀ b, b < 4 → a ≠ b → (TX1 a).2.1 ≠ (TX1 b).2.1 := by decide +kernel
theorem tyX1_ok : ∀ k, k < 4 → parseFieldDescriptor (TX1 k).2.2.1 = some (tyX1 k) := by decide +kernel
abbrev cX1_init : ByteArray := prog_3_method_1_code
def yX1_init : MethodName := ⟨RX1, "<init>", "()V"⟩
abbrev cX1_tell : ByteArray := prog_3_method_2_code
def yX1_tell : MethodName := ⟨RX1, "tell", "(LReleaseledger$Text;)V"⟩
abbrev cX1_readTokens : ByteArray := prog_3_method_3_code
def yX1_readTokens : MethodName := ⟨RX1, "readTokens", "()V"⟩
abbrev cX1_rowBehind : ByteArray := prog_3_method_4_code
def yX1_rowBehind : MethodName := ⟨RX1, "rowBehind", "(IC)I"⟩
abbrev cX1_openToken : ByteArray := prog_3_method_5_code
def yX1_openToken : MethodName := ⟨RX1, "openToken", "(III)V"⟩
abbrev cX1_growToken : ByteArray := prog_3_method_6_code
def yX1_growToken : MethodName := ⟨RX1, "growToken", "(IIC)V"⟩
abbrev cX1_tokensIn : ByteArray := prog_3_method_7_code
def yX1_tokensIn : MethodName := ⟨RX1, "tokensIn", "(I)I"⟩
abbrev cX1_hasRow : ByteArray := prog_3_method_8_code
def yX1_hasRow : MethodName := ⟨RX1, "hasRow", "(I)Z"⟩
abbrev cX1_hasToken : ByteArray := prog_3_method_9_code
def yX1_hasToken : MethodName := ⟨RX1, "hasToken", "(II)Z"⟩
abbrev cX1_allTokens : ByteArray := prog_3_method_10_code
def yX1_allTokens : MethodName := ⟨RX1, "allTokens", "()I"⟩
abbrev cX1_words : ByteArray := prog_3_method_11_code
def yX1_words : MethodName := ⟨RX1, "words", "()I"⟩
abbrev cX1_sizeAt : ByteArray := prog_3_method_12_code
def yX1_sizeAt : MethodName := ⟨RX1, "sizeAt", "(II)I"⟩
abbrev cX1_startAt : ByteArray := prog_3_method_13_code
def yX1_startAt : MethodName := ⟨RX1, "startAt", "(II)I"⟩
abbrev cX1_orderTo : ByteArray := prog_3_method_14_code
def yX1_orderTo : MethodName := ⟨RX1, "orderTo", "(LReleaseledger$Version;)I"⟩
abbrev cX1_tellingRow : ByteArray := prog_3_method_15_code
def yX1_tellingRow : MethodName := ⟨RX1, "tellingRow", "(LReleaseledger$Version;)I"⟩
abbrev cX1_orderOfRow : ByteArray := prog_3_method_16_code
def yX1_orderOfRow : MethodName := ⟨RX1, "orderOfRow", "(ILReleaseledger$Version;)I"⟩
abbrev cX1_orderOfSizes : ByteArray := prog_3_method_17_code
def yX1_orderOfSizes : MethodName := ⟨RX1, "orderOfSizes", "(II)I"⟩
abbrev cX1_orderOfWords : ByteArray := prog_3_method_18_code
def yX1_orderOfWords : MethodName := ⟨RX1, "orderOfWords", "(IILReleaseledger$Version;)I"⟩
def RX2 : String := "Releaseledger"
def TX2 : u_T := fun k => match k with
  | 0 => ("Releaseledger", "draft", "LReleaseledger$Text;", true)
  | 1 => ("Releaseledger", "slots", "[LReleaseledger$Version;", true)
  | 2 => ("Releaseledger", "sorted", "[LReleaseledger$Version;", true)
  | 3 => ("Releaseledger", "slotsInOrder", "[I", true)
  | 4 => ("Releaseledger", "orders", "[I", true)
  | _ => ("Releaseledger", "spare", "LReleaseledger$Version;", false)
def tyX2 : Nat → FieldType := fun k => match k with
  | 0 => .object "Releaseledger$Text"
  | 1 => .array (.object "Releaseledger$Version")
  | 2 => .array (.object "Releaseledger$Version")
  | 3 => .array .int
  | 4 => .array .int
  | _ => .object "Releaseledger$Version"
abbrev wsX20 : List Cond := u_ws RX2 TX2 6
theorem nmX2 : ∀ a, a < 6 → ∀ b, b < 6 → a ≠ b → (TX2 a).2.1 ≠ (TX2 b).2.1 := by decide +kernel
theorem tyX2_ok : ∀ k, k < 6 → parseFieldDescriptor (TX2 k).2.2.1 = some (tyX2 k) := by decide +kernel
abbrev cX2_init : ByteArray := prog_1_method_1_code
def yX2_init : MethodName := ⟨RX2, "<init>", "()V"⟩
abbrev cX2_begin : ByteArray := prog_1_method_2_code
def yX2_begin : MethodName := ⟨RX2, "begin", "(II)I"⟩
abbrev cX2_add : ByteArray := prog_1_method_3_code
def yX2_add : MethodName := ⟨RX2, "add", "(IIC)I"⟩
abbrev cX2_word : ByteArray := prog_1_method_4_code
def yX2_word : MethodName := ⟨RX2, "word", "(IIC)I"⟩
abbrev cX2_drop : ByteArray := prog_1_method_5_code
def yX2_drop : MethodName := ⟨RX2, "drop", "()I"⟩
abbrev cX2_sign : ByteArray := prog_1_method_6_code
def yX2_sign : MethodName := ⟨RX2, "sign", "(I)C"⟩
abbrev cX2_parse : ByteArray := prog_1_method_7_code
def yX2_parse : MethodName := ⟨RX2, "parse", "(I)I"⟩
abbrev cX2_triple : ByteArray := prog_1_method_8_code
def yX2_triple : MethodName := ⟨RX2, "triple", "(IIII)I"⟩
abbrev cX2_copy : ByteArray := prog_1_method_9_code
def yX2_copy : MethodName := ⟨RX2, "copy", "(II)I"⟩
abbrev cX2_size : ByteArray := prog_1_method_10_code
def yX2_size : MethodName := ⟨RX2, "size", "(I)I"⟩
abbrev cX2_text : ByteArray := prog_1_method_11_code
def yX2_text : MethodName := ⟨RX2, "text", "(II)C"⟩
abbrev cX2_tokens : ByteArray := prog_1_method_12_code
def yX2_tokens : MethodName := ⟨RX2, "tokens", "(II)I"⟩
abbrev cX2_token : ByteArray := prog_1_method_13_code
def yX2_token : MethodName := ⟨RX2, "token", "(III)I"⟩
abbrev cX2_compare : ByteArray := prog_1_method_14_code
def yX2_compare : MethodName := ⟨RX2, "compare", "(II)I"⟩
abbrev cX2_isSame : ByteArray := prog_1_method_15_code
def yX2_isSame : MethodName := ⟨RX2, "isSame", "(II)Z"⟩
abbrev cX2_apart : ByteArray := prog_1_method_16_code
def yX2_apart : MethodName := ⟨RX2, "apart", "(II)I"⟩
abbrev cX2_rank : ByteArray := prog_1_method_17_code
def yX2_rank : MethodName := ⟨RX2, "rank", "(I)I"⟩
abbrev cX2_at : ByteArray := prog_1_method_18_code
def yX2_at : MethodName := ⟨RX2, "at", "(I)I"⟩
abbrev cX2_sort : ByteArray := prog_1_method_19_code
def yX2_sort : MethodName := ⟨RX2, "sort", "()I"⟩
abbrev cX2_between : ByteArray := prog_1_method_20_code
def yX2_between : MethodName := ⟨RX2, "between", "(II)I"⟩
abbrev cX2_zero : ByteArray := prog_1_method_21_code
def yX2_zero : MethodName := ⟨RX2, "zero", "(II)Z"⟩
abbrev cX2_longer : ByteArray := prog_1_method_22_code
def yX2_longer : MethodName := ⟨RX2, "longer", "(III)Z"⟩
abbrev cX2_early : ByteArray := prog_1_method_23_code
def yX2_early : MethodName := ⟨RX2, "early", "(ICI)Z"⟩
abbrev cX2_built : ByteArray := prog_1_method_24_code
def yX2_built : MethodName := ⟨RX2, "built", "(III)I"⟩
abbrev cX2_isHashed : ByteArray := prog_1_method_25_code
def yX2_isHashed : MethodName := ⟨RX2, "isHashed", "(I)Z"⟩
abbrev cX2_wordShare : ByteArray := prog_1_method_26_code
def yX2_wordShare : MethodName := ⟨RX2, "wordShare", "()F"⟩
abbrev cX2_checksum : ByteArray := prog_1_method_27_code
def yX2_checksum : MethodName := ⟨RX2, "checksum", "()J"⟩
abbrev cX2_isTrue : ByteArray := prog_1_method_28_code
def yX2_isTrue : MethodName := ⟨RX2, "isTrue", "()Z"⟩
abbrev cX2_checkNumber : ByteArray := prog_1_method_29_code
def yX2_checkNumber : MethodName := ⟨RX2, "checkNumber", "(III)V"⟩
abbrev cX2_checkZeros : ByteArray := prog_1_method_30_code
def yX2_checkZeros : MethodName := ⟨RX2, "checkZeros", "(I)V"⟩
abbrev cX2_checkWay : ByteArray := prog_1_method_31_code
def yX2_checkWay : MethodName := ⟨RX2, "checkWay", "(C)V"⟩
abbrev cX2_checkJoin : ByteArray := prog_1_method_32_code
def yX2_checkJoin : MethodName := ⟨RX2, "checkJoin", "(CII)V"⟩
abbrev cX2_checkRoom : ByteArray := prog_1_method_33_code
def yX2_checkRoom : MethodName := ⟨RX2, "checkRoom", "(LReleaseledger$Text;I)V"⟩
abbrev cX2_checkPlace : ByteArray := prog_1_method_34_code
def yX2_checkPlace : MethodName := ⟨RX2, "checkPlace", "(LReleaseledger$Text;I)V"⟩
abbrev cX2_checkSlot : ByteArray := prog_1_method_35_code
def yX2_checkSlot : MethodName := ⟨RX2, "checkSlot", "(I)V"⟩
abbrev cX2_checkRow : ByteArray := prog_1_method_36_code
def yX2_checkRow : MethodName := ⟨RX2, "checkRow", "(I)V"⟩
abbrev cX2_versionIn : ByteArray := prog_1_method_37_code
def yX2_versionIn : MethodName := ⟨RX2, "versionIn", "(I)LReleaseledger$Version;"⟩
abbrev cX2_putJoint : ByteArray := prog_1_method_38_code
def yX2_putJoint : MethodName := ⟨RX2, "putJoint", "(C)V"⟩
abbrev cX2_exchangeSpare : ByteArray := prog_1_method_39_code
def yX2_exchangeSpare : MethodName := ⟨RX2, "exchangeSpare", "(I)I"⟩
abbrev cX2_parseAnew : ByteArray := prog_1_method_40_code
def yX2_parseAnew : MethodName := ⟨RX2, "parseAnew", "(LReleaseledger$Version;)V"⟩
abbrev cX2_parseWithNumberBehind : ByteArray := prog_1_method_41_code
def yX2_parseWithNumberBehind : MethodName := ⟨RX2, "parseWithNumberBehind", "(LReleaseledger$Version;CI)V"⟩
abbrev cX2_parseWithLetterBehind : ByteArray := prog_1_method_42_code
def yX2_parseWithLetterBehind : MethodName := ⟨RX2, "parseWithLetterBehind", "(LReleaseledger$Version;C)V"⟩
abbrev cX2_orderSlots : ByteArray := prog_1_method_43_code
def yX2_orderSlots : MethodName := ⟨RX2, "orderSlots", "()V"⟩
abbrev cX2_fillOrders : ByteArray := prog_1_method_44_code
def yX2_fillOrders : MethodName := ⟨RX2, "fillOrders", "()V"⟩
abbrev cX2_orderOf : ByteArray := prog_1_method_45_code
def yX2_orderOf : MethodName := ⟨RX2, "orderOf", "(II)I"⟩
abbrev cX2_isTrueOfOne : ByteArray := prog_1_method_46_code
def yX2_isTrueOfOne : MethodName := ⟨RX2, "isTrueOfOne", "(LReleaseledger$Version;)Z"⟩
abbrev cX2_isTrueOfTwo : ByteArray := prog_1_method_47_code
def yX2_isTrueOfTwo : MethodName := ⟨RX2, "isTrueOfTwo", "(II)Z"⟩
abbrev cX2_isTrueOfThree : ByteArray := prog_1_method_48_code
def yX2_isTrueOfThree : MethodName := ⟨RX2, "isTrueOfThree", "(III)Z"⟩
abbrev cX2_kindOf : ByteArray := prog_1_method_49_code
def yX2_kindOf : MethodName := ⟨RX2, "kindOf", "(C)I"⟩
abbrev cX2_digitsOf : ByteArray := prog_1_method_50_code
def yX2_digitsOf : MethodName := ⟨RX2, "digitsOf", "(I)I"⟩
abbrev cX2_letterOf : ByteArray := prog_1_method_51_code
def yX2_letterOf : MethodName := ⟨RX2, "letterOf", "(I)C"⟩
abbrev cX2_orderOfNumbers : ByteArray := prog_1_method_52_code
def yX2_orderOfNumbers : MethodName := ⟨RX2, "orderOfNumbers", "(II)I"⟩
def RX3 : String := "ReleaseledgerModel"
def TX3 : u_T := fun k => match k with
  | 0 => ("ReleaseledgerModel", "draft", "[C", true)
  | 1 => ("ReleaseledgerModel", "draftSize", "I", false)
  | 2 => ("ReleaseledgerModel", "texts", "[[C", true)
  | 3 => ("ReleaseledgerModel", "sizes", "[I", true)
  | 4 => ("ReleaseledgerModel", "seen", "[[C", true)
  | 5 => ("ReleaseledgerModel", "many", "[[I", true)
  | 6 => ("ReleaseledgerModel", "starts", "[[[I", true)
  | 7 => ("ReleaseledgerModel", "ends", "[[[I", true)
  | _ => ("ReleaseledgerModel", "thrown", "I", false)
def tyX3 : Nat → FieldType := fun k => match k with
  | 0 => .array .char
  | 1 => .int
  | 2 => .array (.array .char)
  | 3 => .array .int
  | 4 => .array (.array .char)
  | 5 => .array (.array .int)
  | 6 => .array (.array (.array .int))
  | 7 => .array (.array (.array .int))
  | _ => .int
abbrev wsX30 : List Cond := u_ws RX3 TX3 9
theorem nmX3 : ∀ a, a < 9 → ∀ b, b < 9 → a ≠ b → (TX3 a).2.1 ≠ (TX3 b).2.1 := by decide +kernel
theorem tyX3_ok : ∀ k, k < 9 → parseFieldDescriptor (TX3 k).2.2.1 = some (tyX3 k) := by decide +kernel
abbrev cX3_init : ByteArray := prog_5_method_1_code
def yX3_init : MethodName := ⟨RX3, "<init>", "()V"⟩
abbrev cX3_thrown : ByteArray := prog_5_method_2_code
def yX3_thrown : MethodName := ⟨RX3, "thrown", "()I"⟩
abbrev cX3_no : ByteArray := prog_5_method_3_code
def yX3_no : MethodName := ⟨RX3, "no", "(ZI)Z"⟩
abbrev cX3_in : ByteArray := prog_5_method_4_code
def yX3_in : MethodName := ⟨RX3, "in", "(III)Z"⟩
abbrev cX3_isSlot : ByteArray := prog_5_method_5_code
def yX3_isSlot : MethodName := ⟨RX3, "isSlot", "(I)Z"⟩
abbrev cX3_isDigit : ByteArray := prog_5_method_6_code
def yX3_isDigit : MethodName := ⟨RX3, "isDigit", "(C)Z"⟩
abbrev cX3_isPoint : ByteArray := prog_5_method_7_code
def yX3_isPoint : MethodName := ⟨RX3, "isPoint", "(C)Z"⟩
abbrev cX3_look : ByteArray := prog_5_method_8_code
def yX3_look : MethodName := ⟨RX3, "look", "(I[CI)V"⟩
abbrev cX3_look_ : ByteArray := prog_5_method_9_code
def yX3_look_ : MethodName := ⟨RX3, "look", "(II)V"⟩
abbrev cX3_isNumber : ByteArray := prog_5_method_10_code
def yX3_isNumber : MethodName := ⟨RX3, "isNumber", "(III)Z"⟩
abbrev cX3_number : ByteArray := prog_5_method_11_code
def yX3_number : MethodName := ⟨RX3, "number", "(III)I"⟩
abbrev cX3_words : ByteArray := prog_5_method_12_code
def yX3_words : MethodName := ⟨RX3, "words", "(II)I"⟩
abbrev cX3_rows : ByteArray := prog_5_method_13_code
def yX3_rows : MethodName := ⟨RX3, "rows", "(I)I"⟩
abbrev cX3_judged : ByteArray := prog_5_method_14_code
def yX3_judged : MethodName := ⟨RX3, "judged", "()[I"⟩
abbrev cX3_order : ByteArray := prog_5_method_15_code
def yX3_order : MethodName := ⟨RX3, "order", "(II)I"⟩
abbrev cX3_lay : ByteArray := prog_5_method_16_code
def yX3_lay : MethodName := ⟨RX3, "lay", "(I[CI)I"⟩
abbrev cX3_length : ByteArray := prog_5_method_17_code
def yX3_length : MethodName := ⟨RX3, "length", "(I)I"⟩
abbrev cX3_digits : ByteArray := prog_5_method_18_code
def yX3_digits : MethodName := ⟨RX3, "digits", "([CIII)I"⟩
abbrev cX3_begin : ByteArray := prog_5_method_19_code
def yX3_begin : MethodName := ⟨RX3, "begin", "(II)I"⟩
abbrev cX3_isWay : ByteArray := prog_5_method_20_code
def yX3_isWay : MethodName := ⟨RX3, "isWay", "(C)Z"⟩
abbrev cX3_isJoined : ByteArray := prog_5_method_21_code
def yX3_isJoined : MethodName := ⟨RX3, "isJoined", "(ZCI)Z"⟩
abbrev cX3_join : ByteArray := prog_5_method_22_code
def yX3_join : MethodName := ⟨RX3, "join", "(C)V"⟩
abbrev cX3_add : ByteArray := prog_5_method_23_code
def yX3_add : MethodName := ⟨RX3, "add", "(IIC)I"⟩
abbrev cX3_word : ByteArray := prog_5_method_24_code
def yX3_word : MethodName := ⟨RX3, "word", "(IIC)I"⟩
abbrev cX3_drop : ByteArray := prog_5_method_25_code
def yX3_drop : MethodName := ⟨RX3, "drop", "()I"⟩
abbrev cX3_sign : ByteArray := prog_5_method_26_code
def yX3_sign : MethodName := ⟨RX3, "sign", "(I)C"⟩
abbrev cX3_parse : ByteArray := prog_5_method_27_code
def yX3_parse : MethodName := ⟨RX3, "parse", "(I)I"⟩
abbrev cX3_triple : ByteArray := prog_5_method_28_code
def yX3_triple : MethodName := ⟨RX3, "triple", "(IIII)I"⟩
abbrev cX3_copy : ByteArray := prog_5_method_29_code
def yX3_copy : MethodName := ⟨RX3, "copy", "(II)I"⟩
abbrev cX3_size : ByteArray := prog_5_method_30_code
def yX3_size : MethodName := ⟨RX3, "size", "(I)I"⟩
abbrev cX3_text : ByteArray := prog_5_method_31_code
def yX3_text : MethodName := ⟨RX3, "text", "(II)C"⟩
abbrev cX3_tokens : ByteArray := prog_5_method_32_code
def yX3_tokens : MethodName := ⟨RX3, "tokens", "(II)I"⟩
abbrev cX3_token : ByteArray := prog_5_method_33_code
def yX3_token : MethodName := ⟨RX3, "token", "(III)I"⟩
abbrev cX3_compare : ByteArray := prog_5_method_34_code
def yX3_compare : MethodName := ⟨RX3, "compare", "(II)I"⟩
abbrev cX3_isSame : ByteArray := prog_5_method_35_code
def yX3_isSame : MethodName := ⟨RX3, "isSame", "(II)Z"⟩
abbrev cX3_apart : ByteArray := prog_5_method_36_code
def yX3_apart : MethodName := ⟨RX3, "apart", "(II)I"⟩
abbrev cX3_rank : ByteArray := prog_5_method_37_code
def yX3_rank : MethodName := ⟨RX3, "rank", "(I)I"⟩
abbrev cX3_place : ByteArray := prog_5_method_38_code
def yX3_place : MethodName := ⟨RX3, "place", "(I)I"⟩
abbrev cX3_at : ByteArray := prog_5_method_39_code
def yX3_at : MethodName := ⟨RX3, "at", "(I)I"⟩
abbrev cX3_sort : ByteArray := prog_5_method_40_code
def yX3_sort : MethodName := ⟨RX3, "sort", "()I"⟩
abbrev cX3_between : ByteArray := prog_5_method_41_code
def yX3_between : MethodName := ⟨RX3, "between", "(II)I"⟩
abbrev cX3_behind : ByteArray := prog_5_method_42_code
def yX3_behind : MethodName := ⟨RX3, "behind", "(ICII)I"⟩
abbrev cX3_longer : ByteArray := prog_5_method_43_code
def yX3_longer : MethodName := ⟨RX3, "longer", "(I)[C"⟩
abbrev cX3_put : ByteArray := prog_5_method_44_code
def yX3_put : MethodName := ⟨RX3, "put", "(I[CII)I"⟩
abbrev cX3_hasRoom : ByteArray := prog_5_method_45_code
def yX3_hasRoom : MethodName := ⟨RX3, "hasRoom", "(II)Z"⟩
abbrev cX3_zero : ByteArray := prog_5_method_46_code
def yX3_zero : MethodName := ⟨RX3, "zero", "(II)Z"⟩
abbrev cX3_longer_ : ByteArray := prog_5_method_47_code
def yX3_longer_ : MethodName := ⟨RX3, "longer", "(III)Z"⟩
abbrev cX3_early : ByteArray := prog_5_method_48_code
def yX3_early : MethodName := ⟨RX3, "early", "(ICI)Z"⟩
abbrev cX3_built : ByteArray := prog_5_method_49_code
def yX3_built : MethodName := ⟨RX3, "built", "(III)I"⟩
abbrev cX3_isHashed : ByteArray := prog_5_method_50_code
def yX3_isHashed : MethodName := ⟨RX3, "isHashed", "(I)Z"⟩
abbrev cX3_wordShare : ByteArray := prog_5_method_51_code
def yX3_wordShare : MethodName := ⟨RX3, "wordShare", "()F"⟩
abbrev cX3_checksum : ByteArray := prog_5_method_52_code
def yX3_checksum : MethodName := ⟨RX3, "checksum", "()J"⟩
abbrev cX3_isTrue : ByteArray := prog_5_method_53_code
def yX3_isTrue : MethodName := ⟨RX3, "isTrue", "()Z"⟩
def RJ9 : String := "java/lang/Math"
def TJ9 : u_T := fun k => match k with
  | _ => ("", "", "", false)
def tyJ9 : Nat → FieldType := fun k => match k with
  | _ => .int
abbrev wsJ90 : List Cond := u_ws RJ9 TJ9 0
theorem nmJ9 : ∀ a, a < 0 → ∀ b, b < 0 → a ≠ b → (TJ9 a).2.1 ≠ (TJ9 b).2.1 := by decide +kernel
theorem tyJ9_ok : ∀ k, k < 0 → parseFieldDescriptor (TJ9 k).2.2.1 = some (tyJ9 k) := by decide +kernel
abbrev cJ9_max_7cf53 : ByteArray := prog_10_method_65_code
def yJ9_max_7cf53 : MethodName := ⟨RJ9, "max", "(II)I"⟩
def RJ0 : String := "java/lang/String"
def TJ0 : u_T := fun k => match k with
  | _ => ("", "", "", false)
def tyJ0 : Nat → FieldType := fun k => match k with
  | _ => .int
abbrev wsJ00 : List Cond := u_ws RJ0 TJ0 0
theorem nmJ0 : ∀ a, a < 0 → ∀ b, b < 0 → a ≠ b → (TJ0 a).2.1 ≠ (TJ0 b).2.1 := by decide +kernel
theorem tyJ0_ok : ∀ k, k < 0 → parseFieldDescriptor (TJ0 k).2.2.1 = some (tyJ0 k) := by decide +kernel
def RL : String := "ReleaseledgerLaw"
abbrev cL_begin : ByteArray := method_3_code
def yL_begin : MethodName := ⟨RL, "begin", "(LReleaseledger;II[J)I"⟩
abbrev cL_add : ByteArray := method_4_code
def yL_add : MethodName := ⟨RL, "add", "(LReleaseledger;IIC[J)I"⟩
abbrev cL_word : ByteArray := method_5_code
def yL_word : MethodName := ⟨RL, "word", "(LReleaseledger;IIC[J)I"⟩
abbrev cL_sign : ByteArray := method_6_code
def yL_sign : MethodName := ⟨RL, "sign", "(LReleaseledger;I[J)I"⟩
abbrev cL_parse : ByteArray := method_7_code
def yL_parse : MethodName := ⟨RL, "parse", "(LReleaseledger;I[J)I"⟩
abbrev cL_triple : ByteArray := method_8_code
def yL_triple : MethodName := ⟨RL, "triple", "(LReleaseledger;IIII[J)I"⟩
abbrev cL_copy : ByteArray := method_9_code
def yL_copy : MethodName := ⟨RL, "copy", "(LReleaseledger;II[J)I"⟩
abbrev cL_size : ByteArray := method_10_code
def yL_size : MethodName := ⟨RL, "size", "(LReleaseledger;I[J)I"⟩
abbrev cL_text : ByteArray := method_11_code
def yL_text : MethodName := ⟨RL, "text", "(LReleaseledger;II[J)I"⟩
abbrev cL_tokens : ByteArray := method_12_code
def yL_tokens : MethodName := ⟨RL, "tokens", "(LReleaseledger;II[J)I"⟩
abbrev cL_token : ByteArray := method_13_code
def yL_token : MethodName := ⟨RL, "token", "(LReleaseledger;III[J)I"⟩
abbrev cL_compare : ByteArray := method_14_code
def yL_compare : MethodName := ⟨RL, "compare", "(LReleaseledger;II[J)I"⟩
abbrev cL_isSame : ByteArray := method_15_code
def yL_isSame : MethodName := ⟨RL, "isSame", "(LReleaseledger;II[J)I"⟩
abbrev cL_apart : ByteArray := method_16_code
def yL_apart : MethodName := ⟨RL, "apart", "(LReleaseledger;II[J)I"⟩
abbrev cL_rank : ByteArray := method_17_code
def yL_rank : MethodName := ⟨RL, "rank", "(LReleaseledger;I[J)I"⟩
abbrev cL_at : ByteArray := method_18_code
def yL_at : MethodName := ⟨RL, "at", "(LReleaseledger;I[J)I"⟩
abbrev cL_between : ByteArray := method_19_code
def yL_between : MethodName := ⟨RL, "between", "(LReleaseledger;II[J)I"⟩
abbrev cL_zero : ByteArray := method_20_code
def yL_zero : MethodName := ⟨RL, "zero", "(LReleaseledger;II[J)I"⟩
abbrev cL_longer : ByteArray := method_21_code
def yL_longer : MethodName := ⟨RL, "longer", "(LReleaseledger;III[J)I"⟩
abbrev cL_early : ByteArray := method_22_code
def yL_early : MethodName := ⟨RL, "early", "(LReleaseledger;ICI[J)I"⟩
abbrev cL_built : ByteArray := method_23_code
def yL_built : MethodName := ⟨RL, "built", "(LReleaseledger;III[J)I"⟩
abbrev cL_isHashed : ByteArray := method_24_code
def yL_isHashed : MethodName := ⟨RL, "isHashed", "(LReleaseledger;I[J)I"⟩
abbrev cL_law : ByteArray := code
def yL_law : MethodName := ⟨RL, "law", "([I)Z"⟩
def wsX0_init : List Cond := .code yX0_init cX0_init 1 none :: ([.methodLink RX0 3 objectInit, .instanceMethod objectInit, .code objectInit ⟨#[0xb1]⟩ 1 none, .arrayClass .char, .fieldLink RX0 9 "Releaseledger$Text" "signs" "[C", .fieldLink RX0 15 "Releaseledger$Text" "count" "I"] ++ wsX00)
def wsX0_length : List Cond := .code yX0_length cX0_length 1 (some .int) :: ([.fieldLink RX0 15 "Releaseledger$Text" "count" "I"] ++ wsX00)
def wsX0_signAt : List Cond := .code yX0_signAt cX0_signAt 2 (some .char) :: ([.fieldLink RX0 15 "Releaseledger$Text" "count" "I", .fieldLink RX0 9 "Releaseledger$Text" "signs" "[C"] ++ wsX00)
def wsX0_clear : List Cond := .code yX0_clear cX0_clear 1 none :: ([.fieldLink RX0 15 "Releaseledger$Text" "count" "I"] ++ wsX00)
def wsX0_put : List Cond := .code yX0_put cX0_put 2 none :: ([.fieldLink RX0 15 "Releaseledger$Text" "count" "I", .fieldLink RX0 9 "Releaseledger$Text" "signs" "[C"] ++ wsX00)
def wsX0_putAll : List Cond := .code yX0_putAll cX0_putAll 3 none :: ([.methodLink RX0 19 yX0_length, .instanceMethod yX0_length, .selects RX0 yX0_length yX0_length, .initialized RX0, .code yX0_length cX0_length 1 (some .int), .fieldLink RX0 15 "Releaseledger$Text" "count" "I", .methodLink RX0 23 yX0_signAt, .instanceMethod yX0_signAt, .selects RX0 yX0_signAt yX0_signAt, .code yX0_signAt cX0_signAt 2 (some .char), .fieldLink RX0 9 "Releaseledger$Text" "signs" "[C", .methodLink RX0 27 yX0_put, .instanceMethod yX0_put, .selects RX0 yX0_put yX0_put, .code yX0_put cX0_put 2 none] ++ wsX00)
def wsX0_putNumber : List Cond := .code yX0_putNumber cX0_putNumber 4 none :: ([.constant RX0 31 (100000000), .methodLink RX0 27 yX0_put, .instanceMethod yX0_put, .selects RX0 yX0_put yX0_put, .initialized RX0, .code yX0_put cX0_put 2 none, .fieldLink RX0 15 "Releaseledger$Text" "count" "I", .fieldLink RX0 9 "Releaseledger$Text" "signs" "[C"] ++ wsX00)
def wsX2_letterOf : List Cond := .code yX2_letterOf cX2_letterOf 1 (some .char) :: ([])
def wsX0_putWord : List Cond := .code yX0_putWord cX0_putWord 5 none :: ([.constant RX0 32 (2147483647), .static yX2_letterOf, .initialized RX2, .code yX2_letterOf cX2_letterOf 1 (some .char), .methodLink RX0 27 yX0_put, .instanceMethod yX0_put, .selects RX0 yX0_put yX0_put, .initialized RX0, .code yX0_put cX0_put 2 none, .fieldLink RX0 15 "Releaseledger$Text" "count" "I", .fieldLink RX0 9 "Releaseledger$Text" "signs" "[C"] ++ wsX00)
def wsX2_kindOf : List Cond := .code yX2_kindOf cX2_kindOf 1 (some .int) :: ([])
def wsX0_lastKind : List Cond := .code yX0_lastKind cX0_lastKind 1 (some .int) :: ([.fieldLink RX0 15 "Releaseledger$Text" "count" "I", .methodLink RX0 23 yX0_signAt, .instanceMethod yX0_signAt, .selects RX0 yX0_signAt yX0_signAt, .initialized RX0, .code yX0_signAt cX0_signAt 2 (some .char), .fieldLink RX0 9 "Releaseledger$Text" "signs" "[C", .static yX2_kindOf, .initialized RX2, .code yX2_kindOf cX2_kindOf 1 (some .int)] ++ wsX00)
def wsX0_has : List Cond := .code yX0_has cX0_has 3 (some .boolean) :: ([.fieldLink RX0 15 "Releaseledger$Text" "count" "I", .methodLink RX0 23 yX0_signAt, .instanceMethod yX0_signAt, .selects RX0 yX0_signAt yX0_signAt, .initialized RX0, .code yX0_signAt cX0_signAt 2 (some .char), .fieldLink RX0 9 "Releaseledger$Text" "signs" "[C"] ++ wsX00)
def wsX0_isLike : List Cond := .code yX0_isLike cX0_isLike 3 (some .boolean) :: ([.fieldLink RX0 15 "Releaseledger$Text" "count" "I", .methodLink RX0 19 yX0_length, .instanceMethod yX0_length, .selects RX0 yX0_length yX0_length, .initialized RX0, .code yX0_length cX0_length 1 (some .int), .methodLink RX0 23 yX0_signAt, .instanceMethod yX0_signAt, .selects RX0 yX0_signAt yX0_signAt, .code yX0_signAt cX0_signAt 2 (some .char), .fieldLink RX0 9 "Releaseledger$Text" "signs" "[C"] ++ wsX00)
def wsX0_hash : List Cond := .code yX0_hash cX0_hash 3 (some .int) :: ([.fieldLink RX0 15 "Releaseledger$Text" "count" "I", .methodLink RX0 23 yX0_signAt, .instanceMethod yX0_signAt, .selects RX0 yX0_signAt yX0_signAt, .initialized RX0, .code yX0_signAt cX0_signAt 2 (some .char), .fieldLink RX0 9 "Releaseledger$Text" "signs" "[C"] ++ wsX00)
def wsX0_addTo : List Cond := .code yX0_addTo cX0_addTo 6 (some .long) :: ([.constantLong RX0 40 (31), .fieldLink RX0 15 "Releaseledger$Text" "count" "I", .methodLink RX0 23 yX0_signAt, .instanceMethod yX0_signAt, .selects RX0 yX0_signAt yX0_signAt, .initialized RX0, .code yX0_signAt cX0_signAt 2 (some .char), .fieldLink RX0 9 "Releaseledger$Text" "signs" "[C"] ++ wsX00)
def wsX1_rowBehind : List Cond := .code yX1_rowBehind cX1_rowBehind 2 (some .int) :: ([])
def wsX1_tokensIn : List Cond := .code yX1_tokensIn cX1_tokensIn 2 (some .int) :: ([.fieldLink RX1 26 "Releaseledger$Version" "counts" "[I"] ++ wsX10)
def wsX1_openToken : List Cond := .code yX1_openToken cX1_openToken 5 none :: ([.fieldLink RX1 20 "Releaseledger$Version" "starts" "[[I", .fieldLink RX1 23 "Releaseledger$Version" "sizes" "[[I", .fieldLink RX1 26 "Releaseledger$Version" "counts" "[I", .methodLink RX1 68 yX1_tokensIn, .instanceMethod yX1_tokensIn, .selects RX1 yX1_tokensIn yX1_tokensIn, .initialized RX1, .code yX1_tokensIn cX1_tokensIn 2 (some .int)] ++ wsX10)
def wsX1_hasToken : List Cond := .code yX1_hasToken cX1_hasToken 3 (some .boolean) :: ([.fieldLink RX1 26 "Releaseledger$Version" "counts" "[I"] ++ wsX10)
def wsX1_growToken : List Cond := .code yX1_growToken cX1_growToken 6 none :: ([.fieldLink RX1 23 "Releaseledger$Version" "sizes" "[[I", .methodLink RX1 68 yX1_tokensIn, .instanceMethod yX1_tokensIn, .selects RX1 yX1_tokensIn yX1_tokensIn, .initialized RX1, .code yX1_tokensIn cX1_tokensIn 2 (some .int), .fieldLink RX1 26 "Releaseledger$Version" "counts" "[I", .methodLink RX1 72 yX1_hasToken, .instanceMethod yX1_hasToken, .selects RX1 yX1_hasToken yX1_hasToken, .code yX1_hasToken cX1_hasToken 3 (some .boolean)] ++ wsX10)
def wsX1_readTokens_r1 : List Cond := [Cond.fieldLink RX1 26 "Releaseledger$Version" "counts" "[I", Cond.fieldLink RX1 12 "Releaseledger$Version" "told" "LReleaseledger$Text;", Cond.methodLink RX1 44 yX0_length, Cond.instanceMethod yX0_length, Cond.selects RX0 yX0_length yX0_length, Cond.initialized RX0, Cond.code yX0_length cX0_length 1 (some .int), Cond.fieldLink RX0 15 "Releaseledger$Text" "count" "I", Cond.methodLink RX1 48 yX0_signAt, Cond.instanceMethod yX0_signAt, Cond.selects RX0 yX0_signAt yX0_signAt, Cond.code yX0_signAt cX0_signAt 2 (some .char), Cond.fieldLink RX0 9 "Releaseledger$Text" "signs" "[C", Cond.static yX2_kindOf, Cond.initialized RX2, Cond.code yX2_kindOf cX2_kindOf 1 (some .int), Cond.methodLink RX1 56 yX1_rowBehind, Cond.static yX1_rowBehind, Cond.initialized RX1, Cond.code yX1_rowBehind cX1_rowBehind 2 (some .int), Cond.methodLink RX1 60 yX1_openToken, Cond.instanceMethod yX1_openToken, Cond.selects RX1 yX1_openToken yX1_openToken, Cond.code yX1_openToken cX1_openToken 5 none]
def wsX1_readTokens_r2 : List Cond := [Cond.fieldLink RX1 20 "Releaseledger$Version" "starts" "[[I", Cond.fieldLink RX1 23 "Releaseledger$Version" "sizes" "[[I", Cond.methodLink RX1 68 yX1_tokensIn, Cond.instanceMethod yX1_tokensIn, Cond.selects RX1 yX1_tokensIn yX1_tokensIn, Cond.code yX1_tokensIn cX1_tokensIn 2 (some .int), Cond.methodLink RX1 64 yX1_growToken, Cond.instanceMethod yX1_growToken, Cond.selects RX1 yX1_growToken yX1_growToken, Cond.code yX1_growToken cX1_growToken 6 none, Cond.methodLink RX1 72 yX1_hasToken, Cond.instanceMethod yX1_hasToken, Cond.selects RX1 yX1_hasToken yX1_hasToken, Cond.code yX1_hasToken cX1_hasToken 3 (some .boolean)]
def wsX1_readTokens : List Cond := .code yX1_readTokens cX1_readTokens 6 none :: ((wsX1_readTokens_r1 ++ wsX1_readTokens_r2) ++ wsX10 ++ wsX00)
def wsX1_init_r1 : List Cond := [Cond.methodLink RX1 3 objectInit, Cond.instanceMethod objectInit, Cond.code objectInit ⟨#[0xb1]⟩ 1 none, Cond.classLink RX1 9 RX0, Cond.instantiable RX0 2, Cond.initialized RX0, Cond.fieldLink RX1 12 "Releaseledger$Version" "told" "LReleaseledger$Text;", Cond.classLink RX1 18 "[[I", Cond.arrayClass .int, Cond.fieldLink RX1 20 "Releaseledger$Version" "starts" "[[I", Cond.fieldLink RX1 23 "Releaseledger$Version" "sizes" "[[I", Cond.fieldLink RX1 26 "Releaseledger$Version" "counts" "[I", Cond.instanceMethod yX0_init, Cond.code yX0_init cX0_init 1 none, Cond.methodLink RX0 3 objectInit, Cond.arrayClass .char, Cond.fieldLink RX0 9 "Releaseledger$Text" "signs" "[C", Cond.fieldLink RX0 15 "Releaseledger$Text" "count" "I", Cond.methodLink RX1 30 yX0_put, Cond.instanceMethod yX0_put, Cond.selects RX0 yX0_put yX0_put, Cond.code yX0_put cX0_put 2 none, Cond.methodLink RX1 34 yX1_readTokens, Cond.instanceMethod yX1_readTokens]
def wsX1_init_r2 : List Cond := [Cond.selects RX1 yX1_readTokens yX1_readTokens, Cond.initialized RX1, Cond.code yX1_readTokens cX1_readTokens 6 none, Cond.methodLink RX1 44 yX0_length, Cond.instanceMethod yX0_length, Cond.selects RX0 yX0_length yX0_length, Cond.code yX0_length cX0_length 1 (some .int), Cond.methodLink RX1 48 yX0_signAt, Cond.instanceMethod yX0_signAt, Cond.selects RX0 yX0_signAt yX0_signAt, Cond.code yX0_signAt cX0_signAt 2 (some .char), Cond.static yX2_kindOf, Cond.initialized RX2, Cond.code yX2_kindOf cX2_kindOf 1 (some .int), Cond.methodLink RX1 56 yX1_rowBehind, Cond.static yX1_rowBehind, Cond.code yX1_rowBehind cX1_rowBehind 2 (some .int), Cond.methodLink RX1 60 yX1_openToken, Cond.instanceMethod yX1_openToken, Cond.selects RX1 yX1_openToken yX1_openToken, Cond.code yX1_openToken cX1_openToken 5 none, Cond.methodLink RX1 68 yX1_tokensIn, Cond.instanceMethod yX1_tokensIn, Cond.selects RX1 yX1_tokensIn yX1_tokensIn]
def wsX1_init_r3 : List Cond := [Cond.code yX1_tokensIn cX1_tokensIn 2 (some .int), Cond.methodLink RX1 64 yX1_growToken, Cond.instanceMethod yX1_growToken, Cond.selects RX1 yX1_growToken yX1_growToken, Cond.code yX1_growToken cX1_growToken 6 none, Cond.methodLink RX1 72 yX1_hasToken, Cond.instanceMethod yX1_hasToken, Cond.selects RX1 yX1_hasToken yX1_hasToken, Cond.code yX1_hasToken cX1_hasToken 3 (some .boolean)]
def wsX1_init : List Cond := .code yX1_init cX1_init 1 none :: ((wsX1_init_r1 ++ (wsX1_init_r2 ++ wsX1_init_r3)) ++ wsX00 ++ wsX10)
def wsX1_tell : List Cond := .code yX1_tell cX1_tell 2 none :: ([.fieldLink RX1 12 "Releaseledger$Version" "told" "LReleaseledger$Text;", .methodLink RX1 37 yX0_clear, .instanceMethod yX0_clear, .selects RX0 yX0_clear yX0_clear, .initialized RX0, .code yX0_clear cX0_clear 1 none, .fieldLink RX0 15 "Releaseledger$Text" "count" "I", .methodLink RX1 40 yX0_putAll, .instanceMethod yX0_putAll, .selects RX0 yX0_putAll yX0_putAll, .code yX0_putAll cX0_putAll 3 none, .methodLink RX0 19 yX0_length, .instanceMethod yX0_length, .selects RX0 yX0_length yX0_length, .code yX0_length cX0_length 1 (some .int), .methodLink RX0 23 yX0_signAt, .instanceMethod yX0_signAt, .selects RX0 yX0_signAt yX0_signAt, .code yX0_signAt cX0_signAt 2 (some .char), .fieldLink RX0 9 "Releaseledger$Text" "signs" "[C", .methodLink RX0 27 yX0_put, .instanceMethod yX0_put, .selects RX0 yX0_put yX0_put, .code yX0_put cX0_put 2 none] ++ wsX10 ++ wsX00)
def wsX1_hasRow : List Cond := .code yX1_hasRow cX1_hasRow 2 (some .boolean) :: ([.methodLink RX1 68 yX1_tokensIn, .instanceMethod yX1_tokensIn, .selects RX1 yX1_tokensIn yX1_tokensIn, .initialized RX1, .code yX1_tokensIn cX1_tokensIn 2 (some .int), .fieldLink RX1 26 "Releaseledger$Version" "counts" "[I"] ++ wsX10)
def wsX1_allTokens : List Cond := .code yX1_allTokens cX1_allTokens 3 (some .int) :: ([.fieldLink RX1 26 "Releaseledger$Version" "counts" "[I"] ++ wsX10)
def wsX1_words : List Cond := .code yX1_words cX1_words 4 (some .int) :: ([.fieldLink RX1 26 "Releaseledger$Version" "counts" "[I", .fieldLink RX1 23 "Releaseledger$Version" "sizes" "[[I"] ++ wsX10)
def wsX1_sizeAt : List Cond := .code yX1_sizeAt cX1_sizeAt 3 (some .int) :: ([.fieldLink RX1 23 "Releaseledger$Version" "sizes" "[[I", .methodLink RX1 72 yX1_hasToken, .instanceMethod yX1_hasToken, .selects RX1 yX1_hasToken yX1_hasToken, .initialized RX1, .code yX1_hasToken cX1_hasToken 3 (some .boolean), .fieldLink RX1 26 "Releaseledger$Version" "counts" "[I"] ++ wsX10)
def wsX1_startAt : List Cond := .code yX1_startAt cX1_startAt 3 (some .int) :: ([.fieldLink RX1 20 "Releaseledger$Version" "starts" "[[I", .methodLink RX1 72 yX1_hasToken, .instanceMethod yX1_hasToken, .selects RX1 yX1_hasToken yX1_hasToken, .initialized RX1, .code yX1_hasToken cX1_hasToken 3 (some .boolean), .fieldLink RX1 26 "Releaseledger$Version" "counts" "[I"] ++ wsX10)
def wsX2_orderOfNumbers : List Cond := .code yX2_orderOfNumbers cX2_orderOfNumbers 2 (some .int) :: ([])
def wsX1_orderOfWords_r1 : List Cond := [Cond.fieldLink RX1 12 "Releaseledger$Version" "told" "LReleaseledger$Text;", Cond.methodLink RX1 90 yX1_sizeAt, Cond.instanceMethod yX1_sizeAt, Cond.selects RX1 yX1_sizeAt yX1_sizeAt, Cond.initialized RX1, Cond.code yX1_sizeAt cX1_sizeAt 3 (some .int), Cond.fieldLink RX1 23 "Releaseledger$Version" "sizes" "[[I", Cond.methodLink RX1 72 yX1_hasToken, Cond.instanceMethod yX1_hasToken, Cond.selects RX1 yX1_hasToken yX1_hasToken, Cond.code yX1_hasToken cX1_hasToken 3 (some .boolean), Cond.fieldLink RX1 26 "Releaseledger$Version" "counts" "[I", Cond.methodLink RX1 103 yX1_startAt, Cond.instanceMethod yX1_startAt, Cond.selects RX1 yX1_startAt yX1_startAt, Cond.code yX1_startAt cX1_startAt 3 (some .int), Cond.fieldLink RX1 20 "Releaseledger$Version" "starts" "[[I", Cond.methodLink RX1 48 yX0_signAt, Cond.instanceMethod yX0_signAt, Cond.selects RX0 yX0_signAt yX0_signAt, Cond.initialized RX0, Cond.code yX0_signAt cX0_signAt 2 (some .char), Cond.fieldLink RX0 15 "Releaseledger$Text" "count" "I", Cond.fieldLink RX0 9 "Releaseledger$Text" "signs" "[C"]
def wsX1_orderOfWords_r2 : List Cond := [Cond.static yX2_orderOfNumbers, Cond.initialized RX2, Cond.code yX2_orderOfNumbers cX2_orderOfNumbers 2 (some .int)]
def wsX1_orderOfWords : List Cond := .code yX1_orderOfWords cX1_orderOfWords 10 (some .int) :: ((wsX1_orderOfWords_r1 ++ wsX1_orderOfWords_r2) ++ wsX10 ++ wsX00)
def wsX1_orderOfSizes : List Cond := .code yX1_orderOfSizes cX1_orderOfSizes 2 (some .int) :: ([.static yX2_orderOfNumbers, .initialized RX2, .code yX2_orderOfNumbers cX2_orderOfNumbers 2 (some .int)])
def wsX1_orderOfRow_r1 : List Cond := [Cond.methodLink RX1 84 Lib.Math.max.name, Cond.static Lib.Math.max.name, Cond.initialized "java/lang/Math", Cond.code Lib.Math.max.name Lib.Math.max.code 2 (some .int), Cond.methodLink RX1 80 yX1_hasRow, Cond.instanceMethod yX1_hasRow, Cond.selects RX1 yX1_hasRow yX1_hasRow, Cond.initialized RX1, Cond.code yX1_hasRow cX1_hasRow 2 (some .boolean), Cond.methodLink RX1 68 yX1_tokensIn, Cond.instanceMethod yX1_tokensIn, Cond.selects RX1 yX1_tokensIn yX1_tokensIn, Cond.code yX1_tokensIn cX1_tokensIn 2 (some .int), Cond.fieldLink RX1 26 "Releaseledger$Version" "counts" "[I", Cond.methodLink RX1 90 yX1_sizeAt, Cond.instanceMethod yX1_sizeAt, Cond.selects RX1 yX1_sizeAt yX1_sizeAt, Cond.code yX1_sizeAt cX1_sizeAt 3 (some .int), Cond.fieldLink RX1 23 "Releaseledger$Version" "sizes" "[[I", Cond.methodLink RX1 72 yX1_hasToken, Cond.instanceMethod yX1_hasToken, Cond.selects RX1 yX1_hasToken yX1_hasToken, Cond.code yX1_hasToken cX1_hasToken 3 (some .boolean), Cond.methodLink RX1 93 yX1_orderOfWords]
def wsX1_orderOfRow_r2 : List Cond := [Cond.instanceMethod yX1_orderOfWords, Cond.selects RX1 yX1_orderOfWords yX1_orderOfWords, Cond.code yX1_orderOfWords cX1_orderOfWords 10 (some .int), Cond.fieldLink RX1 12 "Releaseledger$Version" "told" "LReleaseledger$Text;", Cond.methodLink RX1 103 yX1_startAt, Cond.instanceMethod yX1_startAt, Cond.selects RX1 yX1_startAt yX1_startAt, Cond.code yX1_startAt cX1_startAt 3 (some .int), Cond.fieldLink RX1 20 "Releaseledger$Version" "starts" "[[I", Cond.methodLink RX1 48 yX0_signAt, Cond.instanceMethod yX0_signAt, Cond.selects RX0 yX0_signAt yX0_signAt, Cond.initialized RX0, Cond.code yX0_signAt cX0_signAt 2 (some .char), Cond.fieldLink RX0 15 "Releaseledger$Text" "count" "I", Cond.fieldLink RX0 9 "Releaseledger$Text" "signs" "[C", Cond.static yX2_orderOfNumbers, Cond.initialized RX2, Cond.code yX2_orderOfNumbers cX2_orderOfNumbers 2 (some .int), Cond.methodLink RX1 97 yX1_orderOfSizes, Cond.static yX1_orderOfSizes, Cond.code yX1_orderOfSizes cX1_orderOfSizes 2 (some .int)]
def wsX1_orderOfRow : List Cond := .code yX1_orderOfRow cX1_orderOfRow 8 (some .int) :: ((wsX1_orderOfRow_r1 ++ wsX1_orderOfRow_r2) ++ wsX10 ++ wsX00)
def wsX1_orderTo_r1 : List Cond := [Cond.methodLink RX1 76 yX1_orderOfRow, Cond.instanceMethod yX1_orderOfRow, Cond.selects RX1 yX1_orderOfRow yX1_orderOfRow, Cond.initialized RX1, Cond.code yX1_orderOfRow cX1_orderOfRow 8 (some .int), Cond.methodLink RX1 84 Lib.Math.max.name, Cond.static Lib.Math.max.name, Cond.initialized "java/lang/Math", Cond.code Lib.Math.max.name Lib.Math.max.code 2 (some .int), Cond.methodLink RX1 80 yX1_hasRow, Cond.instanceMethod yX1_hasRow, Cond.selects RX1 yX1_hasRow yX1_hasRow, Cond.code yX1_hasRow cX1_hasRow 2 (some .boolean), Cond.methodLink RX1 68 yX1_tokensIn, Cond.instanceMethod yX1_tokensIn, Cond.selects RX1 yX1_tokensIn yX1_tokensIn, Cond.code yX1_tokensIn cX1_tokensIn 2 (some .int), Cond.fieldLink RX1 26 "Releaseledger$Version" "counts" "[I", Cond.methodLink RX1 90 yX1_sizeAt, Cond.instanceMethod yX1_sizeAt, Cond.selects RX1 yX1_sizeAt yX1_sizeAt, Cond.code yX1_sizeAt cX1_sizeAt 3 (some .int), Cond.fieldLink RX1 23 "Releaseledger$Version" "sizes" "[[I", Cond.methodLink RX1 72 yX1_hasToken]
def wsX1_orderTo_r2 : List Cond := [Cond.instanceMethod yX1_hasToken, Cond.selects RX1 yX1_hasToken yX1_hasToken, Cond.code yX1_hasToken cX1_hasToken 3 (some .boolean), Cond.methodLink RX1 93 yX1_orderOfWords, Cond.instanceMethod yX1_orderOfWords, Cond.selects RX1 yX1_orderOfWords yX1_orderOfWords, Cond.code yX1_orderOfWords cX1_orderOfWords 10 (some .int), Cond.fieldLink RX1 12 "Releaseledger$Version" "told" "LReleaseledger$Text;", Cond.methodLink RX1 103 yX1_startAt, Cond.instanceMethod yX1_startAt, Cond.selects RX1 yX1_startAt yX1_startAt, Cond.code yX1_startAt cX1_startAt 3 (some .int), Cond.fieldLink RX1 20 "Releaseledger$Version" "starts" "[[I", Cond.methodLink RX1 48 yX0_signAt, Cond.instanceMethod yX0_signAt, Cond.selects RX0 yX0_signAt yX0_signAt, Cond.initialized RX0, Cond.code yX0_signAt cX0_signAt 2 (some .char), Cond.fieldLink RX0 15 "Releaseledger$Text" "count" "I", Cond.fieldLink RX0 9 "Releaseledger$Text" "signs" "[C", Cond.static yX2_orderOfNumbers, Cond.initialized RX2, Cond.code yX2_orderOfNumbers cX2_orderOfNumbers 2 (some .int), Cond.methodLink RX1 97 yX1_orderOfSizes]
def wsX1_orderTo_r3 : List Cond := [Cond.static yX1_orderOfSizes, Cond.code yX1_orderOfSizes cX1_orderOfSizes 2 (some .int)]
def wsX1_orderTo : List Cond := .code yX1_orderTo cX1_orderTo 4 (some .int) :: ((wsX1_orderTo_r1 ++ (wsX1_orderTo_r2 ++ wsX1_orderTo_r3)) ++ wsX10 ++ wsX00)
def wsX1_tellingRow_r1 : List Cond := [Cond.methodLink RX1 76 yX1_orderOfRow, Cond.instanceMethod yX1_orderOfRow, Cond.selects RX1 yX1_orderOfRow yX1_orderOfRow, Cond.initialized RX1, Cond.code yX1_orderOfRow cX1_orderOfRow 8 (some .int), Cond.methodLink RX1 84 Lib.Math.max.name, Cond.static Lib.Math.max.name, Cond.initialized "java/lang/Math", Cond.code Lib.Math.max.name Lib.Math.max.code 2 (some .int), Cond.methodLink RX1 80 yX1_hasRow, Cond.instanceMethod yX1_hasRow, Cond.selects RX1 yX1_hasRow yX1_hasRow, Cond.code yX1_hasRow cX1_hasRow 2 (some .boolean), Cond.methodLink RX1 68 yX1_tokensIn, Cond.instanceMethod yX1_tokensIn, Cond.selects RX1 yX1_tokensIn yX1_tokensIn, Cond.code yX1_tokensIn cX1_tokensIn 2 (some .int), Cond.fieldLink RX1 26 "Releaseledger$Version" "counts" "[I", Cond.methodLink RX1 90 yX1_sizeAt, Cond.instanceMethod yX1_sizeAt, Cond.selects RX1 yX1_sizeAt yX1_sizeAt, Cond.code yX1_sizeAt cX1_sizeAt 3 (some .int), Cond.fieldLink RX1 23 "Releaseledger$Version" "sizes" "[[I", Cond.methodLink RX1 72 yX1_hasToken]
def wsX1_tellingRow_r2 : List Cond := [Cond.instanceMethod yX1_hasToken, Cond.selects RX1 yX1_hasToken yX1_hasToken, Cond.code yX1_hasToken cX1_hasToken 3 (some .boolean), Cond.methodLink RX1 93 yX1_orderOfWords, Cond.instanceMethod yX1_orderOfWords, Cond.selects RX1 yX1_orderOfWords yX1_orderOfWords, Cond.code yX1_orderOfWords cX1_orderOfWords 10 (some .int), Cond.fieldLink RX1 12 "Releaseledger$Version" "told" "LReleaseledger$Text;", Cond.methodLink RX1 103 yX1_startAt, Cond.instanceMethod yX1_startAt, Cond.selects RX1 yX1_startAt yX1_startAt, Cond.code yX1_startAt cX1_startAt 3 (some .int), Cond.fieldLink RX1 20 "Releaseledger$Version" "starts" "[[I", Cond.methodLink RX1 48 yX0_signAt, Cond.instanceMethod yX0_signAt, Cond.selects RX0 yX0_signAt yX0_signAt, Cond.initialized RX0, Cond.code yX0_signAt cX0_signAt 2 (some .char), Cond.fieldLink RX0 15 "Releaseledger$Text" "count" "I", Cond.fieldLink RX0 9 "Releaseledger$Text" "signs" "[C", Cond.static yX2_orderOfNumbers, Cond.initialized RX2, Cond.code yX2_orderOfNumbers cX2_orderOfNumbers 2 (some .int), Cond.methodLink RX1 97 yX1_orderOfSizes]
def wsX1_tellingRow_r3 : List Cond := [Cond.static yX1_orderOfSizes, Cond.code yX1_orderOfSizes cX1_orderOfSizes 2 (some .int)]
def wsX1_tellingRow : List Cond := .code yX1_tellingRow cX1_tellingRow 3 (some .int) :: ((wsX1_tellingRow_r1 ++ (wsX1_tellingRow_r2 ++ wsX1_tellingRow_r3)) ++ wsX10 ++ wsX00)
def wsX2_init_r1 : List Cond := [Cond.methodLink RX2 1 objectInit, Cond.instanceMethod objectInit, Cond.code objectInit ⟨#[0xb1]⟩ 1 none, Cond.classLink RX2 7 RX0, Cond.instantiable RX0 2, Cond.initialized RX0, Cond.fieldLink RX2 10 "Releaseledger" "draft" "LReleaseledger$Text;", Cond.classLink RX2 16 RX1, Cond.fieldLink RX2 18 "Releaseledger" "slots" "[LReleaseledger$Version;", Cond.fieldLink RX2 22 "Releaseledger" "sorted" "[LReleaseledger$Version;", Cond.arrayClass .int, Cond.fieldLink RX2 25 "Releaseledger" "slotsInOrder" "[I", Cond.fieldLink RX2 29 "Releaseledger" "orders" "[I", Cond.instantiable RX1 4, Cond.initialized RX1, Cond.fieldLink RX2 33 "Releaseledger" "spare" "LReleaseledger$Version;", Cond.instanceMethod yX0_init, Cond.code yX0_init cX0_init 1 none, Cond.methodLink RX0 3 objectInit, Cond.arrayClass .char, Cond.fieldLink RX0 9 "Releaseledger$Text" "signs" "[C", Cond.fieldLink RX0 15 "Releaseledger$Text" "count" "I", Cond.methodLink RX2 32 yX1_init, Cond.instanceMethod yX1_init]
def wsX2_init_r2 : List Cond := [Cond.code yX1_init cX1_init 1 none, Cond.methodLink RX1 3 objectInit, Cond.classLink RX1 9 RX0, Cond.fieldLink RX1 12 "Releaseledger$Version" "told" "LReleaseledger$Text;", Cond.classLink RX1 18 "[[I", Cond.fieldLink RX1 20 "Releaseledger$Version" "starts" "[[I", Cond.fieldLink RX1 23 "Releaseledger$Version" "sizes" "[[I", Cond.fieldLink RX1 26 "Releaseledger$Version" "counts" "[I", Cond.methodLink RX1 30 yX0_put, Cond.instanceMethod yX0_put, Cond.selects RX0 yX0_put yX0_put, Cond.code yX0_put cX0_put 2 none, Cond.methodLink RX1 34 yX1_readTokens, Cond.instanceMethod yX1_readTokens, Cond.selects RX1 yX1_readTokens yX1_readTokens, Cond.code yX1_readTokens cX1_readTokens 6 none, Cond.methodLink RX1 44 yX0_length, Cond.instanceMethod yX0_length, Cond.selects RX0 yX0_length yX0_length, Cond.code yX0_length cX0_length 1 (some .int), Cond.methodLink RX1 48 yX0_signAt, Cond.instanceMethod yX0_signAt, Cond.selects RX0 yX0_signAt yX0_signAt, Cond.code yX0_signAt cX0_signAt 2 (some .char)]
def wsX2_init_r3 : List Cond := [Cond.static yX2_kindOf, Cond.initialized RX2, Cond.code yX2_kindOf cX2_kindOf 1 (some .int), Cond.methodLink RX1 56 yX1_rowBehind, Cond.static yX1_rowBehind, Cond.code yX1_rowBehind cX1_rowBehind 2 (some .int), Cond.methodLink RX1 60 yX1_openToken, Cond.instanceMethod yX1_openToken, Cond.selects RX1 yX1_openToken yX1_openToken, Cond.code yX1_openToken cX1_openToken 5 none, Cond.methodLink RX1 68 yX1_tokensIn, Cond.instanceMethod yX1_tokensIn, Cond.selects RX1 yX1_tokensIn yX1_tokensIn, Cond.code yX1_tokensIn cX1_tokensIn 2 (some .int), Cond.methodLink RX1 64 yX1_growToken, Cond.instanceMethod yX1_growToken, Cond.selects RX1 yX1_growToken yX1_growToken, Cond.code yX1_growToken cX1_growToken 6 none, Cond.methodLink RX1 72 yX1_hasToken, Cond.instanceMethod yX1_hasToken, Cond.selects RX1 yX1_hasToken yX1_hasToken, Cond.code yX1_hasToken cX1_hasToken 3 (some .boolean)]
def wsX2_init : List Cond := .code yX2_init cX2_init 2 none :: ((wsX2_init_r1 ++ (wsX2_init_r2 ++ wsX2_init_r3)) ++ wsX00 ++ wsX20 ++ wsX10)
def wsX2_checkNumber : List Cond := .code yX2_checkNumber cX2_checkNumber 3 none :: ([.classLink RX2 73 "java/lang/IllegalArgumentException", .initialized "java/lang/IllegalArgumentException"] ++ (vx_atS RX2 77 "java/lang/IllegalArgumentException" ["java/lang/RuntimeException", "java/lang/Exception"]).filter goodWord)
def wsX2_checkZeros : List Cond := .code yX2_checkZeros cX2_checkZeros 1 none :: ([.classLink RX2 73 "java/lang/IllegalArgumentException", .initialized "java/lang/IllegalArgumentException"] ++ (vx_atS RX2 77 "java/lang/IllegalArgumentException" ["java/lang/RuntimeException", "java/lang/Exception"]).filter goodWord)
def wsX2_begin_r1 : List Cond := [Cond.constant RX2 37 (999999), Cond.fieldLink RX2 10 "Releaseledger" "draft" "LReleaseledger$Text;", Cond.methodLink RX2 38 yX2_checkNumber, Cond.static yX2_checkNumber, Cond.initialized RX2, Cond.code yX2_checkNumber cX2_checkNumber 3 none, Cond.classLink RX2 73 "java/lang/IllegalArgumentException", Cond.initialized "java/lang/IllegalArgumentException", Cond.methodLink RX2 42 yX2_checkZeros, Cond.static yX2_checkZeros, Cond.code yX2_checkZeros cX2_checkZeros 1 none, Cond.methodLink RX2 46 yX0_clear, Cond.instanceMethod yX0_clear, Cond.selects RX0 yX0_clear yX0_clear, Cond.initialized RX0, Cond.code yX0_clear cX0_clear 1 none, Cond.fieldLink RX0 15 "Releaseledger$Text" "count" "I", Cond.methodLink RX2 49 yX0_putNumber, Cond.instanceMethod yX0_putNumber, Cond.selects RX0 yX0_putNumber yX0_putNumber, Cond.code yX0_putNumber cX0_putNumber 4 none, Cond.constant RX0 31 (100000000), Cond.methodLink RX0 27 yX0_put, Cond.instanceMethod yX0_put]
def wsX2_begin_r2 : List Cond := [Cond.selects RX0 yX0_put yX0_put, Cond.code yX0_put cX0_put 2 none, Cond.fieldLink RX0 9 "Releaseledger$Text" "signs" "[C", Cond.methodLink RX2 53 yX0_length, Cond.instanceMethod yX0_length, Cond.selects RX0 yX0_length yX0_length, Cond.code yX0_length cX0_length 1 (some .int)]
def wsX2_begin : List Cond := .code yX2_begin cX2_begin 3 (some .int) :: ((wsX2_begin_r1 ++ wsX2_begin_r2) ++ wsX20 ++ wsX00 ++ (vx_atS RX2 77 "java/lang/IllegalArgumentException" ["java/lang/RuntimeException", "java/lang/Exception"]).filter goodWord)
def wsX2_checkWay : List Cond := .code yX2_checkWay cX2_checkWay 1 none :: ([.classLink RX2 73 "java/lang/IllegalArgumentException", .initialized "java/lang/IllegalArgumentException"] ++ (vx_atS RX2 77 "java/lang/IllegalArgumentException" ["java/lang/RuntimeException", "java/lang/Exception"]).filter goodWord)
def wsX2_digitsOf : List Cond := .code yX2_digitsOf cX2_digitsOf 3 (some .int) :: ([])
def wsX2_checkRoom : List Cond := .code yX2_checkRoom cX2_checkRoom 2 none :: ([.classLink RX2 160 "java/lang/IllegalStateException", .initialized "java/lang/IllegalStateException", .methodLink RX2 53 yX0_length, .instanceMethod yX0_length, .selects RX0 yX0_length yX0_length, .initialized RX0, .code yX0_length cX0_length 1 (some .int), .fieldLink RX0 15 "Releaseledger$Text" "count" "I"] ++ wsX00 ++ (vx_atS RX2 164 "java/lang/IllegalStateException" ["java/lang/RuntimeException", "java/lang/Exception"]).filter goodWord)
def wsX2_checkJoin_r1 : List Cond := [Cond.classLink RX2 160 "java/lang/IllegalStateException", Cond.initialized "java/lang/IllegalStateException", Cond.fieldLink RX2 10 "Releaseledger" "draft" "LReleaseledger$Text;", Cond.methodLink RX2 53 yX0_length, Cond.instanceMethod yX0_length, Cond.selects RX0 yX0_length yX0_length, Cond.initialized RX0, Cond.code yX0_length cX0_length 1 (some .int), Cond.fieldLink RX0 15 "Releaseledger$Text" "count" "I", Cond.methodLink RX2 210 yX0_lastKind, Cond.instanceMethod yX0_lastKind, Cond.selects RX0 yX0_lastKind yX0_lastKind, Cond.code yX0_lastKind cX0_lastKind 1 (some .int), Cond.methodLink RX0 23 yX0_signAt, Cond.instanceMethod yX0_signAt, Cond.selects RX0 yX0_signAt yX0_signAt, Cond.code yX0_signAt cX0_signAt 2 (some .char), Cond.fieldLink RX0 9 "Releaseledger$Text" "signs" "[C", Cond.static yX2_kindOf, Cond.initialized RX2, Cond.code yX2_kindOf cX2_kindOf 1 (some .int), Cond.methodLink RX2 215 yX0_has, Cond.instanceMethod yX0_has, Cond.selects RX0 yX0_has yX0_has]
def wsX2_checkJoin_r2 : List Cond := [Cond.code yX0_has cX0_has 3 (some .boolean), Cond.methodLink RX2 147 yX2_checkRoom, Cond.static yX2_checkRoom, Cond.code yX2_checkRoom cX2_checkRoom 2 none]
def wsX2_checkJoin : List Cond := .code yX2_checkJoin cX2_checkJoin 4 none :: ((wsX2_checkJoin_r1 ++ wsX2_checkJoin_r2) ++ wsX20 ++ wsX00 ++ (vx_atS RX2 164 "java/lang/IllegalStateException" ["java/lang/RuntimeException", "java/lang/Exception"]).filter goodWord)
def wsX2_putJoint : List Cond := .code yX2_putJoint cX2_putJoint 2 none :: ([.fieldLink RX2 10 "Releaseledger" "draft" "LReleaseledger$Text;", .methodLink RX2 109 yX0_put, .instanceMethod yX0_put, .selects RX0 yX0_put yX0_put, .initialized RX0, .code yX0_put cX0_put 2 none, .fieldLink RX0 15 "Releaseledger$Text" "count" "I", .fieldLink RX0 9 "Releaseledger$Text" "signs" "[C"] ++ wsX20 ++ wsX00)
def wsX2_add_r1 : List Cond := [Cond.constant RX2 57 (999999999), Cond.fieldLink RX2 10 "Releaseledger" "draft" "LReleaseledger$Text;", Cond.methodLink RX2 38 yX2_checkNumber, Cond.static yX2_checkNumber, Cond.initialized RX2, Cond.code yX2_checkNumber cX2_checkNumber 3 none, Cond.classLink RX2 73 "java/lang/IllegalArgumentException", Cond.initialized "java/lang/IllegalArgumentException", Cond.methodLink RX2 42 yX2_checkZeros, Cond.static yX2_checkZeros, Cond.code yX2_checkZeros cX2_checkZeros 1 none, Cond.methodLink RX2 58 yX2_checkWay, Cond.static yX2_checkWay, Cond.code yX2_checkWay cX2_checkWay 1 none, Cond.methodLink RX2 62 yX2_digitsOf, Cond.static yX2_digitsOf, Cond.code yX2_digitsOf cX2_digitsOf 3 (some .int), Cond.methodLink RX2 66 yX2_checkJoin, Cond.instanceMethod yX2_checkJoin, Cond.selects RX2 yX2_checkJoin yX2_checkJoin, Cond.code yX2_checkJoin cX2_checkJoin 4 none, Cond.classLink RX2 160 "java/lang/IllegalStateException", Cond.initialized "java/lang/IllegalStateException", Cond.methodLink RX2 53 yX0_length]
def wsX2_add_r2 : List Cond := [Cond.instanceMethod yX0_length, Cond.selects RX0 yX0_length yX0_length, Cond.initialized RX0, Cond.code yX0_length cX0_length 1 (some .int), Cond.fieldLink RX0 15 "Releaseledger$Text" "count" "I", Cond.methodLink RX2 210 yX0_lastKind, Cond.instanceMethod yX0_lastKind, Cond.selects RX0 yX0_lastKind yX0_lastKind, Cond.code yX0_lastKind cX0_lastKind 1 (some .int), Cond.methodLink RX0 23 yX0_signAt, Cond.instanceMethod yX0_signAt, Cond.selects RX0 yX0_signAt yX0_signAt, Cond.code yX0_signAt cX0_signAt 2 (some .char), Cond.fieldLink RX0 9 "Releaseledger$Text" "signs" "[C", Cond.static yX2_kindOf, Cond.code yX2_kindOf cX2_kindOf 1 (some .int), Cond.methodLink RX2 215 yX0_has, Cond.instanceMethod yX0_has, Cond.selects RX0 yX0_has yX0_has, Cond.code yX0_has cX0_has 3 (some .boolean), Cond.methodLink RX2 147 yX2_checkRoom, Cond.static yX2_checkRoom, Cond.code yX2_checkRoom cX2_checkRoom 2 none, Cond.methodLink RX2 70 yX2_putJoint]
def wsX2_add_r3 : List Cond := [Cond.instanceMethod yX2_putJoint, Cond.selects RX2 yX2_putJoint yX2_putJoint, Cond.code yX2_putJoint cX2_putJoint 2 none, Cond.methodLink RX2 109 yX0_put, Cond.instanceMethod yX0_put, Cond.selects RX0 yX0_put yX0_put, Cond.code yX0_put cX0_put 2 none, Cond.methodLink RX2 49 yX0_putNumber, Cond.instanceMethod yX0_putNumber, Cond.selects RX0 yX0_putNumber yX0_putNumber, Cond.code yX0_putNumber cX0_putNumber 4 none, Cond.constant RX0 31 (100000000), Cond.methodLink RX0 27 yX0_put]
def wsX2_add : List Cond := .code yX2_add cX2_add 4 (some .int) :: ((wsX2_add_r1 ++ (wsX2_add_r2 ++ wsX2_add_r3)) ++ wsX20 ++ wsX00 ++ (vx_atS RX2 77 "java/lang/IllegalArgumentException" ["java/lang/RuntimeException", "java/lang/Exception"]).filter goodWord ++ (vx_atS RX2 164 "java/lang/IllegalStateException" ["java/lang/RuntimeException", "java/lang/Exception"]).filter goodWord)
def wsX2_word_r1 : List Cond := [Cond.classLink RX2 73 "java/lang/IllegalArgumentException", Cond.initialized "java/lang/IllegalArgumentException", Cond.fieldLink RX2 10 "Releaseledger" "draft" "LReleaseledger$Text;", Cond.methodLink RX2 58 yX2_checkWay, Cond.static yX2_checkWay, Cond.initialized RX2, Cond.code yX2_checkWay cX2_checkWay 1 none, Cond.methodLink RX2 66 yX2_checkJoin, Cond.instanceMethod yX2_checkJoin, Cond.selects RX2 yX2_checkJoin yX2_checkJoin, Cond.code yX2_checkJoin cX2_checkJoin 4 none, Cond.classLink RX2 160 "java/lang/IllegalStateException", Cond.initialized "java/lang/IllegalStateException", Cond.methodLink RX2 53 yX0_length, Cond.instanceMethod yX0_length, Cond.selects RX0 yX0_length yX0_length, Cond.initialized RX0, Cond.code yX0_length cX0_length 1 (some .int), Cond.fieldLink RX0 15 "Releaseledger$Text" "count" "I", Cond.methodLink RX2 210 yX0_lastKind, Cond.instanceMethod yX0_lastKind, Cond.selects RX0 yX0_lastKind yX0_lastKind, Cond.code yX0_lastKind cX0_lastKind 1 (some .int), Cond.methodLink RX0 23 yX0_signAt]
def wsX2_word_r2 : List Cond := [Cond.instanceMethod yX0_signAt, Cond.selects RX0 yX0_signAt yX0_signAt, Cond.code yX0_signAt cX0_signAt 2 (some .char), Cond.fieldLink RX0 9 "Releaseledger$Text" "signs" "[C", Cond.static yX2_kindOf, Cond.code yX2_kindOf cX2_kindOf 1 (some .int), Cond.methodLink RX2 215 yX0_has, Cond.instanceMethod yX0_has, Cond.selects RX0 yX0_has yX0_has, Cond.code yX0_has cX0_has 3 (some .boolean), Cond.methodLink RX2 147 yX2_checkRoom, Cond.static yX2_checkRoom, Cond.code yX2_checkRoom cX2_checkRoom 2 none, Cond.methodLink RX2 70 yX2_putJoint, Cond.instanceMethod yX2_putJoint, Cond.selects RX2 yX2_putJoint yX2_putJoint, Cond.code yX2_putJoint cX2_putJoint 2 none, Cond.methodLink RX2 109 yX0_put, Cond.instanceMethod yX0_put, Cond.selects RX0 yX0_put yX0_put, Cond.code yX0_put cX0_put 2 none, Cond.methodLink RX2 80 yX0_putWord, Cond.instanceMethod yX0_putWord, Cond.selects RX0 yX0_putWord yX0_putWord]
def wsX2_word_r3 : List Cond := [Cond.code yX0_putWord cX0_putWord 5 none, Cond.constant RX0 32 (2147483647), Cond.static yX2_letterOf, Cond.code yX2_letterOf cX2_letterOf 1 (some .char), Cond.methodLink RX0 27 yX0_put]
def wsX2_word : List Cond := .code yX2_word cX2_word 4 (some .int) :: ((wsX2_word_r1 ++ (wsX2_word_r2 ++ wsX2_word_r3)) ++ wsX20 ++ wsX00 ++ (vx_atS RX2 77 "java/lang/IllegalArgumentException" ["java/lang/RuntimeException", "java/lang/Exception"]).filter goodWord ++ (vx_atS RX2 164 "java/lang/IllegalStateException" ["java/lang/RuntimeException", "java/lang/Exception"]).filter goodWord)
def wsX2_drop : List Cond := .code yX2_drop cX2_drop 2 (some .int) :: ([.fieldLink RX2 10 "Releaseledger" "draft" "LReleaseledger$Text;", .methodLink RX2 53 yX0_length, .instanceMethod yX0_length, .selects RX0 yX0_length yX0_length, .initialized RX0, .code yX0_length cX0_length 1 (some .int), .fieldLink RX0 15 "Releaseledger$Text" "count" "I", .methodLink RX2 46 yX0_clear, .instanceMethod yX0_clear, .selects RX0 yX0_clear yX0_clear, .code yX0_clear cX0_clear 1 none] ++ wsX20 ++ wsX00)
def wsX2_checkPlace : List Cond := .code yX2_checkPlace cX2_checkPlace 2 none :: ([.classLink RX2 126 "java/lang/IndexOutOfBoundsException", .initialized "java/lang/IndexOutOfBoundsException", .methodLink RX2 53 yX0_length, .instanceMethod yX0_length, .selects RX0 yX0_length yX0_length, .initialized RX0, .code yX0_length cX0_length 1 (some .int), .fieldLink RX0 15 "Releaseledger$Text" "count" "I"] ++ wsX00 ++ (vx_atS RX2 130 "java/lang/IndexOutOfBoundsException" ["java/lang/RuntimeException", "java/lang/Exception"]).filter goodWord)
def wsX2_sign : List Cond := .code yX2_sign cX2_sign 2 (some .char) :: ([.fieldLink RX2 10 "Releaseledger" "draft" "LReleaseledger$Text;", .methodLink RX2 83 yX2_checkPlace, .static yX2_checkPlace, .initialized RX2, .code yX2_checkPlace cX2_checkPlace 2 none, .classLink RX2 126 "java/lang/IndexOutOfBoundsException", .initialized "java/lang/IndexOutOfBoundsException", .methodLink RX2 53 yX0_length, .instanceMethod yX0_length, .selects RX0 yX0_length yX0_length, .initialized RX0, .code yX0_length cX0_length 1 (some .int), .fieldLink RX0 15 "Releaseledger$Text" "count" "I", .methodLink RX2 87 yX0_signAt, .instanceMethod yX0_signAt, .selects RX0 yX0_signAt yX0_signAt, .code yX0_signAt cX0_signAt 2 (some .char), .fieldLink RX0 9 "Releaseledger$Text" "signs" "[C"] ++ wsX20 ++ wsX00 ++ (vx_atS RX2 130 "java/lang/IndexOutOfBoundsException" ["java/lang/RuntimeException", "java/lang/Exception"]).filter goodWord)
def wsX2_checkSlot : List Cond := .code yX2_checkSlot cX2_checkSlot 1 none :: ([.classLink RX2 126 "java/lang/IndexOutOfBoundsException", .initialized "java/lang/IndexOutOfBoundsException"] ++ (vx_atS RX2 130 "java/lang/IndexOutOfBoundsException" ["java/lang/RuntimeException", "java/lang/Exception"]).filter goodWord)
def wsX2_versionIn : List Cond := .code yX2_versionIn cX2_versionIn 2 (some (.object "Releaseledger$Version")) :: ([.fieldLink RX2 18 "Releaseledger" "slots" "[LReleaseledger$Version;", .methodLink RX2 91 yX2_checkSlot, .static yX2_checkSlot, .initialized RX2, .code yX2_checkSlot cX2_checkSlot 1 none, .classLink RX2 126 "java/lang/IndexOutOfBoundsException", .initialized "java/lang/IndexOutOfBoundsException"] ++ wsX20 ++ (vx_atS RX2 130 "java/lang/IndexOutOfBoundsException" ["java/lang/RuntimeException", "java/lang/Exception"]).filter goodWord)
def wsX2_exchangeSpare_r1 : List Cond := [Cond.fieldLink RX2 33 "Releaseledger" "spare" "LReleaseledger$Version;", Cond.fieldLink RX2 18 "Releaseledger" "slots" "[LReleaseledger$Version;", Cond.methodLink RX2 112 yX2_versionIn, Cond.instanceMethod yX2_versionIn, Cond.selects RX2 yX2_versionIn yX2_versionIn, Cond.initialized RX2, Cond.code yX2_versionIn cX2_versionIn 2 (some (.object "Releaseledger$Version")), Cond.methodLink RX2 91 yX2_checkSlot, Cond.static yX2_checkSlot, Cond.code yX2_checkSlot cX2_checkSlot 1 none, Cond.classLink RX2 126 "java/lang/IndexOutOfBoundsException", Cond.initialized "java/lang/IndexOutOfBoundsException", Cond.methodLink RX2 135 yX1_orderTo, Cond.instanceMethod yX1_orderTo, Cond.selects RX1 yX1_orderTo yX1_orderTo, Cond.initialized RX1, Cond.code yX1_orderTo cX1_orderTo 4 (some .int), Cond.methodLink RX1 76 yX1_orderOfRow, Cond.instanceMethod yX1_orderOfRow, Cond.selects RX1 yX1_orderOfRow yX1_orderOfRow, Cond.code yX1_orderOfRow cX1_orderOfRow 8 (some .int), Cond.methodLink RX1 84 Lib.Math.max.name, Cond.static Lib.Math.max.name, Cond.initialized "java/lang/Math"]
def wsX2_exchangeSpare_r2 : List Cond := [Cond.code Lib.Math.max.name Lib.Math.max.code 2 (some .int), Cond.methodLink RX1 80 yX1_hasRow, Cond.instanceMethod yX1_hasRow, Cond.selects RX1 yX1_hasRow yX1_hasRow, Cond.code yX1_hasRow cX1_hasRow 2 (some .boolean), Cond.methodLink RX1 68 yX1_tokensIn, Cond.instanceMethod yX1_tokensIn, Cond.selects RX1 yX1_tokensIn yX1_tokensIn, Cond.code yX1_tokensIn cX1_tokensIn 2 (some .int), Cond.fieldLink RX1 26 "Releaseledger$Version" "counts" "[I", Cond.methodLink RX1 90 yX1_sizeAt, Cond.instanceMethod yX1_sizeAt, Cond.selects RX1 yX1_sizeAt yX1_sizeAt, Cond.code yX1_sizeAt cX1_sizeAt 3 (some .int), Cond.fieldLink RX1 23 "Releaseledger$Version" "sizes" "[[I", Cond.methodLink RX1 72 yX1_hasToken, Cond.instanceMethod yX1_hasToken, Cond.selects RX1 yX1_hasToken yX1_hasToken, Cond.code yX1_hasToken cX1_hasToken 3 (some .boolean), Cond.methodLink RX1 93 yX1_orderOfWords, Cond.instanceMethod yX1_orderOfWords, Cond.selects RX1 yX1_orderOfWords yX1_orderOfWords, Cond.code yX1_orderOfWords cX1_orderOfWords 10 (some .int), Cond.fieldLink RX1 12 "Releaseledger$Version" "told" "LReleaseledger$Text;"]
def wsX2_exchangeSpare_r3 : List Cond := [Cond.methodLink RX1 103 yX1_startAt, Cond.instanceMethod yX1_startAt, Cond.selects RX1 yX1_startAt yX1_startAt, Cond.code yX1_startAt cX1_startAt 3 (some .int), Cond.fieldLink RX1 20 "Releaseledger$Version" "starts" "[[I", Cond.methodLink RX1 48 yX0_signAt, Cond.instanceMethod yX0_signAt, Cond.selects RX0 yX0_signAt yX0_signAt, Cond.initialized RX0, Cond.code yX0_signAt cX0_signAt 2 (some .char), Cond.fieldLink RX0 15 "Releaseledger$Text" "count" "I", Cond.fieldLink RX0 9 "Releaseledger$Text" "signs" "[C", Cond.static yX2_orderOfNumbers, Cond.code yX2_orderOfNumbers cX2_orderOfNumbers 2 (some .int), Cond.methodLink RX1 97 yX1_orderOfSizes, Cond.static yX1_orderOfSizes, Cond.code yX1_orderOfSizes cX1_orderOfSizes 2 (some .int)]
def wsX2_exchangeSpare : List Cond := .code yX2_exchangeSpare cX2_exchangeSpare 4 (some .int) :: ((wsX2_exchangeSpare_r1 ++ (wsX2_exchangeSpare_r2 ++ wsX2_exchangeSpare_r3)) ++ wsX20 ++ wsX10 ++ wsX00 ++ (vx_atS RX2 130 "java/lang/IndexOutOfBoundsException" ["java/lang/RuntimeException", "java/lang/Exception"]).filter goodWord)
def wsX2_parse_r1 : List Cond := [Cond.classLink RX2 73 "java/lang/IllegalArgumentException", Cond.initialized "java/lang/IllegalArgumentException", Cond.fieldLink RX2 10 "Releaseledger" "draft" "LReleaseledger$Text;", Cond.fieldLink RX2 33 "Releaseledger" "spare" "LReleaseledger$Version;", Cond.methodLink RX2 91 yX2_checkSlot, Cond.static yX2_checkSlot, Cond.initialized RX2, Cond.code yX2_checkSlot cX2_checkSlot 1 none, Cond.classLink RX2 126 "java/lang/IndexOutOfBoundsException", Cond.initialized "java/lang/IndexOutOfBoundsException", Cond.methodLink RX2 53 yX0_length, Cond.instanceMethod yX0_length, Cond.selects RX0 yX0_length yX0_length, Cond.initialized RX0, Cond.code yX0_length cX0_length 1 (some .int), Cond.fieldLink RX0 15 "Releaseledger$Text" "count" "I", Cond.methodLink RX2 96 yX1_tell, Cond.instanceMethod yX1_tell, Cond.selects RX1 yX1_tell yX1_tell, Cond.initialized RX1, Cond.code yX1_tell cX1_tell 2 none, Cond.fieldLink RX1 12 "Releaseledger$Version" "told" "LReleaseledger$Text;", Cond.methodLink RX1 37 yX0_clear, Cond.instanceMethod yX0_clear]
def wsX2_parse_r2 : List Cond := [Cond.selects RX0 yX0_clear yX0_clear, Cond.code yX0_clear cX0_clear 1 none, Cond.methodLink RX1 40 yX0_putAll, Cond.instanceMethod yX0_putAll, Cond.selects RX0 yX0_putAll yX0_putAll, Cond.code yX0_putAll cX0_putAll 3 none, Cond.methodLink RX0 19 yX0_length, Cond.methodLink RX0 23 yX0_signAt, Cond.instanceMethod yX0_signAt, Cond.selects RX0 yX0_signAt yX0_signAt, Cond.code yX0_signAt cX0_signAt 2 (some .char), Cond.fieldLink RX0 9 "Releaseledger$Text" "signs" "[C", Cond.methodLink RX0 27 yX0_put, Cond.instanceMethod yX0_put, Cond.selects RX0 yX0_put yX0_put, Cond.code yX0_put cX0_put 2 none, Cond.methodLink RX2 100 yX1_readTokens, Cond.instanceMethod yX1_readTokens, Cond.selects RX1 yX1_readTokens yX1_readTokens, Cond.code yX1_readTokens cX1_readTokens 6 none, Cond.fieldLink RX1 26 "Releaseledger$Version" "counts" "[I", Cond.methodLink RX1 44 yX0_length, Cond.methodLink RX1 48 yX0_signAt, Cond.static yX2_kindOf]
def wsX2_parse_r3 : List Cond := [Cond.code yX2_kindOf cX2_kindOf 1 (some .int), Cond.methodLink RX1 56 yX1_rowBehind, Cond.static yX1_rowBehind, Cond.code yX1_rowBehind cX1_rowBehind 2 (some .int), Cond.methodLink RX1 60 yX1_openToken, Cond.instanceMethod yX1_openToken, Cond.selects RX1 yX1_openToken yX1_openToken, Cond.code yX1_openToken cX1_openToken 5 none, Cond.fieldLink RX1 20 "Releaseledger$Version" "starts" "[[I", Cond.fieldLink RX1 23 "Releaseledger$Version" "sizes" "[[I", Cond.methodLink RX1 68 yX1_tokensIn, Cond.instanceMethod yX1_tokensIn, Cond.selects RX1 yX1_tokensIn yX1_tokensIn, Cond.code yX1_tokensIn cX1_tokensIn 2 (some .int), Cond.methodLink RX1 64 yX1_growToken, Cond.instanceMethod yX1_growToken, Cond.selects RX1 yX1_growToken yX1_growToken, Cond.code yX1_growToken cX1_growToken 6 none, Cond.methodLink RX1 72 yX1_hasToken, Cond.instanceMethod yX1_hasToken, Cond.selects RX1 yX1_hasToken yX1_hasToken, Cond.code yX1_hasToken cX1_hasToken 3 (some .boolean), Cond.methodLink RX2 103 yX2_exchangeSpare, Cond.instanceMethod yX2_exchangeSpare]
def wsX2_parse_r4 : List Cond := [Cond.selects RX2 yX2_exchangeSpare yX2_exchangeSpare, Cond.code yX2_exchangeSpare cX2_exchangeSpare 4 (some .int), Cond.fieldLink RX2 18 "Releaseledger" "slots" "[LReleaseledger$Version;", Cond.methodLink RX2 112 yX2_versionIn, Cond.instanceMethod yX2_versionIn, Cond.selects RX2 yX2_versionIn yX2_versionIn, Cond.code yX2_versionIn cX2_versionIn 2 (some (.object "Releaseledger$Version")), Cond.methodLink RX2 135 yX1_orderTo, Cond.instanceMethod yX1_orderTo, Cond.selects RX1 yX1_orderTo yX1_orderTo, Cond.code yX1_orderTo cX1_orderTo 4 (some .int), Cond.methodLink RX1 76 yX1_orderOfRow, Cond.instanceMethod yX1_orderOfRow, Cond.selects RX1 yX1_orderOfRow yX1_orderOfRow, Cond.code yX1_orderOfRow cX1_orderOfRow 8 (some .int), Cond.methodLink RX1 84 Lib.Math.max.name, Cond.static Lib.Math.max.name, Cond.initialized "java/lang/Math", Cond.code Lib.Math.max.name Lib.Math.max.code 2 (some .int), Cond.methodLink RX1 80 yX1_hasRow, Cond.instanceMethod yX1_hasRow, Cond.selects RX1 yX1_hasRow yX1_hasRow, Cond.code yX1_hasRow cX1_hasRow 2 (some .boolean), Cond.methodLink RX1 90 yX1_sizeAt]
def wsX2_parse_r5 : List Cond := [Cond.instanceMethod yX1_sizeAt, Cond.selects RX1 yX1_sizeAt yX1_sizeAt, Cond.code yX1_sizeAt cX1_sizeAt 3 (some .int), Cond.methodLink RX1 93 yX1_orderOfWords, Cond.instanceMethod yX1_orderOfWords, Cond.selects RX1 yX1_orderOfWords yX1_orderOfWords, Cond.code yX1_orderOfWords cX1_orderOfWords 10 (some .int), Cond.methodLink RX1 103 yX1_startAt, Cond.instanceMethod yX1_startAt, Cond.selects RX1 yX1_startAt yX1_startAt, Cond.code yX1_startAt cX1_startAt 3 (some .int), Cond.static yX2_orderOfNumbers, Cond.code yX2_orderOfNumbers cX2_orderOfNumbers 2 (some .int), Cond.methodLink RX1 97 yX1_orderOfSizes, Cond.static yX1_orderOfSizes, Cond.code yX1_orderOfSizes cX1_orderOfSizes 2 (some .int)]
def wsX2_parse : List Cond := .code yX2_parse cX2_parse 2 (some .int) :: ((wsX2_parse_r1 ++ (wsX2_parse_r2 ++ (wsX2_parse_r3 ++ (wsX2_parse_r4 ++ wsX2_parse_r5)))) ++ wsX20 ++ wsX00 ++ wsX10 ++ (vx_atS RX2 77 "java/lang/IllegalArgumentException" ["java/lang/RuntimeException", "java/lang/Exception"]).filter goodWord ++ (vx_atS RX2 130 "java/lang/IndexOutOfBoundsException" ["java/lang/RuntimeException", "java/lang/Exception"]).filter goodWord)
def wsX2_triple_r1 : List Cond := [Cond.constant RX2 37 (999999), Cond.fieldLink RX2 33 "Releaseledger" "spare" "LReleaseledger$Version;", Cond.methodLink RX2 91 yX2_checkSlot, Cond.static yX2_checkSlot, Cond.initialized RX2, Cond.code yX2_checkSlot cX2_checkSlot 1 none, Cond.classLink RX2 126 "java/lang/IndexOutOfBoundsException", Cond.initialized "java/lang/IndexOutOfBoundsException", Cond.methodLink RX2 38 yX2_checkNumber, Cond.static yX2_checkNumber, Cond.code yX2_checkNumber cX2_checkNumber 3 none, Cond.classLink RX2 73 "java/lang/IllegalArgumentException", Cond.initialized "java/lang/IllegalArgumentException", Cond.methodLink RX2 46 yX0_clear, Cond.instanceMethod yX0_clear, Cond.selects RX0 yX0_clear yX0_clear, Cond.initialized RX0, Cond.code yX0_clear cX0_clear 1 none, Cond.fieldLink RX0 15 "Releaseledger$Text" "count" "I", Cond.methodLink RX2 49 yX0_putNumber, Cond.instanceMethod yX0_putNumber, Cond.selects RX0 yX0_putNumber yX0_putNumber, Cond.code yX0_putNumber cX0_putNumber 4 none, Cond.constant RX0 31 (100000000)]
def wsX2_triple_r2 : List Cond := [Cond.methodLink RX0 27 yX0_put, Cond.instanceMethod yX0_put, Cond.selects RX0 yX0_put yX0_put, Cond.code yX0_put cX0_put 2 none, Cond.fieldLink RX0 9 "Releaseledger$Text" "signs" "[C", Cond.methodLink RX2 109 yX0_put, Cond.methodLink RX2 100 yX1_readTokens, Cond.instanceMethod yX1_readTokens, Cond.selects RX1 yX1_readTokens yX1_readTokens, Cond.initialized RX1, Cond.code yX1_readTokens cX1_readTokens 6 none, Cond.fieldLink RX1 26 "Releaseledger$Version" "counts" "[I", Cond.fieldLink RX1 12 "Releaseledger$Version" "told" "LReleaseledger$Text;", Cond.methodLink RX1 44 yX0_length, Cond.instanceMethod yX0_length, Cond.selects RX0 yX0_length yX0_length, Cond.code yX0_length cX0_length 1 (some .int), Cond.methodLink RX1 48 yX0_signAt, Cond.instanceMethod yX0_signAt, Cond.selects RX0 yX0_signAt yX0_signAt, Cond.code yX0_signAt cX0_signAt 2 (some .char), Cond.static yX2_kindOf, Cond.code yX2_kindOf cX2_kindOf 1 (some .int), Cond.methodLink RX1 56 yX1_rowBehind]
def wsX2_triple_r3 : List Cond := [Cond.static yX1_rowBehind, Cond.code yX1_rowBehind cX1_rowBehind 2 (some .int), Cond.methodLink RX1 60 yX1_openToken, Cond.instanceMethod yX1_openToken, Cond.selects RX1 yX1_openToken yX1_openToken, Cond.code yX1_openToken cX1_openToken 5 none, Cond.fieldLink RX1 20 "Releaseledger$Version" "starts" "[[I", Cond.fieldLink RX1 23 "Releaseledger$Version" "sizes" "[[I", Cond.methodLink RX1 68 yX1_tokensIn, Cond.instanceMethod yX1_tokensIn, Cond.selects RX1 yX1_tokensIn yX1_tokensIn, Cond.code yX1_tokensIn cX1_tokensIn 2 (some .int), Cond.methodLink RX1 64 yX1_growToken, Cond.instanceMethod yX1_growToken, Cond.selects RX1 yX1_growToken yX1_growToken, Cond.code yX1_growToken cX1_growToken 6 none, Cond.methodLink RX1 72 yX1_hasToken, Cond.instanceMethod yX1_hasToken, Cond.selects RX1 yX1_hasToken yX1_hasToken, Cond.code yX1_hasToken cX1_hasToken 3 (some .boolean), Cond.methodLink RX2 103 yX2_exchangeSpare, Cond.instanceMethod yX2_exchangeSpare, Cond.selects RX2 yX2_exchangeSpare yX2_exchangeSpare, Cond.code yX2_exchangeSpare cX2_exchangeSpare 4 (some .int)]
def wsX2_triple_r4 : List Cond := [Cond.fieldLink RX2 18 "Releaseledger" "slots" "[LReleaseledger$Version;", Cond.methodLink RX2 112 yX2_versionIn, Cond.instanceMethod yX2_versionIn, Cond.selects RX2 yX2_versionIn yX2_versionIn, Cond.code yX2_versionIn cX2_versionIn 2 (some (.object "Releaseledger$Version")), Cond.methodLink RX2 135 yX1_orderTo, Cond.instanceMethod yX1_orderTo, Cond.selects RX1 yX1_orderTo yX1_orderTo, Cond.code yX1_orderTo cX1_orderTo 4 (some .int), Cond.methodLink RX1 76 yX1_orderOfRow, Cond.instanceMethod yX1_orderOfRow, Cond.selects RX1 yX1_orderOfRow yX1_orderOfRow, Cond.code yX1_orderOfRow cX1_orderOfRow 8 (some .int), Cond.methodLink RX1 84 Lib.Math.max.name, Cond.static Lib.Math.max.name, Cond.initialized "java/lang/Math", Cond.code Lib.Math.max.name Lib.Math.max.code 2 (some .int), Cond.methodLink RX1 80 yX1_hasRow, Cond.instanceMethod yX1_hasRow, Cond.selects RX1 yX1_hasRow yX1_hasRow, Cond.code yX1_hasRow cX1_hasRow 2 (some .boolean), Cond.methodLink RX1 90 yX1_sizeAt, Cond.instanceMethod yX1_sizeAt, Cond.selects RX1 yX1_sizeAt yX1_sizeAt]
def wsX2_triple_r5 : List Cond := [Cond.code yX1_sizeAt cX1_sizeAt 3 (some .int), Cond.methodLink RX1 93 yX1_orderOfWords, Cond.instanceMethod yX1_orderOfWords, Cond.selects RX1 yX1_orderOfWords yX1_orderOfWords, Cond.code yX1_orderOfWords cX1_orderOfWords 10 (some .int), Cond.methodLink RX1 103 yX1_startAt, Cond.instanceMethod yX1_startAt, Cond.selects RX1 yX1_startAt yX1_startAt, Cond.code yX1_startAt cX1_startAt 3 (some .int), Cond.static yX2_orderOfNumbers, Cond.code yX2_orderOfNumbers cX2_orderOfNumbers 2 (some .int), Cond.methodLink RX1 97 yX1_orderOfSizes, Cond.static yX1_orderOfSizes, Cond.code yX1_orderOfSizes cX1_orderOfSizes 2 (some .int)]
def wsX2_triple : List Cond := .code yX2_triple cX2_triple 5 (some .int) :: ((wsX2_triple_r1 ++ (wsX2_triple_r2 ++ (wsX2_triple_r3 ++ (wsX2_triple_r4 ++ wsX2_triple_r5)))) ++ wsX20 ++ wsX10 ++ wsX00 ++ (vx_atS RX2 130 "java/lang/IndexOutOfBoundsException" ["java/lang/RuntimeException", "java/lang/Exception"]).filter goodWord ++ (vx_atS RX2 77 "java/lang/IllegalArgumentException" ["java/lang/RuntimeException", "java/lang/Exception"]).filter goodWord)
def wsX2_parseAnew_r1 : List Cond := [Cond.fieldLink RX2 33 "Releaseledger" "spare" "LReleaseledger$Version;", Cond.methodLink RX2 96 yX1_tell, Cond.instanceMethod yX1_tell, Cond.selects RX1 yX1_tell yX1_tell, Cond.initialized RX1, Cond.code yX1_tell cX1_tell 2 none, Cond.fieldLink RX1 12 "Releaseledger$Version" "told" "LReleaseledger$Text;", Cond.methodLink RX1 37 yX0_clear, Cond.instanceMethod yX0_clear, Cond.selects RX0 yX0_clear yX0_clear, Cond.initialized RX0, Cond.code yX0_clear cX0_clear 1 none, Cond.fieldLink RX0 15 "Releaseledger$Text" "count" "I", Cond.methodLink RX1 40 yX0_putAll, Cond.instanceMethod yX0_putAll, Cond.selects RX0 yX0_putAll yX0_putAll, Cond.code yX0_putAll cX0_putAll 3 none, Cond.methodLink RX0 19 yX0_length, Cond.instanceMethod yX0_length, Cond.selects RX0 yX0_length yX0_length, Cond.code yX0_length cX0_length 1 (some .int), Cond.methodLink RX0 23 yX0_signAt, Cond.instanceMethod yX0_signAt, Cond.selects RX0 yX0_signAt yX0_signAt]
def wsX2_parseAnew_r2 : List Cond := [Cond.code yX0_signAt cX0_signAt 2 (some .char), Cond.fieldLink RX0 9 "Releaseledger$Text" "signs" "[C", Cond.methodLink RX0 27 yX0_put, Cond.instanceMethod yX0_put, Cond.selects RX0 yX0_put yX0_put, Cond.code yX0_put cX0_put 2 none, Cond.methodLink RX2 100 yX1_readTokens, Cond.instanceMethod yX1_readTokens, Cond.selects RX1 yX1_readTokens yX1_readTokens, Cond.code yX1_readTokens cX1_readTokens 6 none, Cond.fieldLink RX1 26 "Releaseledger$Version" "counts" "[I", Cond.methodLink RX1 44 yX0_length, Cond.methodLink RX1 48 yX0_signAt, Cond.static yX2_kindOf, Cond.initialized RX2, Cond.code yX2_kindOf cX2_kindOf 1 (some .int), Cond.methodLink RX1 56 yX1_rowBehind, Cond.static yX1_rowBehind, Cond.code yX1_rowBehind cX1_rowBehind 2 (some .int), Cond.methodLink RX1 60 yX1_openToken, Cond.instanceMethod yX1_openToken, Cond.selects RX1 yX1_openToken yX1_openToken, Cond.code yX1_openToken cX1_openToken 5 none, Cond.fieldLink RX1 20 "Releaseledger$Version" "starts" "[[I"]
def wsX2_parseAnew_r3 : List Cond := [Cond.fieldLink RX1 23 "Releaseledger$Version" "sizes" "[[I", Cond.methodLink RX1 68 yX1_tokensIn, Cond.instanceMethod yX1_tokensIn, Cond.selects RX1 yX1_tokensIn yX1_tokensIn, Cond.code yX1_tokensIn cX1_tokensIn 2 (some .int), Cond.methodLink RX1 64 yX1_growToken, Cond.instanceMethod yX1_growToken, Cond.selects RX1 yX1_growToken yX1_growToken, Cond.code yX1_growToken cX1_growToken 6 none, Cond.methodLink RX1 72 yX1_hasToken, Cond.instanceMethod yX1_hasToken, Cond.selects RX1 yX1_hasToken yX1_hasToken, Cond.code yX1_hasToken cX1_hasToken 3 (some .boolean)]
def wsX2_parseAnew : List Cond := .code yX2_parseAnew cX2_parseAnew 2 none :: ((wsX2_parseAnew_r1 ++ (wsX2_parseAnew_r2 ++ wsX2_parseAnew_r3)) ++ wsX20 ++ wsX10 ++ wsX00)
def wsX2_copy_r1 : List Cond := [Cond.methodLink RX2 112 yX2_versionIn, Cond.instanceMethod yX2_versionIn, Cond.selects RX2 yX2_versionIn yX2_versionIn, Cond.initialized RX2, Cond.code yX2_versionIn cX2_versionIn 2 (some (.object "Releaseledger$Version")), Cond.fieldLink RX2 18 "Releaseledger" "slots" "[LReleaseledger$Version;", Cond.methodLink RX2 91 yX2_checkSlot, Cond.static yX2_checkSlot, Cond.code yX2_checkSlot cX2_checkSlot 1 none, Cond.classLink RX2 126 "java/lang/IndexOutOfBoundsException", Cond.initialized "java/lang/IndexOutOfBoundsException", Cond.methodLink RX2 116 yX2_parseAnew, Cond.instanceMethod yX2_parseAnew, Cond.selects RX2 yX2_parseAnew yX2_parseAnew, Cond.code yX2_parseAnew cX2_parseAnew 2 none, Cond.fieldLink RX2 33 "Releaseledger" "spare" "LReleaseledger$Version;", Cond.methodLink RX2 96 yX1_tell, Cond.instanceMethod yX1_tell, Cond.selects RX1 yX1_tell yX1_tell, Cond.initialized RX1, Cond.code yX1_tell cX1_tell 2 none, Cond.fieldLink RX1 12 "Releaseledger$Version" "told" "LReleaseledger$Text;", Cond.methodLink RX1 37 yX0_clear, Cond.instanceMethod yX0_clear]
def wsX2_copy_r2 : List Cond := [Cond.selects RX0 yX0_clear yX0_clear, Cond.initialized RX0, Cond.code yX0_clear cX0_clear 1 none, Cond.fieldLink RX0 15 "Releaseledger$Text" "count" "I", Cond.methodLink RX1 40 yX0_putAll, Cond.instanceMethod yX0_putAll, Cond.selects RX0 yX0_putAll yX0_putAll, Cond.code yX0_putAll cX0_putAll 3 none, Cond.methodLink RX0 19 yX0_length, Cond.instanceMethod yX0_length, Cond.selects RX0 yX0_length yX0_length, Cond.code yX0_length cX0_length 1 (some .int), Cond.methodLink RX0 23 yX0_signAt, Cond.instanceMethod yX0_signAt, Cond.selects RX0 yX0_signAt yX0_signAt, Cond.code yX0_signAt cX0_signAt 2 (some .char), Cond.fieldLink RX0 9 "Releaseledger$Text" "signs" "[C", Cond.methodLink RX0 27 yX0_put, Cond.instanceMethod yX0_put, Cond.selects RX0 yX0_put yX0_put, Cond.code yX0_put cX0_put 2 none, Cond.methodLink RX2 100 yX1_readTokens, Cond.instanceMethod yX1_readTokens, Cond.selects RX1 yX1_readTokens yX1_readTokens]
def wsX2_copy_r3 : List Cond := [Cond.code yX1_readTokens cX1_readTokens 6 none, Cond.fieldLink RX1 26 "Releaseledger$Version" "counts" "[I", Cond.methodLink RX1 44 yX0_length, Cond.methodLink RX1 48 yX0_signAt, Cond.static yX2_kindOf, Cond.code yX2_kindOf cX2_kindOf 1 (some .int), Cond.methodLink RX1 56 yX1_rowBehind, Cond.static yX1_rowBehind, Cond.code yX1_rowBehind cX1_rowBehind 2 (some .int), Cond.methodLink RX1 60 yX1_openToken, Cond.instanceMethod yX1_openToken, Cond.selects RX1 yX1_openToken yX1_openToken, Cond.code yX1_openToken cX1_openToken 5 none, Cond.fieldLink RX1 20 "Releaseledger$Version" "starts" "[[I", Cond.fieldLink RX1 23 "Releaseledger$Version" "sizes" "[[I", Cond.methodLink RX1 68 yX1_tokensIn, Cond.instanceMethod yX1_tokensIn, Cond.selects RX1 yX1_tokensIn yX1_tokensIn, Cond.code yX1_tokensIn cX1_tokensIn 2 (some .int), Cond.methodLink RX1 64 yX1_growToken, Cond.instanceMethod yX1_growToken, Cond.selects RX1 yX1_growToken yX1_growToken, Cond.code yX1_growToken cX1_growToken 6 none, Cond.methodLink RX1 72 yX1_hasToken]
def wsX2_copy_r4 : List Cond := [Cond.instanceMethod yX1_hasToken, Cond.selects RX1 yX1_hasToken yX1_hasToken, Cond.code yX1_hasToken cX1_hasToken 3 (some .boolean), Cond.methodLink RX2 103 yX2_exchangeSpare, Cond.instanceMethod yX2_exchangeSpare, Cond.selects RX2 yX2_exchangeSpare yX2_exchangeSpare, Cond.code yX2_exchangeSpare cX2_exchangeSpare 4 (some .int), Cond.methodLink RX2 135 yX1_orderTo, Cond.instanceMethod yX1_orderTo, Cond.selects RX1 yX1_orderTo yX1_orderTo, Cond.code yX1_orderTo cX1_orderTo 4 (some .int), Cond.methodLink RX1 76 yX1_orderOfRow, Cond.instanceMethod yX1_orderOfRow, Cond.selects RX1 yX1_orderOfRow yX1_orderOfRow, Cond.code yX1_orderOfRow cX1_orderOfRow 8 (some .int), Cond.methodLink RX1 84 Lib.Math.max.name, Cond.static Lib.Math.max.name, Cond.initialized "java/lang/Math", Cond.code Lib.Math.max.name Lib.Math.max.code 2 (some .int), Cond.methodLink RX1 80 yX1_hasRow, Cond.instanceMethod yX1_hasRow, Cond.selects RX1 yX1_hasRow yX1_hasRow, Cond.code yX1_hasRow cX1_hasRow 2 (some .boolean), Cond.methodLink RX1 90 yX1_sizeAt]
def wsX2_copy_r5 : List Cond := [Cond.instanceMethod yX1_sizeAt, Cond.selects RX1 yX1_sizeAt yX1_sizeAt, Cond.code yX1_sizeAt cX1_sizeAt 3 (some .int), Cond.methodLink RX1 93 yX1_orderOfWords, Cond.instanceMethod yX1_orderOfWords, Cond.selects RX1 yX1_orderOfWords yX1_orderOfWords, Cond.code yX1_orderOfWords cX1_orderOfWords 10 (some .int), Cond.methodLink RX1 103 yX1_startAt, Cond.instanceMethod yX1_startAt, Cond.selects RX1 yX1_startAt yX1_startAt, Cond.code yX1_startAt cX1_startAt 3 (some .int), Cond.static yX2_orderOfNumbers, Cond.code yX2_orderOfNumbers cX2_orderOfNumbers 2 (some .int), Cond.methodLink RX1 97 yX1_orderOfSizes, Cond.static yX1_orderOfSizes, Cond.code yX1_orderOfSizes cX1_orderOfSizes 2 (some .int)]
def wsX2_copy : List Cond := .code yX2_copy cX2_copy 4 (some .int) :: ((wsX2_copy_r1 ++ (wsX2_copy_r2 ++ (wsX2_copy_r3 ++ (wsX2_copy_r4 ++ wsX2_copy_r5)))) ++ wsX20 ++ wsX10 ++ wsX00 ++ (vx_atS RX2 130 "java/lang/IndexOutOfBoundsException" ["java/lang/RuntimeException", "java/lang/Exception"]).filter goodWord)
def wsX2_size : List Cond := .code yX2_size cX2_size 2 (some .int) :: ([.methodLink RX2 112 yX2_versionIn, .instanceMethod yX2_versionIn, .selects RX2 yX2_versionIn yX2_versionIn, .initialized RX2, .code yX2_versionIn cX2_versionIn 2 (some (.object "Releaseledger$Version")), .fieldLink RX2 18 "Releaseledger" "slots" "[LReleaseledger$Version;", .methodLink RX2 91 yX2_checkSlot, .static yX2_checkSlot, .code yX2_checkSlot cX2_checkSlot 1 none, .classLink RX2 126 "java/lang/IndexOutOfBoundsException", .initialized "java/lang/IndexOutOfBoundsException", .methodLink RX2 53 yX0_length, .instanceMethod yX0_length, .selects RX0 yX0_length yX0_length, .initialized RX0, .code yX0_length cX0_length 1 (some .int), .fieldLink RX0 15 "Releaseledger$Text" "count" "I"] ++ wsX10 ++ wsX20 ++ wsX00 ++ (vx_atS RX2 130 "java/lang/IndexOutOfBoundsException" ["java/lang/RuntimeException", "java/lang/Exception"]).filter goodWord)
def wsX2_text_r1 : List Cond := [Cond.methodLink RX2 112 yX2_versionIn, Cond.instanceMethod yX2_versionIn, Cond.selects RX2 yX2_versionIn yX2_versionIn, Cond.initialized RX2, Cond.code yX2_versionIn cX2_versionIn 2 (some (.object "Releaseledger$Version")), Cond.fieldLink RX2 18 "Releaseledger" "slots" "[LReleaseledger$Version;", Cond.methodLink RX2 91 yX2_checkSlot, Cond.static yX2_checkSlot, Cond.code yX2_checkSlot cX2_checkSlot 1 none, Cond.classLink RX2 126 "java/lang/IndexOutOfBoundsException", Cond.initialized "java/lang/IndexOutOfBoundsException", Cond.methodLink RX2 83 yX2_checkPlace, Cond.static yX2_checkPlace, Cond.code yX2_checkPlace cX2_checkPlace 2 none, Cond.methodLink RX2 53 yX0_length, Cond.instanceMethod yX0_length, Cond.selects RX0 yX0_length yX0_length, Cond.initialized RX0, Cond.code yX0_length cX0_length 1 (some .int), Cond.fieldLink RX0 15 "Releaseledger$Text" "count" "I", Cond.methodLink RX2 87 yX0_signAt, Cond.instanceMethod yX0_signAt, Cond.selects RX0 yX0_signAt yX0_signAt, Cond.code yX0_signAt cX0_signAt 2 (some .char)]
def wsX2_text_r2 : List Cond := [Cond.fieldLink RX0 9 "Releaseledger$Text" "signs" "[C"]
def wsX2_text : List Cond := .code yX2_text cX2_text 4 (some .char) :: ((wsX2_text_r1 ++ wsX2_text_r2) ++ wsX10 ++ wsX20 ++ wsX00 ++ (vx_atS RX2 130 "java/lang/IndexOutOfBoundsException" ["java/lang/RuntimeException", "java/lang/Exception"]).filter goodWord)
def wsX2_checkRow : List Cond := .code yX2_checkRow cX2_checkRow 1 none :: ([.classLink RX2 73 "java/lang/IllegalArgumentException", .initialized "java/lang/IllegalArgumentException"] ++ (vx_atS RX2 77 "java/lang/IllegalArgumentException" ["java/lang/RuntimeException", "java/lang/Exception"]).filter goodWord)
def wsX2_tokens : List Cond := .code yX2_tokens cX2_tokens 4 (some .int) :: ([.methodLink RX2 112 yX2_versionIn, .instanceMethod yX2_versionIn, .selects RX2 yX2_versionIn yX2_versionIn, .initialized RX2, .code yX2_versionIn cX2_versionIn 2 (some (.object "Releaseledger$Version")), .fieldLink RX2 18 "Releaseledger" "slots" "[LReleaseledger$Version;", .methodLink RX2 91 yX2_checkSlot, .static yX2_checkSlot, .code yX2_checkSlot cX2_checkSlot 1 none, .classLink RX2 126 "java/lang/IndexOutOfBoundsException", .initialized "java/lang/IndexOutOfBoundsException", .methodLink RX2 120 yX2_checkRow, .static yX2_checkRow, .code yX2_checkRow cX2_checkRow 1 none, .classLink RX2 73 "java/lang/IllegalArgumentException", .initialized "java/lang/IllegalArgumentException", .methodLink RX2 123 yX1_tokensIn, .instanceMethod yX1_tokensIn, .selects RX1 yX1_tokensIn yX1_tokensIn, .initialized RX1, .code yX1_tokensIn cX1_tokensIn 2 (some .int), .fieldLink RX1 26 "Releaseledger$Version" "counts" "[I"] ++ wsX20 ++ wsX10 ++ (vx_atS RX2 130 "java/lang/IndexOutOfBoundsException" ["java/lang/RuntimeException", "java/lang/Exception"]).filter goodWord ++ (vx_atS RX2 77 "java/lang/IllegalArgumentException" ["java/lang/RuntimeException", "java/lang/Exception"]).filter goodWord)
def wsX2_token_r1 : List Cond := [Cond.classLink RX2 126 "java/lang/IndexOutOfBoundsException", Cond.initialized "java/lang/IndexOutOfBoundsException", Cond.methodLink RX2 112 yX2_versionIn, Cond.instanceMethod yX2_versionIn, Cond.selects RX2 yX2_versionIn yX2_versionIn, Cond.initialized RX2, Cond.code yX2_versionIn cX2_versionIn 2 (some (.object "Releaseledger$Version")), Cond.fieldLink RX2 18 "Releaseledger" "slots" "[LReleaseledger$Version;", Cond.methodLink RX2 91 yX2_checkSlot, Cond.static yX2_checkSlot, Cond.code yX2_checkSlot cX2_checkSlot 1 none, Cond.methodLink RX2 120 yX2_checkRow, Cond.static yX2_checkRow, Cond.code yX2_checkRow cX2_checkRow 1 none, Cond.classLink RX2 73 "java/lang/IllegalArgumentException", Cond.initialized "java/lang/IllegalArgumentException", Cond.methodLink RX2 123 yX1_tokensIn, Cond.instanceMethod yX1_tokensIn, Cond.selects RX1 yX1_tokensIn yX1_tokensIn, Cond.initialized RX1, Cond.code yX1_tokensIn cX1_tokensIn 2 (some .int), Cond.fieldLink RX1 26 "Releaseledger$Version" "counts" "[I", Cond.methodLink RX2 131 yX1_sizeAt, Cond.instanceMethod yX1_sizeAt]
def wsX2_token_r2 : List Cond := [Cond.selects RX1 yX1_sizeAt yX1_sizeAt, Cond.code yX1_sizeAt cX1_sizeAt 3 (some .int), Cond.fieldLink RX1 23 "Releaseledger$Version" "sizes" "[[I", Cond.methodLink RX1 72 yX1_hasToken, Cond.instanceMethod yX1_hasToken, Cond.selects RX1 yX1_hasToken yX1_hasToken, Cond.code yX1_hasToken cX1_hasToken 3 (some .boolean)]
def wsX2_token : List Cond := .code yX2_token cX2_token 5 (some .int) :: ((wsX2_token_r1 ++ wsX2_token_r2) ++ wsX20 ++ wsX10 ++ (vx_atS RX2 130 "java/lang/IndexOutOfBoundsException" ["java/lang/RuntimeException", "java/lang/Exception"]).filter goodWord ++ (vx_atS RX2 77 "java/lang/IllegalArgumentException" ["java/lang/RuntimeException", "java/lang/Exception"]).filter goodWord)
def wsX2_compare_r1 : List Cond := [Cond.methodLink RX2 112 yX2_versionIn, Cond.instanceMethod yX2_versionIn, Cond.selects RX2 yX2_versionIn yX2_versionIn, Cond.initialized RX2, Cond.code yX2_versionIn cX2_versionIn 2 (some (.object "Releaseledger$Version")), Cond.fieldLink RX2 18 "Releaseledger" "slots" "[LReleaseledger$Version;", Cond.methodLink RX2 91 yX2_checkSlot, Cond.static yX2_checkSlot, Cond.code yX2_checkSlot cX2_checkSlot 1 none, Cond.classLink RX2 126 "java/lang/IndexOutOfBoundsException", Cond.initialized "java/lang/IndexOutOfBoundsException", Cond.methodLink RX2 135 yX1_orderTo, Cond.instanceMethod yX1_orderTo, Cond.selects RX1 yX1_orderTo yX1_orderTo, Cond.initialized RX1, Cond.code yX1_orderTo cX1_orderTo 4 (some .int), Cond.methodLink RX1 76 yX1_orderOfRow, Cond.instanceMethod yX1_orderOfRow, Cond.selects RX1 yX1_orderOfRow yX1_orderOfRow, Cond.code yX1_orderOfRow cX1_orderOfRow 8 (some .int), Cond.methodLink RX1 84 Lib.Math.max.name, Cond.static Lib.Math.max.name, Cond.initialized "java/lang/Math", Cond.code Lib.Math.max.name Lib.Math.max.code 2 (some .int)]
def wsX2_compare_r2 : List Cond := [Cond.methodLink RX1 80 yX1_hasRow, Cond.instanceMethod yX1_hasRow, Cond.selects RX1 yX1_hasRow yX1_hasRow, Cond.code yX1_hasRow cX1_hasRow 2 (some .boolean), Cond.methodLink RX1 68 yX1_tokensIn, Cond.instanceMethod yX1_tokensIn, Cond.selects RX1 yX1_tokensIn yX1_tokensIn, Cond.code yX1_tokensIn cX1_tokensIn 2 (some .int), Cond.fieldLink RX1 26 "Releaseledger$Version" "counts" "[I", Cond.methodLink RX1 90 yX1_sizeAt, Cond.instanceMethod yX1_sizeAt, Cond.selects RX1 yX1_sizeAt yX1_sizeAt, Cond.code yX1_sizeAt cX1_sizeAt 3 (some .int), Cond.fieldLink RX1 23 "Releaseledger$Version" "sizes" "[[I", Cond.methodLink RX1 72 yX1_hasToken, Cond.instanceMethod yX1_hasToken, Cond.selects RX1 yX1_hasToken yX1_hasToken, Cond.code yX1_hasToken cX1_hasToken 3 (some .boolean), Cond.methodLink RX1 93 yX1_orderOfWords, Cond.instanceMethod yX1_orderOfWords, Cond.selects RX1 yX1_orderOfWords yX1_orderOfWords, Cond.code yX1_orderOfWords cX1_orderOfWords 10 (some .int), Cond.fieldLink RX1 12 "Releaseledger$Version" "told" "LReleaseledger$Text;", Cond.methodLink RX1 103 yX1_startAt]
def wsX2_compare_r3 : List Cond := [Cond.instanceMethod yX1_startAt, Cond.selects RX1 yX1_startAt yX1_startAt, Cond.code yX1_startAt cX1_startAt 3 (some .int), Cond.fieldLink RX1 20 "Releaseledger$Version" "starts" "[[I", Cond.methodLink RX1 48 yX0_signAt, Cond.instanceMethod yX0_signAt, Cond.selects RX0 yX0_signAt yX0_signAt, Cond.initialized RX0, Cond.code yX0_signAt cX0_signAt 2 (some .char), Cond.fieldLink RX0 15 "Releaseledger$Text" "count" "I", Cond.fieldLink RX0 9 "Releaseledger$Text" "signs" "[C", Cond.static yX2_orderOfNumbers, Cond.code yX2_orderOfNumbers cX2_orderOfNumbers 2 (some .int), Cond.methodLink RX1 97 yX1_orderOfSizes, Cond.static yX1_orderOfSizes, Cond.code yX1_orderOfSizes cX1_orderOfSizes 2 (some .int)]
def wsX2_compare : List Cond := .code yX2_compare cX2_compare 3 (some .int) :: ((wsX2_compare_r1 ++ (wsX2_compare_r2 ++ wsX2_compare_r3)) ++ wsX20 ++ wsX10 ++ wsX00 ++ (vx_atS RX2 130 "java/lang/IndexOutOfBoundsException" ["java/lang/RuntimeException", "java/lang/Exception"]).filter goodWord)
def wsX2_isSame_r1 : List Cond := [Cond.methodLink RX2 112 yX2_versionIn, Cond.instanceMethod yX2_versionIn, Cond.selects RX2 yX2_versionIn yX2_versionIn, Cond.initialized RX2, Cond.code yX2_versionIn cX2_versionIn 2 (some (.object "Releaseledger$Version")), Cond.fieldLink RX2 18 "Releaseledger" "slots" "[LReleaseledger$Version;", Cond.methodLink RX2 91 yX2_checkSlot, Cond.static yX2_checkSlot, Cond.code yX2_checkSlot cX2_checkSlot 1 none, Cond.classLink RX2 126 "java/lang/IndexOutOfBoundsException", Cond.initialized "java/lang/IndexOutOfBoundsException", Cond.methodLink RX2 135 yX1_orderTo, Cond.instanceMethod yX1_orderTo, Cond.selects RX1 yX1_orderTo yX1_orderTo, Cond.initialized RX1, Cond.code yX1_orderTo cX1_orderTo 4 (some .int), Cond.methodLink RX1 76 yX1_orderOfRow, Cond.instanceMethod yX1_orderOfRow, Cond.selects RX1 yX1_orderOfRow yX1_orderOfRow, Cond.code yX1_orderOfRow cX1_orderOfRow 8 (some .int), Cond.methodLink RX1 84 Lib.Math.max.name, Cond.static Lib.Math.max.name, Cond.initialized "java/lang/Math", Cond.code Lib.Math.max.name Lib.Math.max.code 2 (some .int)]
def wsX2_isSame_r2 : List Cond := [Cond.methodLink RX1 80 yX1_hasRow, Cond.instanceMethod yX1_hasRow, Cond.selects RX1 yX1_hasRow yX1_hasRow, Cond.code yX1_hasRow cX1_hasRow 2 (some .boolean), Cond.methodLink RX1 68 yX1_tokensIn, Cond.instanceMethod yX1_tokensIn, Cond.selects RX1 yX1_tokensIn yX1_tokensIn, Cond.code yX1_tokensIn cX1_tokensIn 2 (some .int), Cond.fieldLink RX1 26 "Releaseledger$Version" "counts" "[I", Cond.methodLink RX1 90 yX1_sizeAt, Cond.instanceMethod yX1_sizeAt, Cond.selects RX1 yX1_sizeAt yX1_sizeAt, Cond.code yX1_sizeAt cX1_sizeAt 3 (some .int), Cond.fieldLink RX1 23 "Releaseledger$Version" "sizes" "[[I", Cond.methodLink RX1 72 yX1_hasToken, Cond.instanceMethod yX1_hasToken, Cond.selects RX1 yX1_hasToken yX1_hasToken, Cond.code yX1_hasToken cX1_hasToken 3 (some .boolean), Cond.methodLink RX1 93 yX1_orderOfWords, Cond.instanceMethod yX1_orderOfWords, Cond.selects RX1 yX1_orderOfWords yX1_orderOfWords, Cond.code yX1_orderOfWords cX1_orderOfWords 10 (some .int), Cond.fieldLink RX1 12 "Releaseledger$Version" "told" "LReleaseledger$Text;", Cond.methodLink RX1 103 yX1_startAt]
def wsX2_isSame_r3 : List Cond := [Cond.instanceMethod yX1_startAt, Cond.selects RX1 yX1_startAt yX1_startAt, Cond.code yX1_startAt cX1_startAt 3 (some .int), Cond.fieldLink RX1 20 "Releaseledger$Version" "starts" "[[I", Cond.methodLink RX1 48 yX0_signAt, Cond.instanceMethod yX0_signAt, Cond.selects RX0 yX0_signAt yX0_signAt, Cond.initialized RX0, Cond.code yX0_signAt cX0_signAt 2 (some .char), Cond.fieldLink RX0 15 "Releaseledger$Text" "count" "I", Cond.fieldLink RX0 9 "Releaseledger$Text" "signs" "[C", Cond.static yX2_orderOfNumbers, Cond.code yX2_orderOfNumbers cX2_orderOfNumbers 2 (some .int), Cond.methodLink RX1 97 yX1_orderOfSizes, Cond.static yX1_orderOfSizes, Cond.code yX1_orderOfSizes cX1_orderOfSizes 2 (some .int)]
def wsX2_isSame : List Cond := .code yX2_isSame cX2_isSame 3 (some .boolean) :: ((wsX2_isSame_r1 ++ (wsX2_isSame_r2 ++ wsX2_isSame_r3)) ++ wsX20 ++ wsX10 ++ wsX00 ++ (vx_atS RX2 130 "java/lang/IndexOutOfBoundsException" ["java/lang/RuntimeException", "java/lang/Exception"]).filter goodWord)
def wsX2_apart_r1 : List Cond := [Cond.methodLink RX2 112 yX2_versionIn, Cond.instanceMethod yX2_versionIn, Cond.selects RX2 yX2_versionIn yX2_versionIn, Cond.initialized RX2, Cond.code yX2_versionIn cX2_versionIn 2 (some (.object "Releaseledger$Version")), Cond.fieldLink RX2 18 "Releaseledger" "slots" "[LReleaseledger$Version;", Cond.methodLink RX2 91 yX2_checkSlot, Cond.static yX2_checkSlot, Cond.code yX2_checkSlot cX2_checkSlot 1 none, Cond.classLink RX2 126 "java/lang/IndexOutOfBoundsException", Cond.initialized "java/lang/IndexOutOfBoundsException", Cond.methodLink RX2 139 yX1_tellingRow, Cond.instanceMethod yX1_tellingRow, Cond.selects RX1 yX1_tellingRow yX1_tellingRow, Cond.initialized RX1, Cond.code yX1_tellingRow cX1_tellingRow 3 (some .int), Cond.methodLink RX1 76 yX1_orderOfRow, Cond.instanceMethod yX1_orderOfRow, Cond.selects RX1 yX1_orderOfRow yX1_orderOfRow, Cond.code yX1_orderOfRow cX1_orderOfRow 8 (some .int), Cond.methodLink RX1 84 Lib.Math.max.name, Cond.static Lib.Math.max.name, Cond.initialized "java/lang/Math", Cond.code Lib.Math.max.name Lib.Math.max.code 2 (some .int)]
def wsX2_apart_r2 : List Cond := [Cond.methodLink RX1 80 yX1_hasRow, Cond.instanceMethod yX1_hasRow, Cond.selects RX1 yX1_hasRow yX1_hasRow, Cond.code yX1_hasRow cX1_hasRow 2 (some .boolean), Cond.methodLink RX1 68 yX1_tokensIn, Cond.instanceMethod yX1_tokensIn, Cond.selects RX1 yX1_tokensIn yX1_tokensIn, Cond.code yX1_tokensIn cX1_tokensIn 2 (some .int), Cond.fieldLink RX1 26 "Releaseledger$Version" "counts" "[I", Cond.methodLink RX1 90 yX1_sizeAt, Cond.instanceMethod yX1_sizeAt, Cond.selects RX1 yX1_sizeAt yX1_sizeAt, Cond.code yX1_sizeAt cX1_sizeAt 3 (some .int), Cond.fieldLink RX1 23 "Releaseledger$Version" "sizes" "[[I", Cond.methodLink RX1 72 yX1_hasToken, Cond.instanceMethod yX1_hasToken, Cond.selects RX1 yX1_hasToken yX1_hasToken, Cond.code yX1_hasToken cX1_hasToken 3 (some .boolean), Cond.methodLink RX1 93 yX1_orderOfWords, Cond.instanceMethod yX1_orderOfWords, Cond.selects RX1 yX1_orderOfWords yX1_orderOfWords, Cond.code yX1_orderOfWords cX1_orderOfWords 10 (some .int), Cond.fieldLink RX1 12 "Releaseledger$Version" "told" "LReleaseledger$Text;", Cond.methodLink RX1 103 yX1_startAt]
def wsX2_apart_r3 : List Cond := [Cond.instanceMethod yX1_startAt, Cond.selects RX1 yX1_startAt yX1_startAt, Cond.code yX1_startAt cX1_startAt 3 (some .int), Cond.fieldLink RX1 20 "Releaseledger$Version" "starts" "[[I", Cond.methodLink RX1 48 yX0_signAt, Cond.instanceMethod yX0_signAt, Cond.selects RX0 yX0_signAt yX0_signAt, Cond.initialized RX0, Cond.code yX0_signAt cX0_signAt 2 (some .char), Cond.fieldLink RX0 15 "Releaseledger$Text" "count" "I", Cond.fieldLink RX0 9 "Releaseledger$Text" "signs" "[C", Cond.static yX2_orderOfNumbers, Cond.code yX2_orderOfNumbers cX2_orderOfNumbers 2 (some .int), Cond.methodLink RX1 97 yX1_orderOfSizes, Cond.static yX1_orderOfSizes, Cond.code yX1_orderOfSizes cX1_orderOfSizes 2 (some .int)]
def wsX2_apart : List Cond := .code yX2_apart cX2_apart 3 (some .int) :: ((wsX2_apart_r1 ++ (wsX2_apart_r2 ++ wsX2_apart_r3)) ++ wsX20 ++ wsX10 ++ wsX00 ++ (vx_atS RX2 130 "java/lang/IndexOutOfBoundsException" ["java/lang/RuntimeException", "java/lang/Exception"]).filter goodWord)
def wsX2_rank_r1 : List Cond := [Cond.fieldLink RX2 18 "Releaseledger" "slots" "[LReleaseledger$Version;", Cond.methodLink RX2 112 yX2_versionIn, Cond.instanceMethod yX2_versionIn, Cond.selects RX2 yX2_versionIn yX2_versionIn, Cond.initialized RX2, Cond.code yX2_versionIn cX2_versionIn 2 (some (.object "Releaseledger$Version")), Cond.methodLink RX2 91 yX2_checkSlot, Cond.static yX2_checkSlot, Cond.code yX2_checkSlot cX2_checkSlot 1 none, Cond.classLink RX2 126 "java/lang/IndexOutOfBoundsException", Cond.initialized "java/lang/IndexOutOfBoundsException", Cond.methodLink RX2 135 yX1_orderTo, Cond.instanceMethod yX1_orderTo, Cond.selects RX1 yX1_orderTo yX1_orderTo, Cond.initialized RX1, Cond.code yX1_orderTo cX1_orderTo 4 (some .int), Cond.methodLink RX1 76 yX1_orderOfRow, Cond.instanceMethod yX1_orderOfRow, Cond.selects RX1 yX1_orderOfRow yX1_orderOfRow, Cond.code yX1_orderOfRow cX1_orderOfRow 8 (some .int), Cond.methodLink RX1 84 Lib.Math.max.name, Cond.static Lib.Math.max.name, Cond.initialized "java/lang/Math", Cond.code Lib.Math.max.name Lib.Math.max.code 2 (some .int)]
def wsX2_rank_r2 : List Cond := [Cond.methodLink RX1 80 yX1_hasRow, Cond.instanceMethod yX1_hasRow, Cond.selects RX1 yX1_hasRow yX1_hasRow, Cond.code yX1_hasRow cX1_hasRow 2 (some .boolean), Cond.methodLink RX1 68 yX1_tokensIn, Cond.instanceMethod yX1_tokensIn, Cond.selects RX1 yX1_tokensIn yX1_tokensIn, Cond.code yX1_tokensIn cX1_tokensIn 2 (some .int), Cond.fieldLink RX1 26 "Releaseledger$Version" "counts" "[I", Cond.methodLink RX1 90 yX1_sizeAt, Cond.instanceMethod yX1_sizeAt, Cond.selects RX1 yX1_sizeAt yX1_sizeAt, Cond.code yX1_sizeAt cX1_sizeAt 3 (some .int), Cond.fieldLink RX1 23 "Releaseledger$Version" "sizes" "[[I", Cond.methodLink RX1 72 yX1_hasToken, Cond.instanceMethod yX1_hasToken, Cond.selects RX1 yX1_hasToken yX1_hasToken, Cond.code yX1_hasToken cX1_hasToken 3 (some .boolean), Cond.methodLink RX1 93 yX1_orderOfWords, Cond.instanceMethod yX1_orderOfWords, Cond.selects RX1 yX1_orderOfWords yX1_orderOfWords, Cond.code yX1_orderOfWords cX1_orderOfWords 10 (some .int), Cond.fieldLink RX1 12 "Releaseledger$Version" "told" "LReleaseledger$Text;", Cond.methodLink RX1 103 yX1_startAt]
def wsX2_rank_r3 : List Cond := [Cond.instanceMethod yX1_startAt, Cond.selects RX1 yX1_startAt yX1_startAt, Cond.code yX1_startAt cX1_startAt 3 (some .int), Cond.fieldLink RX1 20 "Releaseledger$Version" "starts" "[[I", Cond.methodLink RX1 48 yX0_signAt, Cond.instanceMethod yX0_signAt, Cond.selects RX0 yX0_signAt yX0_signAt, Cond.initialized RX0, Cond.code yX0_signAt cX0_signAt 2 (some .char), Cond.fieldLink RX0 15 "Releaseledger$Text" "count" "I", Cond.fieldLink RX0 9 "Releaseledger$Text" "signs" "[C", Cond.static yX2_orderOfNumbers, Cond.code yX2_orderOfNumbers cX2_orderOfNumbers 2 (some .int), Cond.methodLink RX1 97 yX1_orderOfSizes, Cond.static yX1_orderOfSizes, Cond.code yX1_orderOfSizes cX1_orderOfSizes 2 (some .int)]
def wsX2_rank : List Cond := .code yX2_rank cX2_rank 5 (some .int) :: ((wsX2_rank_r1 ++ (wsX2_rank_r2 ++ wsX2_rank_r3)) ++ wsX20 ++ wsX10 ++ wsX00 ++ (vx_atS RX2 130 "java/lang/IndexOutOfBoundsException" ["java/lang/RuntimeException", "java/lang/Exception"]).filter goodWord)
def wsX2_orderSlots_r1 : List Cond := [Cond.fieldLink RX2 18 "Releaseledger" "slots" "[LReleaseledger$Version;", Cond.fieldLink RX2 25 "Releaseledger" "slotsInOrder" "[I", Cond.methodLink RX2 112 yX2_versionIn, Cond.instanceMethod yX2_versionIn, Cond.selects RX2 yX2_versionIn yX2_versionIn, Cond.initialized RX2, Cond.code yX2_versionIn cX2_versionIn 2 (some (.object "Releaseledger$Version")), Cond.methodLink RX2 91 yX2_checkSlot, Cond.static yX2_checkSlot, Cond.code yX2_checkSlot cX2_checkSlot 1 none, Cond.classLink RX2 126 "java/lang/IndexOutOfBoundsException", Cond.initialized "java/lang/IndexOutOfBoundsException", Cond.methodLink RX2 135 yX1_orderTo, Cond.instanceMethod yX1_orderTo, Cond.selects RX1 yX1_orderTo yX1_orderTo, Cond.initialized RX1, Cond.code yX1_orderTo cX1_orderTo 4 (some .int), Cond.methodLink RX1 76 yX1_orderOfRow, Cond.instanceMethod yX1_orderOfRow, Cond.selects RX1 yX1_orderOfRow yX1_orderOfRow, Cond.code yX1_orderOfRow cX1_orderOfRow 8 (some .int), Cond.methodLink RX1 84 Lib.Math.max.name, Cond.static Lib.Math.max.name, Cond.initialized "java/lang/Math"]
def wsX2_orderSlots_r2 : List Cond := [Cond.code Lib.Math.max.name Lib.Math.max.code 2 (some .int), Cond.methodLink RX1 80 yX1_hasRow, Cond.instanceMethod yX1_hasRow, Cond.selects RX1 yX1_hasRow yX1_hasRow, Cond.code yX1_hasRow cX1_hasRow 2 (some .boolean), Cond.methodLink RX1 68 yX1_tokensIn, Cond.instanceMethod yX1_tokensIn, Cond.selects RX1 yX1_tokensIn yX1_tokensIn, Cond.code yX1_tokensIn cX1_tokensIn 2 (some .int), Cond.fieldLink RX1 26 "Releaseledger$Version" "counts" "[I", Cond.methodLink RX1 90 yX1_sizeAt, Cond.instanceMethod yX1_sizeAt, Cond.selects RX1 yX1_sizeAt yX1_sizeAt, Cond.code yX1_sizeAt cX1_sizeAt 3 (some .int), Cond.fieldLink RX1 23 "Releaseledger$Version" "sizes" "[[I", Cond.methodLink RX1 72 yX1_hasToken, Cond.instanceMethod yX1_hasToken, Cond.selects RX1 yX1_hasToken yX1_hasToken, Cond.code yX1_hasToken cX1_hasToken 3 (some .boolean), Cond.methodLink RX1 93 yX1_orderOfWords, Cond.instanceMethod yX1_orderOfWords, Cond.selects RX1 yX1_orderOfWords yX1_orderOfWords, Cond.code yX1_orderOfWords cX1_orderOfWords 10 (some .int), Cond.fieldLink RX1 12 "Releaseledger$Version" "told" "LReleaseledger$Text;"]
def wsX2_orderSlots_r3 : List Cond := [Cond.methodLink RX1 103 yX1_startAt, Cond.instanceMethod yX1_startAt, Cond.selects RX1 yX1_startAt yX1_startAt, Cond.code yX1_startAt cX1_startAt 3 (some .int), Cond.fieldLink RX1 20 "Releaseledger$Version" "starts" "[[I", Cond.methodLink RX1 48 yX0_signAt, Cond.instanceMethod yX0_signAt, Cond.selects RX0 yX0_signAt yX0_signAt, Cond.initialized RX0, Cond.code yX0_signAt cX0_signAt 2 (some .char), Cond.fieldLink RX0 15 "Releaseledger$Text" "count" "I", Cond.fieldLink RX0 9 "Releaseledger$Text" "signs" "[C", Cond.static yX2_orderOfNumbers, Cond.code yX2_orderOfNumbers cX2_orderOfNumbers 2 (some .int), Cond.methodLink RX1 97 yX1_orderOfSizes, Cond.static yX1_orderOfSizes, Cond.code yX1_orderOfSizes cX1_orderOfSizes 2 (some .int)]
def wsX2_orderSlots : List Cond := .code yX2_orderSlots cX2_orderSlots 3 none :: ((wsX2_orderSlots_r1 ++ (wsX2_orderSlots_r2 ++ wsX2_orderSlots_r3)) ++ wsX20 ++ wsX10 ++ wsX00 ++ (vx_atS RX2 130 "java/lang/IndexOutOfBoundsException" ["java/lang/RuntimeException", "java/lang/Exception"]).filter goodWord)
def wsX2_at_r1 : List Cond := [Cond.classLink RX2 126 "java/lang/IndexOutOfBoundsException", Cond.initialized "java/lang/IndexOutOfBoundsException", Cond.fieldLink RX2 25 "Releaseledger" "slotsInOrder" "[I", Cond.methodLink RX2 144 yX2_orderSlots, Cond.instanceMethod yX2_orderSlots, Cond.selects RX2 yX2_orderSlots yX2_orderSlots, Cond.initialized RX2, Cond.code yX2_orderSlots cX2_orderSlots 3 none, Cond.fieldLink RX2 18 "Releaseledger" "slots" "[LReleaseledger$Version;", Cond.methodLink RX2 112 yX2_versionIn, Cond.instanceMethod yX2_versionIn, Cond.selects RX2 yX2_versionIn yX2_versionIn, Cond.code yX2_versionIn cX2_versionIn 2 (some (.object "Releaseledger$Version")), Cond.methodLink RX2 91 yX2_checkSlot, Cond.static yX2_checkSlot, Cond.code yX2_checkSlot cX2_checkSlot 1 none, Cond.methodLink RX2 135 yX1_orderTo, Cond.instanceMethod yX1_orderTo, Cond.selects RX1 yX1_orderTo yX1_orderTo, Cond.initialized RX1, Cond.code yX1_orderTo cX1_orderTo 4 (some .int), Cond.methodLink RX1 76 yX1_orderOfRow, Cond.instanceMethod yX1_orderOfRow, Cond.selects RX1 yX1_orderOfRow yX1_orderOfRow]
def wsX2_at_r2 : List Cond := [Cond.code yX1_orderOfRow cX1_orderOfRow 8 (some .int), Cond.methodLink RX1 84 Lib.Math.max.name, Cond.static Lib.Math.max.name, Cond.initialized "java/lang/Math", Cond.code Lib.Math.max.name Lib.Math.max.code 2 (some .int), Cond.methodLink RX1 80 yX1_hasRow, Cond.instanceMethod yX1_hasRow, Cond.selects RX1 yX1_hasRow yX1_hasRow, Cond.code yX1_hasRow cX1_hasRow 2 (some .boolean), Cond.methodLink RX1 68 yX1_tokensIn, Cond.instanceMethod yX1_tokensIn, Cond.selects RX1 yX1_tokensIn yX1_tokensIn, Cond.code yX1_tokensIn cX1_tokensIn 2 (some .int), Cond.fieldLink RX1 26 "Releaseledger$Version" "counts" "[I", Cond.methodLink RX1 90 yX1_sizeAt, Cond.instanceMethod yX1_sizeAt, Cond.selects RX1 yX1_sizeAt yX1_sizeAt, Cond.code yX1_sizeAt cX1_sizeAt 3 (some .int), Cond.fieldLink RX1 23 "Releaseledger$Version" "sizes" "[[I", Cond.methodLink RX1 72 yX1_hasToken, Cond.instanceMethod yX1_hasToken, Cond.selects RX1 yX1_hasToken yX1_hasToken, Cond.code yX1_hasToken cX1_hasToken 3 (some .boolean), Cond.methodLink RX1 93 yX1_orderOfWords]
def wsX2_at_r3 : List Cond := [Cond.instanceMethod yX1_orderOfWords, Cond.selects RX1 yX1_orderOfWords yX1_orderOfWords, Cond.code yX1_orderOfWords cX1_orderOfWords 10 (some .int), Cond.fieldLink RX1 12 "Releaseledger$Version" "told" "LReleaseledger$Text;", Cond.methodLink RX1 103 yX1_startAt, Cond.instanceMethod yX1_startAt, Cond.selects RX1 yX1_startAt yX1_startAt, Cond.code yX1_startAt cX1_startAt 3 (some .int), Cond.fieldLink RX1 20 "Releaseledger$Version" "starts" "[[I", Cond.methodLink RX1 48 yX0_signAt, Cond.instanceMethod yX0_signAt, Cond.selects RX0 yX0_signAt yX0_signAt, Cond.initialized RX0, Cond.code yX0_signAt cX0_signAt 2 (some .char), Cond.fieldLink RX0 15 "Releaseledger$Text" "count" "I", Cond.fieldLink RX0 9 "Releaseledger$Text" "signs" "[C", Cond.static yX2_orderOfNumbers, Cond.code yX2_orderOfNumbers cX2_orderOfNumbers 2 (some .int), Cond.methodLink RX1 97 yX1_orderOfSizes, Cond.static yX1_orderOfSizes, Cond.code yX1_orderOfSizes cX1_orderOfSizes 2 (some .int)]
def wsX2_at : List Cond := .code yX2_at cX2_at 2 (some .int) :: ((wsX2_at_r1 ++ (wsX2_at_r2 ++ wsX2_at_r3)) ++ wsX20 ++ wsX10 ++ wsX00 ++ (vx_atS RX2 130 "java/lang/IndexOutOfBoundsException" ["java/lang/RuntimeException", "java/lang/Exception"]).filter goodWord)
def wsX2_sort_r1 : List Cond := [Cond.fieldLink RX2 22 "Releaseledger" "sorted" "[LReleaseledger$Version;", Cond.fieldLink RX2 25 "Releaseledger" "slotsInOrder" "[I", Cond.fieldLink RX2 18 "Releaseledger" "slots" "[LReleaseledger$Version;", Cond.methodLink RX2 144 yX2_orderSlots, Cond.instanceMethod yX2_orderSlots, Cond.selects RX2 yX2_orderSlots yX2_orderSlots, Cond.initialized RX2, Cond.code yX2_orderSlots cX2_orderSlots 3 none, Cond.methodLink RX2 112 yX2_versionIn, Cond.instanceMethod yX2_versionIn, Cond.selects RX2 yX2_versionIn yX2_versionIn, Cond.code yX2_versionIn cX2_versionIn 2 (some (.object "Releaseledger$Version")), Cond.methodLink RX2 91 yX2_checkSlot, Cond.static yX2_checkSlot, Cond.code yX2_checkSlot cX2_checkSlot 1 none, Cond.classLink RX2 126 "java/lang/IndexOutOfBoundsException", Cond.initialized "java/lang/IndexOutOfBoundsException", Cond.methodLink RX2 135 yX1_orderTo, Cond.instanceMethod yX1_orderTo, Cond.selects RX1 yX1_orderTo yX1_orderTo, Cond.initialized RX1, Cond.code yX1_orderTo cX1_orderTo 4 (some .int), Cond.methodLink RX1 76 yX1_orderOfRow, Cond.instanceMethod yX1_orderOfRow]
def wsX2_sort_r2 : List Cond := [Cond.selects RX1 yX1_orderOfRow yX1_orderOfRow, Cond.code yX1_orderOfRow cX1_orderOfRow 8 (some .int), Cond.methodLink RX1 84 Lib.Math.max.name, Cond.static Lib.Math.max.name, Cond.initialized "java/lang/Math", Cond.code Lib.Math.max.name Lib.Math.max.code 2 (some .int), Cond.methodLink RX1 80 yX1_hasRow, Cond.instanceMethod yX1_hasRow, Cond.selects RX1 yX1_hasRow yX1_hasRow, Cond.code yX1_hasRow cX1_hasRow 2 (some .boolean), Cond.methodLink RX1 68 yX1_tokensIn, Cond.instanceMethod yX1_tokensIn, Cond.selects RX1 yX1_tokensIn yX1_tokensIn, Cond.code yX1_tokensIn cX1_tokensIn 2 (some .int), Cond.fieldLink RX1 26 "Releaseledger$Version" "counts" "[I", Cond.methodLink RX1 90 yX1_sizeAt, Cond.instanceMethod yX1_sizeAt, Cond.selects RX1 yX1_sizeAt yX1_sizeAt, Cond.code yX1_sizeAt cX1_sizeAt 3 (some .int), Cond.fieldLink RX1 23 "Releaseledger$Version" "sizes" "[[I", Cond.methodLink RX1 72 yX1_hasToken, Cond.instanceMethod yX1_hasToken, Cond.selects RX1 yX1_hasToken yX1_hasToken, Cond.code yX1_hasToken cX1_hasToken 3 (some .boolean)]
def wsX2_sort_r3 : List Cond := [Cond.methodLink RX1 93 yX1_orderOfWords, Cond.instanceMethod yX1_orderOfWords, Cond.selects RX1 yX1_orderOfWords yX1_orderOfWords, Cond.code yX1_orderOfWords cX1_orderOfWords 10 (some .int), Cond.fieldLink RX1 12 "Releaseledger$Version" "told" "LReleaseledger$Text;", Cond.methodLink RX1 103 yX1_startAt, Cond.instanceMethod yX1_startAt, Cond.selects RX1 yX1_startAt yX1_startAt, Cond.code yX1_startAt cX1_startAt 3 (some .int), Cond.fieldLink RX1 20 "Releaseledger$Version" "starts" "[[I", Cond.methodLink RX1 48 yX0_signAt, Cond.instanceMethod yX0_signAt, Cond.selects RX0 yX0_signAt yX0_signAt, Cond.initialized RX0, Cond.code yX0_signAt cX0_signAt 2 (some .char), Cond.fieldLink RX0 15 "Releaseledger$Text" "count" "I", Cond.fieldLink RX0 9 "Releaseledger$Text" "signs" "[C", Cond.static yX2_orderOfNumbers, Cond.code yX2_orderOfNumbers cX2_orderOfNumbers 2 (some .int), Cond.methodLink RX1 97 yX1_orderOfSizes, Cond.static yX1_orderOfSizes, Cond.code yX1_orderOfSizes cX1_orderOfSizes 2 (some .int)]
def wsX2_sort : List Cond := .code yX2_sort cX2_sort 3 (some .int) :: ((wsX2_sort_r1 ++ (wsX2_sort_r2 ++ wsX2_sort_r3)) ++ wsX20 ++ wsX10 ++ wsX00 ++ (vx_atS RX2 130 "java/lang/IndexOutOfBoundsException" ["java/lang/RuntimeException", "java/lang/Exception"]).filter goodWord)
def wsX2_between_r1 : List Cond := [Cond.fieldLink RX2 18 "Releaseledger" "slots" "[LReleaseledger$Version;", Cond.methodLink RX2 112 yX2_versionIn, Cond.instanceMethod yX2_versionIn, Cond.selects RX2 yX2_versionIn yX2_versionIn, Cond.initialized RX2, Cond.code yX2_versionIn cX2_versionIn 2 (some (.object "Releaseledger$Version")), Cond.methodLink RX2 91 yX2_checkSlot, Cond.static yX2_checkSlot, Cond.code yX2_checkSlot cX2_checkSlot 1 none, Cond.classLink RX2 126 "java/lang/IndexOutOfBoundsException", Cond.initialized "java/lang/IndexOutOfBoundsException", Cond.methodLink RX2 135 yX1_orderTo, Cond.instanceMethod yX1_orderTo, Cond.selects RX1 yX1_orderTo yX1_orderTo, Cond.initialized RX1, Cond.code yX1_orderTo cX1_orderTo 4 (some .int), Cond.methodLink RX1 76 yX1_orderOfRow, Cond.instanceMethod yX1_orderOfRow, Cond.selects RX1 yX1_orderOfRow yX1_orderOfRow, Cond.code yX1_orderOfRow cX1_orderOfRow 8 (some .int), Cond.methodLink RX1 84 Lib.Math.max.name, Cond.static Lib.Math.max.name, Cond.initialized "java/lang/Math", Cond.code Lib.Math.max.name Lib.Math.max.code 2 (some .int)]
def wsX2_between_r2 : List Cond := [Cond.methodLink RX1 80 yX1_hasRow, Cond.instanceMethod yX1_hasRow, Cond.selects RX1 yX1_hasRow yX1_hasRow, Cond.code yX1_hasRow cX1_hasRow 2 (some .boolean), Cond.methodLink RX1 68 yX1_tokensIn, Cond.instanceMethod yX1_tokensIn, Cond.selects RX1 yX1_tokensIn yX1_tokensIn, Cond.code yX1_tokensIn cX1_tokensIn 2 (some .int), Cond.fieldLink RX1 26 "Releaseledger$Version" "counts" "[I", Cond.methodLink RX1 90 yX1_sizeAt, Cond.instanceMethod yX1_sizeAt, Cond.selects RX1 yX1_sizeAt yX1_sizeAt, Cond.code yX1_sizeAt cX1_sizeAt 3 (some .int), Cond.fieldLink RX1 23 "Releaseledger$Version" "sizes" "[[I", Cond.methodLink RX1 72 yX1_hasToken, Cond.instanceMethod yX1_hasToken, Cond.selects RX1 yX1_hasToken yX1_hasToken, Cond.code yX1_hasToken cX1_hasToken 3 (some .boolean), Cond.methodLink RX1 93 yX1_orderOfWords, Cond.instanceMethod yX1_orderOfWords, Cond.selects RX1 yX1_orderOfWords yX1_orderOfWords, Cond.code yX1_orderOfWords cX1_orderOfWords 10 (some .int), Cond.fieldLink RX1 12 "Releaseledger$Version" "told" "LReleaseledger$Text;", Cond.methodLink RX1 103 yX1_startAt]
def wsX2_between_r3 : List Cond := [Cond.instanceMethod yX1_startAt, Cond.selects RX1 yX1_startAt yX1_startAt, Cond.code yX1_startAt cX1_startAt 3 (some .int), Cond.fieldLink RX1 20 "Releaseledger$Version" "starts" "[[I", Cond.methodLink RX1 48 yX0_signAt, Cond.instanceMethod yX0_signAt, Cond.selects RX0 yX0_signAt yX0_signAt, Cond.initialized RX0, Cond.code yX0_signAt cX0_signAt 2 (some .char), Cond.fieldLink RX0 15 "Releaseledger$Text" "count" "I", Cond.fieldLink RX0 9 "Releaseledger$Text" "signs" "[C", Cond.static yX2_orderOfNumbers, Cond.code yX2_orderOfNumbers cX2_orderOfNumbers 2 (some .int), Cond.methodLink RX1 97 yX1_orderOfSizes, Cond.static yX1_orderOfSizes, Cond.code yX1_orderOfSizes cX1_orderOfSizes 2 (some .int)]
def wsX2_between : List Cond := .code yX2_between cX2_between 7 (some .int) :: ((wsX2_between_r1 ++ (wsX2_between_r2 ++ wsX2_between_r3)) ++ wsX20 ++ wsX10 ++ wsX00 ++ (vx_atS RX2 130 "java/lang/IndexOutOfBoundsException" ["java/lang/RuntimeException", "java/lang/Exception"]).filter goodWord)
def wsX2_parseWithNumberBehind_r1 : List Cond := [Cond.fieldLink RX2 33 "Releaseledger" "spare" "LReleaseledger$Version;", Cond.methodLink RX2 96 yX1_tell, Cond.instanceMethod yX1_tell, Cond.selects RX1 yX1_tell yX1_tell, Cond.initialized RX1, Cond.code yX1_tell cX1_tell 2 none, Cond.fieldLink RX1 12 "Releaseledger$Version" "told" "LReleaseledger$Text;", Cond.methodLink RX1 37 yX0_clear, Cond.instanceMethod yX0_clear, Cond.selects RX0 yX0_clear yX0_clear, Cond.initialized RX0, Cond.code yX0_clear cX0_clear 1 none, Cond.fieldLink RX0 15 "Releaseledger$Text" "count" "I", Cond.methodLink RX1 40 yX0_putAll, Cond.instanceMethod yX0_putAll, Cond.selects RX0 yX0_putAll yX0_putAll, Cond.code yX0_putAll cX0_putAll 3 none, Cond.methodLink RX0 19 yX0_length, Cond.instanceMethod yX0_length, Cond.selects RX0 yX0_length yX0_length, Cond.code yX0_length cX0_length 1 (some .int), Cond.methodLink RX0 23 yX0_signAt, Cond.instanceMethod yX0_signAt, Cond.selects RX0 yX0_signAt yX0_signAt]
def wsX2_parseWithNumberBehind_r2 : List Cond := [Cond.code yX0_signAt cX0_signAt 2 (some .char), Cond.fieldLink RX0 9 "Releaseledger$Text" "signs" "[C", Cond.methodLink RX0 27 yX0_put, Cond.instanceMethod yX0_put, Cond.selects RX0 yX0_put yX0_put, Cond.code yX0_put cX0_put 2 none, Cond.methodLink RX2 109 yX0_put, Cond.methodLink RX2 49 yX0_putNumber, Cond.instanceMethod yX0_putNumber, Cond.selects RX0 yX0_putNumber yX0_putNumber, Cond.code yX0_putNumber cX0_putNumber 4 none, Cond.constant RX0 31 (100000000), Cond.methodLink RX2 100 yX1_readTokens, Cond.instanceMethod yX1_readTokens, Cond.selects RX1 yX1_readTokens yX1_readTokens, Cond.code yX1_readTokens cX1_readTokens 6 none, Cond.fieldLink RX1 26 "Releaseledger$Version" "counts" "[I", Cond.methodLink RX1 44 yX0_length, Cond.methodLink RX1 48 yX0_signAt, Cond.static yX2_kindOf, Cond.initialized RX2, Cond.code yX2_kindOf cX2_kindOf 1 (some .int), Cond.methodLink RX1 56 yX1_rowBehind, Cond.static yX1_rowBehind]
def wsX2_parseWithNumberBehind_r3 : List Cond := [Cond.code yX1_rowBehind cX1_rowBehind 2 (some .int), Cond.methodLink RX1 60 yX1_openToken, Cond.instanceMethod yX1_openToken, Cond.selects RX1 yX1_openToken yX1_openToken, Cond.code yX1_openToken cX1_openToken 5 none, Cond.fieldLink RX1 20 "Releaseledger$Version" "starts" "[[I", Cond.fieldLink RX1 23 "Releaseledger$Version" "sizes" "[[I", Cond.methodLink RX1 68 yX1_tokensIn, Cond.instanceMethod yX1_tokensIn, Cond.selects RX1 yX1_tokensIn yX1_tokensIn, Cond.code yX1_tokensIn cX1_tokensIn 2 (some .int), Cond.methodLink RX1 64 yX1_growToken, Cond.instanceMethod yX1_growToken, Cond.selects RX1 yX1_growToken yX1_growToken, Cond.code yX1_growToken cX1_growToken 6 none, Cond.methodLink RX1 72 yX1_hasToken, Cond.instanceMethod yX1_hasToken, Cond.selects RX1 yX1_hasToken yX1_hasToken, Cond.code yX1_hasToken cX1_hasToken 3 (some .boolean)]
def wsX2_parseWithNumberBehind : List Cond := .code yX2_parseWithNumberBehind cX2_parseWithNumberBehind 4 none :: ((wsX2_parseWithNumberBehind_r1 ++ (wsX2_parseWithNumberBehind_r2 ++ wsX2_parseWithNumberBehind_r3)) ++ wsX20 ++ wsX10 ++ wsX00)
def wsX2_zero_r1 : List Cond := [Cond.fieldLink RX2 33 "Releaseledger" "spare" "LReleaseledger$Version;", Cond.methodLink RX2 112 yX2_versionIn, Cond.instanceMethod yX2_versionIn, Cond.selects RX2 yX2_versionIn yX2_versionIn, Cond.initialized RX2, Cond.code yX2_versionIn cX2_versionIn 2 (some (.object "Releaseledger$Version")), Cond.fieldLink RX2 18 "Releaseledger" "slots" "[LReleaseledger$Version;", Cond.methodLink RX2 91 yX2_checkSlot, Cond.static yX2_checkSlot, Cond.code yX2_checkSlot cX2_checkSlot 1 none, Cond.classLink RX2 126 "java/lang/IndexOutOfBoundsException", Cond.initialized "java/lang/IndexOutOfBoundsException", Cond.methodLink RX2 62 yX2_digitsOf, Cond.static yX2_digitsOf, Cond.code yX2_digitsOf cX2_digitsOf 3 (some .int), Cond.methodLink RX2 147 yX2_checkRoom, Cond.static yX2_checkRoom, Cond.code yX2_checkRoom cX2_checkRoom 2 none, Cond.classLink RX2 160 "java/lang/IllegalStateException", Cond.initialized "java/lang/IllegalStateException", Cond.methodLink RX2 53 yX0_length, Cond.instanceMethod yX0_length, Cond.selects RX0 yX0_length yX0_length, Cond.initialized RX0]
def wsX2_zero_r2 : List Cond := [Cond.code yX0_length cX0_length 1 (some .int), Cond.fieldLink RX0 15 "Releaseledger$Text" "count" "I", Cond.methodLink RX2 150 yX2_parseWithNumberBehind, Cond.instanceMethod yX2_parseWithNumberBehind, Cond.selects RX2 yX2_parseWithNumberBehind yX2_parseWithNumberBehind, Cond.code yX2_parseWithNumberBehind cX2_parseWithNumberBehind 4 none, Cond.methodLink RX2 96 yX1_tell, Cond.instanceMethod yX1_tell, Cond.selects RX1 yX1_tell yX1_tell, Cond.initialized RX1, Cond.code yX1_tell cX1_tell 2 none, Cond.fieldLink RX1 12 "Releaseledger$Version" "told" "LReleaseledger$Text;", Cond.methodLink RX1 37 yX0_clear, Cond.instanceMethod yX0_clear, Cond.selects RX0 yX0_clear yX0_clear, Cond.code yX0_clear cX0_clear 1 none, Cond.methodLink RX1 40 yX0_putAll, Cond.instanceMethod yX0_putAll, Cond.selects RX0 yX0_putAll yX0_putAll, Cond.code yX0_putAll cX0_putAll 3 none, Cond.methodLink RX0 19 yX0_length, Cond.methodLink RX0 23 yX0_signAt, Cond.instanceMethod yX0_signAt, Cond.selects RX0 yX0_signAt yX0_signAt]
def wsX2_zero_r3 : List Cond := [Cond.code yX0_signAt cX0_signAt 2 (some .char), Cond.fieldLink RX0 9 "Releaseledger$Text" "signs" "[C", Cond.methodLink RX0 27 yX0_put, Cond.instanceMethod yX0_put, Cond.selects RX0 yX0_put yX0_put, Cond.code yX0_put cX0_put 2 none, Cond.methodLink RX2 109 yX0_put, Cond.methodLink RX2 49 yX0_putNumber, Cond.instanceMethod yX0_putNumber, Cond.selects RX0 yX0_putNumber yX0_putNumber, Cond.code yX0_putNumber cX0_putNumber 4 none, Cond.constant RX0 31 (100000000), Cond.methodLink RX2 100 yX1_readTokens, Cond.instanceMethod yX1_readTokens, Cond.selects RX1 yX1_readTokens yX1_readTokens, Cond.code yX1_readTokens cX1_readTokens 6 none, Cond.fieldLink RX1 26 "Releaseledger$Version" "counts" "[I", Cond.methodLink RX1 44 yX0_length, Cond.methodLink RX1 48 yX0_signAt, Cond.static yX2_kindOf, Cond.code yX2_kindOf cX2_kindOf 1 (some .int), Cond.methodLink RX1 56 yX1_rowBehind, Cond.static yX1_rowBehind, Cond.code yX1_rowBehind cX1_rowBehind 2 (some .int)]
def wsX2_zero_r4 : List Cond := [Cond.methodLink RX1 60 yX1_openToken, Cond.instanceMethod yX1_openToken, Cond.selects RX1 yX1_openToken yX1_openToken, Cond.code yX1_openToken cX1_openToken 5 none, Cond.fieldLink RX1 20 "Releaseledger$Version" "starts" "[[I", Cond.fieldLink RX1 23 "Releaseledger$Version" "sizes" "[[I", Cond.methodLink RX1 68 yX1_tokensIn, Cond.instanceMethod yX1_tokensIn, Cond.selects RX1 yX1_tokensIn yX1_tokensIn, Cond.code yX1_tokensIn cX1_tokensIn 2 (some .int), Cond.methodLink RX1 64 yX1_growToken, Cond.instanceMethod yX1_growToken, Cond.selects RX1 yX1_growToken yX1_growToken, Cond.code yX1_growToken cX1_growToken 6 none, Cond.methodLink RX1 72 yX1_hasToken, Cond.instanceMethod yX1_hasToken, Cond.selects RX1 yX1_hasToken yX1_hasToken, Cond.code yX1_hasToken cX1_hasToken 3 (some .boolean), Cond.methodLink RX2 135 yX1_orderTo, Cond.instanceMethod yX1_orderTo, Cond.selects RX1 yX1_orderTo yX1_orderTo, Cond.code yX1_orderTo cX1_orderTo 4 (some .int), Cond.methodLink RX1 76 yX1_orderOfRow, Cond.instanceMethod yX1_orderOfRow]
def wsX2_zero_r5 : List Cond := [Cond.selects RX1 yX1_orderOfRow yX1_orderOfRow, Cond.code yX1_orderOfRow cX1_orderOfRow 8 (some .int), Cond.methodLink RX1 84 Lib.Math.max.name, Cond.static Lib.Math.max.name, Cond.initialized "java/lang/Math", Cond.code Lib.Math.max.name Lib.Math.max.code 2 (some .int), Cond.methodLink RX1 80 yX1_hasRow, Cond.instanceMethod yX1_hasRow, Cond.selects RX1 yX1_hasRow yX1_hasRow, Cond.code yX1_hasRow cX1_hasRow 2 (some .boolean), Cond.methodLink RX1 90 yX1_sizeAt, Cond.instanceMethod yX1_sizeAt, Cond.selects RX1 yX1_sizeAt yX1_sizeAt, Cond.code yX1_sizeAt cX1_sizeAt 3 (some .int), Cond.methodLink RX1 93 yX1_orderOfWords, Cond.instanceMethod yX1_orderOfWords, Cond.selects RX1 yX1_orderOfWords yX1_orderOfWords, Cond.code yX1_orderOfWords cX1_orderOfWords 10 (some .int), Cond.methodLink RX1 103 yX1_startAt, Cond.instanceMethod yX1_startAt, Cond.selects RX1 yX1_startAt yX1_startAt, Cond.code yX1_startAt cX1_startAt 3 (some .int), Cond.static yX2_orderOfNumbers, Cond.code yX2_orderOfNumbers cX2_orderOfNumbers 2 (some .int)]
def wsX2_zero_r6 : List Cond := [Cond.methodLink RX1 97 yX1_orderOfSizes, Cond.static yX1_orderOfSizes, Cond.code yX1_orderOfSizes cX1_orderOfSizes 2 (some .int), Cond.methodLink RX2 103 yX2_exchangeSpare, Cond.instanceMethod yX2_exchangeSpare, Cond.selects RX2 yX2_exchangeSpare yX2_exchangeSpare, Cond.code yX2_exchangeSpare cX2_exchangeSpare 4 (some .int)]
def wsX2_zero : List Cond := .code yX2_zero cX2_zero 5 (some .boolean) :: ((wsX2_zero_r1 ++ (wsX2_zero_r2 ++ (wsX2_zero_r3 ++ (wsX2_zero_r4 ++ (wsX2_zero_r5 ++ wsX2_zero_r6))))) ++ wsX10 ++ wsX20 ++ wsX00 ++ (vx_atS RX2 130 "java/lang/IndexOutOfBoundsException" ["java/lang/RuntimeException", "java/lang/Exception"]).filter goodWord ++ (vx_atS RX2 164 "java/lang/IllegalStateException" ["java/lang/RuntimeException", "java/lang/Exception"]).filter goodWord)
def wsX2_longer_r1 : List Cond := [Cond.fieldLink RX2 33 "Releaseledger" "spare" "LReleaseledger$Version;", Cond.methodLink RX2 112 yX2_versionIn, Cond.instanceMethod yX2_versionIn, Cond.selects RX2 yX2_versionIn yX2_versionIn, Cond.initialized RX2, Cond.code yX2_versionIn cX2_versionIn 2 (some (.object "Releaseledger$Version")), Cond.fieldLink RX2 18 "Releaseledger" "slots" "[LReleaseledger$Version;", Cond.methodLink RX2 91 yX2_checkSlot, Cond.static yX2_checkSlot, Cond.code yX2_checkSlot cX2_checkSlot 1 none, Cond.classLink RX2 126 "java/lang/IndexOutOfBoundsException", Cond.initialized "java/lang/IndexOutOfBoundsException", Cond.methodLink RX2 38 yX2_checkNumber, Cond.static yX2_checkNumber, Cond.code yX2_checkNumber cX2_checkNumber 3 none, Cond.classLink RX2 73 "java/lang/IllegalArgumentException", Cond.initialized "java/lang/IllegalArgumentException", Cond.methodLink RX2 62 yX2_digitsOf, Cond.static yX2_digitsOf, Cond.code yX2_digitsOf cX2_digitsOf 3 (some .int), Cond.methodLink RX2 147 yX2_checkRoom, Cond.static yX2_checkRoom, Cond.code yX2_checkRoom cX2_checkRoom 2 none, Cond.classLink RX2 160 "java/lang/IllegalStateException"]
def wsX2_longer_r2 : List Cond := [Cond.initialized "java/lang/IllegalStateException", Cond.methodLink RX2 53 yX0_length, Cond.instanceMethod yX0_length, Cond.selects RX0 yX0_length yX0_length, Cond.initialized RX0, Cond.code yX0_length cX0_length 1 (some .int), Cond.fieldLink RX0 15 "Releaseledger$Text" "count" "I", Cond.methodLink RX2 150 yX2_parseWithNumberBehind, Cond.instanceMethod yX2_parseWithNumberBehind, Cond.selects RX2 yX2_parseWithNumberBehind yX2_parseWithNumberBehind, Cond.code yX2_parseWithNumberBehind cX2_parseWithNumberBehind 4 none, Cond.methodLink RX2 96 yX1_tell, Cond.instanceMethod yX1_tell, Cond.selects RX1 yX1_tell yX1_tell, Cond.initialized RX1, Cond.code yX1_tell cX1_tell 2 none, Cond.fieldLink RX1 12 "Releaseledger$Version" "told" "LReleaseledger$Text;", Cond.methodLink RX1 37 yX0_clear, Cond.instanceMethod yX0_clear, Cond.selects RX0 yX0_clear yX0_clear, Cond.code yX0_clear cX0_clear 1 none, Cond.methodLink RX1 40 yX0_putAll, Cond.instanceMethod yX0_putAll, Cond.selects RX0 yX0_putAll yX0_putAll]
def wsX2_longer_r3 : List Cond := [Cond.code yX0_putAll cX0_putAll 3 none, Cond.methodLink RX0 19 yX0_length, Cond.methodLink RX0 23 yX0_signAt, Cond.instanceMethod yX0_signAt, Cond.selects RX0 yX0_signAt yX0_signAt, Cond.code yX0_signAt cX0_signAt 2 (some .char), Cond.fieldLink RX0 9 "Releaseledger$Text" "signs" "[C", Cond.methodLink RX0 27 yX0_put, Cond.instanceMethod yX0_put, Cond.selects RX0 yX0_put yX0_put, Cond.code yX0_put cX0_put 2 none, Cond.methodLink RX2 109 yX0_put, Cond.methodLink RX2 49 yX0_putNumber, Cond.instanceMethod yX0_putNumber, Cond.selects RX0 yX0_putNumber yX0_putNumber, Cond.code yX0_putNumber cX0_putNumber 4 none, Cond.constant RX0 31 (100000000), Cond.methodLink RX2 100 yX1_readTokens, Cond.instanceMethod yX1_readTokens, Cond.selects RX1 yX1_readTokens yX1_readTokens, Cond.code yX1_readTokens cX1_readTokens 6 none, Cond.fieldLink RX1 26 "Releaseledger$Version" "counts" "[I", Cond.methodLink RX1 44 yX0_length, Cond.methodLink RX1 48 yX0_signAt]
def wsX2_longer_r4 : List Cond := [Cond.static yX2_kindOf, Cond.code yX2_kindOf cX2_kindOf 1 (some .int), Cond.methodLink RX1 56 yX1_rowBehind, Cond.static yX1_rowBehind, Cond.code yX1_rowBehind cX1_rowBehind 2 (some .int), Cond.methodLink RX1 60 yX1_openToken, Cond.instanceMethod yX1_openToken, Cond.selects RX1 yX1_openToken yX1_openToken, Cond.code yX1_openToken cX1_openToken 5 none, Cond.fieldLink RX1 20 "Releaseledger$Version" "starts" "[[I", Cond.fieldLink RX1 23 "Releaseledger$Version" "sizes" "[[I", Cond.methodLink RX1 68 yX1_tokensIn, Cond.instanceMethod yX1_tokensIn, Cond.selects RX1 yX1_tokensIn yX1_tokensIn, Cond.code yX1_tokensIn cX1_tokensIn 2 (some .int), Cond.methodLink RX1 64 yX1_growToken, Cond.instanceMethod yX1_growToken, Cond.selects RX1 yX1_growToken yX1_growToken, Cond.code yX1_growToken cX1_growToken 6 none, Cond.methodLink RX1 72 yX1_hasToken, Cond.instanceMethod yX1_hasToken, Cond.selects RX1 yX1_hasToken yX1_hasToken, Cond.code yX1_hasToken cX1_hasToken 3 (some .boolean), Cond.methodLink RX2 135 yX1_orderTo]
def wsX2_longer_r5 : List Cond := [Cond.instanceMethod yX1_orderTo, Cond.selects RX1 yX1_orderTo yX1_orderTo, Cond.code yX1_orderTo cX1_orderTo 4 (some .int), Cond.methodLink RX1 76 yX1_orderOfRow, Cond.instanceMethod yX1_orderOfRow, Cond.selects RX1 yX1_orderOfRow yX1_orderOfRow, Cond.code yX1_orderOfRow cX1_orderOfRow 8 (some .int), Cond.methodLink RX1 84 Lib.Math.max.name, Cond.static Lib.Math.max.name, Cond.initialized "java/lang/Math", Cond.code Lib.Math.max.name Lib.Math.max.code 2 (some .int), Cond.methodLink RX1 80 yX1_hasRow, Cond.instanceMethod yX1_hasRow, Cond.selects RX1 yX1_hasRow yX1_hasRow, Cond.code yX1_hasRow cX1_hasRow 2 (some .boolean), Cond.methodLink RX1 90 yX1_sizeAt, Cond.instanceMethod yX1_sizeAt, Cond.selects RX1 yX1_sizeAt yX1_sizeAt, Cond.code yX1_sizeAt cX1_sizeAt 3 (some .int), Cond.methodLink RX1 93 yX1_orderOfWords, Cond.instanceMethod yX1_orderOfWords, Cond.selects RX1 yX1_orderOfWords yX1_orderOfWords, Cond.code yX1_orderOfWords cX1_orderOfWords 10 (some .int), Cond.methodLink RX1 103 yX1_startAt]
def wsX2_longer_r6 : List Cond := [Cond.instanceMethod yX1_startAt, Cond.selects RX1 yX1_startAt yX1_startAt, Cond.code yX1_startAt cX1_startAt 3 (some .int), Cond.static yX2_orderOfNumbers, Cond.code yX2_orderOfNumbers cX2_orderOfNumbers 2 (some .int), Cond.methodLink RX1 97 yX1_orderOfSizes, Cond.static yX1_orderOfSizes, Cond.code yX1_orderOfSizes cX1_orderOfSizes 2 (some .int), Cond.methodLink RX2 103 yX2_exchangeSpare, Cond.instanceMethod yX2_exchangeSpare, Cond.selects RX2 yX2_exchangeSpare yX2_exchangeSpare, Cond.code yX2_exchangeSpare cX2_exchangeSpare 4 (some .int)]
def wsX2_longer : List Cond := .code yX2_longer cX2_longer 6 (some .boolean) :: ((wsX2_longer_r1 ++ (wsX2_longer_r2 ++ (wsX2_longer_r3 ++ (wsX2_longer_r4 ++ (wsX2_longer_r5 ++ wsX2_longer_r6))))) ++ wsX10 ++ wsX20 ++ wsX00 ++ (vx_atS RX2 130 "java/lang/IndexOutOfBoundsException" ["java/lang/RuntimeException", "java/lang/Exception"]).filter goodWord ++ (vx_atS RX2 77 "java/lang/IllegalArgumentException" ["java/lang/RuntimeException", "java/lang/Exception"]).filter goodWord ++ (vx_atS RX2 164 "java/lang/IllegalStateException" ["java/lang/RuntimeException", "java/lang/Exception"]).filter goodWord)
def wsX2_parseWithLetterBehind_r1 : List Cond := [Cond.fieldLink RX2 33 "Releaseledger" "spare" "LReleaseledger$Version;", Cond.methodLink RX2 96 yX1_tell, Cond.instanceMethod yX1_tell, Cond.selects RX1 yX1_tell yX1_tell, Cond.initialized RX1, Cond.code yX1_tell cX1_tell 2 none, Cond.fieldLink RX1 12 "Releaseledger$Version" "told" "LReleaseledger$Text;", Cond.methodLink RX1 37 yX0_clear, Cond.instanceMethod yX0_clear, Cond.selects RX0 yX0_clear yX0_clear, Cond.initialized RX0, Cond.code yX0_clear cX0_clear 1 none, Cond.fieldLink RX0 15 "Releaseledger$Text" "count" "I", Cond.methodLink RX1 40 yX0_putAll, Cond.instanceMethod yX0_putAll, Cond.selects RX0 yX0_putAll yX0_putAll, Cond.code yX0_putAll cX0_putAll 3 none, Cond.methodLink RX0 19 yX0_length, Cond.instanceMethod yX0_length, Cond.selects RX0 yX0_length yX0_length, Cond.code yX0_length cX0_length 1 (some .int), Cond.methodLink RX0 23 yX0_signAt, Cond.instanceMethod yX0_signAt, Cond.selects RX0 yX0_signAt yX0_signAt]
def wsX2_parseWithLetterBehind_r2 : List Cond := [Cond.code yX0_signAt cX0_signAt 2 (some .char), Cond.fieldLink RX0 9 "Releaseledger$Text" "signs" "[C", Cond.methodLink RX0 27 yX0_put, Cond.instanceMethod yX0_put, Cond.selects RX0 yX0_put yX0_put, Cond.code yX0_put cX0_put 2 none, Cond.methodLink RX2 109 yX0_put, Cond.methodLink RX2 100 yX1_readTokens, Cond.instanceMethod yX1_readTokens, Cond.selects RX1 yX1_readTokens yX1_readTokens, Cond.code yX1_readTokens cX1_readTokens 6 none, Cond.fieldLink RX1 26 "Releaseledger$Version" "counts" "[I", Cond.methodLink RX1 44 yX0_length, Cond.methodLink RX1 48 yX0_signAt, Cond.static yX2_kindOf, Cond.initialized RX2, Cond.code yX2_kindOf cX2_kindOf 1 (some .int), Cond.methodLink RX1 56 yX1_rowBehind, Cond.static yX1_rowBehind, Cond.code yX1_rowBehind cX1_rowBehind 2 (some .int), Cond.methodLink RX1 60 yX1_openToken, Cond.instanceMethod yX1_openToken, Cond.selects RX1 yX1_openToken yX1_openToken, Cond.code yX1_openToken cX1_openToken 5 none]
def wsX2_parseWithLetterBehind_r3 : List Cond := [Cond.fieldLink RX1 20 "Releaseledger$Version" "starts" "[[I", Cond.fieldLink RX1 23 "Releaseledger$Version" "sizes" "[[I", Cond.methodLink RX1 68 yX1_tokensIn, Cond.instanceMethod yX1_tokensIn, Cond.selects RX1 yX1_tokensIn yX1_tokensIn, Cond.code yX1_tokensIn cX1_tokensIn 2 (some .int), Cond.methodLink RX1 64 yX1_growToken, Cond.instanceMethod yX1_growToken, Cond.selects RX1 yX1_growToken yX1_growToken, Cond.code yX1_growToken cX1_growToken 6 none, Cond.methodLink RX1 72 yX1_hasToken, Cond.instanceMethod yX1_hasToken, Cond.selects RX1 yX1_hasToken yX1_hasToken, Cond.code yX1_hasToken cX1_hasToken 3 (some .boolean)]
def wsX2_parseWithLetterBehind : List Cond := .code yX2_parseWithLetterBehind cX2_parseWithLetterBehind 3 none :: ((wsX2_parseWithLetterBehind_r1 ++ (wsX2_parseWithLetterBehind_r2 ++ wsX2_parseWithLetterBehind_r3)) ++ wsX20 ++ wsX10 ++ wsX00)
def wsX2_early_r1 : List Cond := [Cond.classLink RX2 73 "java/lang/IllegalArgumentException", Cond.initialized "java/lang/IllegalArgumentException", Cond.classLink RX2 160 "java/lang/IllegalStateException", Cond.initialized "java/lang/IllegalStateException", Cond.fieldLink RX2 33 "Releaseledger" "spare" "LReleaseledger$Version;", Cond.methodLink RX2 112 yX2_versionIn, Cond.instanceMethod yX2_versionIn, Cond.selects RX2 yX2_versionIn yX2_versionIn, Cond.initialized RX2, Cond.code yX2_versionIn cX2_versionIn 2 (some (.object "Releaseledger$Version")), Cond.fieldLink RX2 18 "Releaseledger" "slots" "[LReleaseledger$Version;", Cond.methodLink RX2 91 yX2_checkSlot, Cond.static yX2_checkSlot, Cond.code yX2_checkSlot cX2_checkSlot 1 none, Cond.classLink RX2 126 "java/lang/IndexOutOfBoundsException", Cond.initialized "java/lang/IndexOutOfBoundsException", Cond.methodLink RX2 156 yX1_hasRow, Cond.instanceMethod yX1_hasRow, Cond.selects RX1 yX1_hasRow yX1_hasRow, Cond.initialized RX1, Cond.code yX1_hasRow cX1_hasRow 2 (some .boolean), Cond.methodLink RX1 68 yX1_tokensIn, Cond.instanceMethod yX1_tokensIn, Cond.selects RX1 yX1_tokensIn yX1_tokensIn]
def wsX2_early_r2 : List Cond := [Cond.code yX1_tokensIn cX1_tokensIn 2 (some .int), Cond.fieldLink RX1 26 "Releaseledger$Version" "counts" "[I", Cond.methodLink RX2 147 yX2_checkRoom, Cond.static yX2_checkRoom, Cond.code yX2_checkRoom cX2_checkRoom 2 none, Cond.methodLink RX2 53 yX0_length, Cond.instanceMethod yX0_length, Cond.selects RX0 yX0_length yX0_length, Cond.initialized RX0, Cond.code yX0_length cX0_length 1 (some .int), Cond.fieldLink RX0 15 "Releaseledger$Text" "count" "I", Cond.methodLink RX2 165 yX2_parseWithLetterBehind, Cond.instanceMethod yX2_parseWithLetterBehind, Cond.selects RX2 yX2_parseWithLetterBehind yX2_parseWithLetterBehind, Cond.code yX2_parseWithLetterBehind cX2_parseWithLetterBehind 3 none, Cond.methodLink RX2 96 yX1_tell, Cond.instanceMethod yX1_tell, Cond.selects RX1 yX1_tell yX1_tell, Cond.code yX1_tell cX1_tell 2 none, Cond.fieldLink RX1 12 "Releaseledger$Version" "told" "LReleaseledger$Text;", Cond.methodLink RX1 37 yX0_clear, Cond.instanceMethod yX0_clear, Cond.selects RX0 yX0_clear yX0_clear, Cond.code yX0_clear cX0_clear 1 none]
def wsX2_early_r3 : List Cond := [Cond.methodLink RX1 40 yX0_putAll, Cond.instanceMethod yX0_putAll, Cond.selects RX0 yX0_putAll yX0_putAll, Cond.code yX0_putAll cX0_putAll 3 none, Cond.methodLink RX0 19 yX0_length, Cond.methodLink RX0 23 yX0_signAt, Cond.instanceMethod yX0_signAt, Cond.selects RX0 yX0_signAt yX0_signAt, Cond.code yX0_signAt cX0_signAt 2 (some .char), Cond.fieldLink RX0 9 "Releaseledger$Text" "signs" "[C", Cond.methodLink RX0 27 yX0_put, Cond.instanceMethod yX0_put, Cond.selects RX0 yX0_put yX0_put, Cond.code yX0_put cX0_put 2 none, Cond.methodLink RX2 109 yX0_put, Cond.methodLink RX2 100 yX1_readTokens, Cond.instanceMethod yX1_readTokens, Cond.selects RX1 yX1_readTokens yX1_readTokens, Cond.code yX1_readTokens cX1_readTokens 6 none, Cond.methodLink RX1 44 yX0_length, Cond.methodLink RX1 48 yX0_signAt, Cond.static yX2_kindOf, Cond.code yX2_kindOf cX2_kindOf 1 (some .int), Cond.methodLink RX1 56 yX1_rowBehind]
def wsX2_early_r4 : List Cond := [Cond.static yX1_rowBehind, Cond.code yX1_rowBehind cX1_rowBehind 2 (some .int), Cond.methodLink RX1 60 yX1_openToken, Cond.instanceMethod yX1_openToken, Cond.selects RX1 yX1_openToken yX1_openToken, Cond.code yX1_openToken cX1_openToken 5 none, Cond.fieldLink RX1 20 "Releaseledger$Version" "starts" "[[I", Cond.fieldLink RX1 23 "Releaseledger$Version" "sizes" "[[I", Cond.methodLink RX1 64 yX1_growToken, Cond.instanceMethod yX1_growToken, Cond.selects RX1 yX1_growToken yX1_growToken, Cond.code yX1_growToken cX1_growToken 6 none, Cond.methodLink RX1 72 yX1_hasToken, Cond.instanceMethod yX1_hasToken, Cond.selects RX1 yX1_hasToken yX1_hasToken, Cond.code yX1_hasToken cX1_hasToken 3 (some .boolean), Cond.methodLink RX2 135 yX1_orderTo, Cond.instanceMethod yX1_orderTo, Cond.selects RX1 yX1_orderTo yX1_orderTo, Cond.code yX1_orderTo cX1_orderTo 4 (some .int), Cond.methodLink RX1 76 yX1_orderOfRow, Cond.instanceMethod yX1_orderOfRow, Cond.selects RX1 yX1_orderOfRow yX1_orderOfRow, Cond.code yX1_orderOfRow cX1_orderOfRow 8 (some .int)]
def wsX2_early_r5 : List Cond := [Cond.methodLink RX1 84 Lib.Math.max.name, Cond.static Lib.Math.max.name, Cond.initialized "java/lang/Math", Cond.code Lib.Math.max.name Lib.Math.max.code 2 (some .int), Cond.methodLink RX1 80 yX1_hasRow, Cond.methodLink RX1 90 yX1_sizeAt, Cond.instanceMethod yX1_sizeAt, Cond.selects RX1 yX1_sizeAt yX1_sizeAt, Cond.code yX1_sizeAt cX1_sizeAt 3 (some .int), Cond.methodLink RX1 93 yX1_orderOfWords, Cond.instanceMethod yX1_orderOfWords, Cond.selects RX1 yX1_orderOfWords yX1_orderOfWords, Cond.code yX1_orderOfWords cX1_orderOfWords 10 (some .int), Cond.methodLink RX1 103 yX1_startAt, Cond.instanceMethod yX1_startAt, Cond.selects RX1 yX1_startAt yX1_startAt, Cond.code yX1_startAt cX1_startAt 3 (some .int), Cond.static yX2_orderOfNumbers, Cond.code yX2_orderOfNumbers cX2_orderOfNumbers 2 (some .int), Cond.methodLink RX1 97 yX1_orderOfSizes, Cond.static yX1_orderOfSizes, Cond.code yX1_orderOfSizes cX1_orderOfSizes 2 (some .int), Cond.methodLink RX2 103 yX2_exchangeSpare, Cond.instanceMethod yX2_exchangeSpare]
def wsX2_early_r6 : List Cond := [Cond.selects RX2 yX2_exchangeSpare yX2_exchangeSpare, Cond.code yX2_exchangeSpare cX2_exchangeSpare 4 (some .int)]
def wsX2_early : List Cond := .code yX2_early cX2_early 6 (some .boolean) :: ((wsX2_early_r1 ++ (wsX2_early_r2 ++ (wsX2_early_r3 ++ (wsX2_early_r4 ++ (wsX2_early_r5 ++ wsX2_early_r6))))) ++ wsX10 ++ wsX20 ++ wsX00 ++ (vx_atS RX2 77 "java/lang/IllegalArgumentException" ["java/lang/RuntimeException", "java/lang/Exception"]).filter goodWord ++ (vx_atS RX2 164 "java/lang/IllegalStateException" ["java/lang/RuntimeException", "java/lang/Exception"]).filter goodWord ++ (vx_atS RX2 130 "java/lang/IndexOutOfBoundsException" ["java/lang/RuntimeException", "java/lang/Exception"]).filter goodWord)
def wsX2_built_r1 : List Cond := [Cond.classLink RX2 160 "java/lang/IllegalStateException", Cond.initialized "java/lang/IllegalStateException", Cond.fieldLink RX2 33 "Releaseledger" "spare" "LReleaseledger$Version;", Cond.methodLink RX2 112 yX2_versionIn, Cond.instanceMethod yX2_versionIn, Cond.selects RX2 yX2_versionIn yX2_versionIn, Cond.initialized RX2, Cond.code yX2_versionIn cX2_versionIn 2 (some (.object "Releaseledger$Version")), Cond.fieldLink RX2 18 "Releaseledger" "slots" "[LReleaseledger$Version;", Cond.methodLink RX2 91 yX2_checkSlot, Cond.static yX2_checkSlot, Cond.code yX2_checkSlot cX2_checkSlot 1 none, Cond.classLink RX2 126 "java/lang/IndexOutOfBoundsException", Cond.initialized "java/lang/IndexOutOfBoundsException", Cond.methodLink RX2 38 yX2_checkNumber, Cond.static yX2_checkNumber, Cond.code yX2_checkNumber cX2_checkNumber 3 none, Cond.classLink RX2 73 "java/lang/IllegalArgumentException", Cond.initialized "java/lang/IllegalArgumentException", Cond.methodLink RX2 156 yX1_hasRow, Cond.instanceMethod yX1_hasRow, Cond.selects RX1 yX1_hasRow yX1_hasRow, Cond.initialized RX1, Cond.code yX1_hasRow cX1_hasRow 2 (some .boolean)]
def wsX2_built_r2 : List Cond := [Cond.methodLink RX1 68 yX1_tokensIn, Cond.instanceMethod yX1_tokensIn, Cond.selects RX1 yX1_tokensIn yX1_tokensIn, Cond.code yX1_tokensIn cX1_tokensIn 2 (some .int), Cond.fieldLink RX1 26 "Releaseledger$Version" "counts" "[I", Cond.methodLink RX2 62 yX2_digitsOf, Cond.static yX2_digitsOf, Cond.code yX2_digitsOf cX2_digitsOf 3 (some .int), Cond.methodLink RX2 147 yX2_checkRoom, Cond.static yX2_checkRoom, Cond.code yX2_checkRoom cX2_checkRoom 2 none, Cond.methodLink RX2 53 yX0_length, Cond.instanceMethod yX0_length, Cond.selects RX0 yX0_length yX0_length, Cond.initialized RX0, Cond.code yX0_length cX0_length 1 (some .int), Cond.fieldLink RX0 15 "Releaseledger$Text" "count" "I", Cond.methodLink RX2 150 yX2_parseWithNumberBehind, Cond.instanceMethod yX2_parseWithNumberBehind, Cond.selects RX2 yX2_parseWithNumberBehind yX2_parseWithNumberBehind, Cond.code yX2_parseWithNumberBehind cX2_parseWithNumberBehind 4 none, Cond.methodLink RX2 96 yX1_tell, Cond.instanceMethod yX1_tell, Cond.selects RX1 yX1_tell yX1_tell]
def wsX2_built_r3 : List Cond := [Cond.code yX1_tell cX1_tell 2 none, Cond.fieldLink RX1 12 "Releaseledger$Version" "told" "LReleaseledger$Text;", Cond.methodLink RX1 37 yX0_clear, Cond.instanceMethod yX0_clear, Cond.selects RX0 yX0_clear yX0_clear, Cond.code yX0_clear cX0_clear 1 none, Cond.methodLink RX1 40 yX0_putAll, Cond.instanceMethod yX0_putAll, Cond.selects RX0 yX0_putAll yX0_putAll, Cond.code yX0_putAll cX0_putAll 3 none, Cond.methodLink RX0 19 yX0_length, Cond.methodLink RX0 23 yX0_signAt, Cond.instanceMethod yX0_signAt, Cond.selects RX0 yX0_signAt yX0_signAt, Cond.code yX0_signAt cX0_signAt 2 (some .char), Cond.fieldLink RX0 9 "Releaseledger$Text" "signs" "[C", Cond.methodLink RX0 27 yX0_put, Cond.instanceMethod yX0_put, Cond.selects RX0 yX0_put yX0_put, Cond.code yX0_put cX0_put 2 none, Cond.methodLink RX2 109 yX0_put, Cond.methodLink RX2 49 yX0_putNumber, Cond.instanceMethod yX0_putNumber, Cond.selects RX0 yX0_putNumber yX0_putNumber]
def wsX2_built_r4 : List Cond := [Cond.code yX0_putNumber cX0_putNumber 4 none, Cond.constant RX0 31 (100000000), Cond.methodLink RX2 100 yX1_readTokens, Cond.instanceMethod yX1_readTokens, Cond.selects RX1 yX1_readTokens yX1_readTokens, Cond.code yX1_readTokens cX1_readTokens 6 none, Cond.methodLink RX1 44 yX0_length, Cond.methodLink RX1 48 yX0_signAt, Cond.static yX2_kindOf, Cond.code yX2_kindOf cX2_kindOf 1 (some .int), Cond.methodLink RX1 56 yX1_rowBehind, Cond.static yX1_rowBehind, Cond.code yX1_rowBehind cX1_rowBehind 2 (some .int), Cond.methodLink RX1 60 yX1_openToken, Cond.instanceMethod yX1_openToken, Cond.selects RX1 yX1_openToken yX1_openToken, Cond.code yX1_openToken cX1_openToken 5 none, Cond.fieldLink RX1 20 "Releaseledger$Version" "starts" "[[I", Cond.fieldLink RX1 23 "Releaseledger$Version" "sizes" "[[I", Cond.methodLink RX1 64 yX1_growToken, Cond.instanceMethod yX1_growToken, Cond.selects RX1 yX1_growToken yX1_growToken, Cond.code yX1_growToken cX1_growToken 6 none, Cond.methodLink RX1 72 yX1_hasToken]
def wsX2_built_r5 : List Cond := [Cond.instanceMethod yX1_hasToken, Cond.selects RX1 yX1_hasToken yX1_hasToken, Cond.code yX1_hasToken cX1_hasToken 3 (some .boolean), Cond.methodLink RX2 135 yX1_orderTo, Cond.instanceMethod yX1_orderTo, Cond.selects RX1 yX1_orderTo yX1_orderTo, Cond.code yX1_orderTo cX1_orderTo 4 (some .int), Cond.methodLink RX1 76 yX1_orderOfRow, Cond.instanceMethod yX1_orderOfRow, Cond.selects RX1 yX1_orderOfRow yX1_orderOfRow, Cond.code yX1_orderOfRow cX1_orderOfRow 8 (some .int), Cond.methodLink RX1 84 Lib.Math.max.name, Cond.static Lib.Math.max.name, Cond.initialized "java/lang/Math", Cond.code Lib.Math.max.name Lib.Math.max.code 2 (some .int), Cond.methodLink RX1 80 yX1_hasRow, Cond.methodLink RX1 90 yX1_sizeAt, Cond.instanceMethod yX1_sizeAt, Cond.selects RX1 yX1_sizeAt yX1_sizeAt, Cond.code yX1_sizeAt cX1_sizeAt 3 (some .int), Cond.methodLink RX1 93 yX1_orderOfWords, Cond.instanceMethod yX1_orderOfWords, Cond.selects RX1 yX1_orderOfWords yX1_orderOfWords, Cond.code yX1_orderOfWords cX1_orderOfWords 10 (some .int)]
def wsX2_built_r6 : List Cond := [Cond.methodLink RX1 103 yX1_startAt, Cond.instanceMethod yX1_startAt, Cond.selects RX1 yX1_startAt yX1_startAt, Cond.code yX1_startAt cX1_startAt 3 (some .int), Cond.static yX2_orderOfNumbers, Cond.code yX2_orderOfNumbers cX2_orderOfNumbers 2 (some .int), Cond.methodLink RX1 97 yX1_orderOfSizes, Cond.static yX1_orderOfSizes, Cond.code yX1_orderOfSizes cX1_orderOfSizes 2 (some .int), Cond.methodLink RX2 103 yX2_exchangeSpare, Cond.instanceMethod yX2_exchangeSpare, Cond.selects RX2 yX2_exchangeSpare yX2_exchangeSpare, Cond.code yX2_exchangeSpare cX2_exchangeSpare 4 (some .int)]
def wsX2_built : List Cond := .code yX2_built cX2_built 6 (some .int) :: ((wsX2_built_r1 ++ (wsX2_built_r2 ++ (wsX2_built_r3 ++ (wsX2_built_r4 ++ (wsX2_built_r5 ++ wsX2_built_r6))))) ++ wsX10 ++ wsX20 ++ wsX00 ++ (vx_atS RX2 164 "java/lang/IllegalStateException" ["java/lang/RuntimeException", "java/lang/Exception"]).filter goodWord ++ (vx_atS RX2 130 "java/lang/IndexOutOfBoundsException" ["java/lang/RuntimeException", "java/lang/Exception"]).filter goodWord ++ (vx_atS RX2 77 "java/lang/IllegalArgumentException" ["java/lang/RuntimeException", "java/lang/Exception"]).filter goodWord)
def wsX2_isHashed_r1 : List Cond := [Cond.fieldLink RX2 33 "Releaseledger" "spare" "LReleaseledger$Version;", Cond.methodLink RX2 112 yX2_versionIn, Cond.instanceMethod yX2_versionIn, Cond.selects RX2 yX2_versionIn yX2_versionIn, Cond.initialized RX2, Cond.code yX2_versionIn cX2_versionIn 2 (some (.object "Releaseledger$Version")), Cond.fieldLink RX2 18 "Releaseledger" "slots" "[LReleaseledger$Version;", Cond.methodLink RX2 91 yX2_checkSlot, Cond.static yX2_checkSlot, Cond.code yX2_checkSlot cX2_checkSlot 1 none, Cond.classLink RX2 126 "java/lang/IndexOutOfBoundsException", Cond.initialized "java/lang/IndexOutOfBoundsException", Cond.methodLink RX2 116 yX2_parseAnew, Cond.instanceMethod yX2_parseAnew, Cond.selects RX2 yX2_parseAnew yX2_parseAnew, Cond.code yX2_parseAnew cX2_parseAnew 2 none, Cond.methodLink RX2 96 yX1_tell, Cond.instanceMethod yX1_tell, Cond.selects RX1 yX1_tell yX1_tell, Cond.initialized RX1, Cond.code yX1_tell cX1_tell 2 none, Cond.fieldLink RX1 12 "Releaseledger$Version" "told" "LReleaseledger$Text;", Cond.methodLink RX1 37 yX0_clear, Cond.instanceMethod yX0_clear]
def wsX2_isHashed_r2 : List Cond := [Cond.selects RX0 yX0_clear yX0_clear, Cond.initialized RX0, Cond.code yX0_clear cX0_clear 1 none, Cond.fieldLink RX0 15 "Releaseledger$Text" "count" "I", Cond.methodLink RX1 40 yX0_putAll, Cond.instanceMethod yX0_putAll, Cond.selects RX0 yX0_putAll yX0_putAll, Cond.code yX0_putAll cX0_putAll 3 none, Cond.methodLink RX0 19 yX0_length, Cond.instanceMethod yX0_length, Cond.selects RX0 yX0_length yX0_length, Cond.code yX0_length cX0_length 1 (some .int), Cond.methodLink RX0 23 yX0_signAt, Cond.instanceMethod yX0_signAt, Cond.selects RX0 yX0_signAt yX0_signAt, Cond.code yX0_signAt cX0_signAt 2 (some .char), Cond.fieldLink RX0 9 "Releaseledger$Text" "signs" "[C", Cond.methodLink RX0 27 yX0_put, Cond.instanceMethod yX0_put, Cond.selects RX0 yX0_put yX0_put, Cond.code yX0_put cX0_put 2 none, Cond.methodLink RX2 100 yX1_readTokens, Cond.instanceMethod yX1_readTokens, Cond.selects RX1 yX1_readTokens yX1_readTokens]
def wsX2_isHashed_r3 : List Cond := [Cond.code yX1_readTokens cX1_readTokens 6 none, Cond.fieldLink RX1 26 "Releaseledger$Version" "counts" "[I", Cond.methodLink RX1 44 yX0_length, Cond.methodLink RX1 48 yX0_signAt, Cond.static yX2_kindOf, Cond.code yX2_kindOf cX2_kindOf 1 (some .int), Cond.methodLink RX1 56 yX1_rowBehind, Cond.static yX1_rowBehind, Cond.code yX1_rowBehind cX1_rowBehind 2 (some .int), Cond.methodLink RX1 60 yX1_openToken, Cond.instanceMethod yX1_openToken, Cond.selects RX1 yX1_openToken yX1_openToken, Cond.code yX1_openToken cX1_openToken 5 none, Cond.fieldLink RX1 20 "Releaseledger$Version" "starts" "[[I", Cond.fieldLink RX1 23 "Releaseledger$Version" "sizes" "[[I", Cond.methodLink RX1 68 yX1_tokensIn, Cond.instanceMethod yX1_tokensIn, Cond.selects RX1 yX1_tokensIn yX1_tokensIn, Cond.code yX1_tokensIn cX1_tokensIn 2 (some .int), Cond.methodLink RX1 64 yX1_growToken, Cond.instanceMethod yX1_growToken, Cond.selects RX1 yX1_growToken yX1_growToken, Cond.code yX1_growToken cX1_growToken 6 none, Cond.methodLink RX1 72 yX1_hasToken]
def wsX2_isHashed_r4 : List Cond := [Cond.instanceMethod yX1_hasToken, Cond.selects RX1 yX1_hasToken yX1_hasToken, Cond.code yX1_hasToken cX1_hasToken 3 (some .boolean), Cond.methodLink RX2 171 yX0_hash, Cond.instanceMethod yX0_hash, Cond.selects RX0 yX0_hash yX0_hash, Cond.code yX0_hash cX0_hash 3 (some .int)]
def wsX2_isHashed : List Cond := .code yX2_isHashed cX2_isHashed 3 (some .boolean) :: ((wsX2_isHashed_r1 ++ (wsX2_isHashed_r2 ++ (wsX2_isHashed_r3 ++ wsX2_isHashed_r4))) ++ wsX20 ++ wsX10 ++ wsX00 ++ (vx_atS RX2 130 "java/lang/IndexOutOfBoundsException" ["java/lang/RuntimeException", "java/lang/Exception"]).filter goodWord)
def wsX2_wordShare : List Cond := .code yX2_wordShare cX2_wordShare 4 (some .float) :: ([.fieldLink RX2 18 "Releaseledger" "slots" "[LReleaseledger$Version;", .methodLink RX2 174 yX1_words, .instanceMethod yX1_words, .selects RX1 yX1_words yX1_words, .initialized RX1, .code yX1_words cX1_words 4 (some .int), .fieldLink RX1 26 "Releaseledger$Version" "counts" "[I", .fieldLink RX1 23 "Releaseledger$Version" "sizes" "[[I", .methodLink RX2 177 yX1_allTokens, .instanceMethod yX1_allTokens, .selects RX1 yX1_allTokens yX1_allTokens, .code yX1_allTokens cX1_allTokens 3 (some .int)] ++ wsX20 ++ wsX10)
def wsX2_checksum : List Cond := .code yX2_checksum cX2_checksum 4 (some .long) :: ([.fieldLink RX2 10 "Releaseledger" "draft" "LReleaseledger$Text;", .constantLong RX2 180 (23), .fieldLink RX2 18 "Releaseledger" "slots" "[LReleaseledger$Version;", .methodLink RX2 182 yX0_addTo, .instanceMethod yX0_addTo, .selects RX0 yX0_addTo yX0_addTo, .initialized RX0, .code yX0_addTo cX0_addTo 6 (some .long), .constantLong RX0 40 (31), .fieldLink RX0 15 "Releaseledger$Text" "count" "I", .methodLink RX0 23 yX0_signAt, .instanceMethod yX0_signAt, .selects RX0 yX0_signAt yX0_signAt, .code yX0_signAt cX0_signAt 2 (some .char), .fieldLink RX0 9 "Releaseledger$Text" "signs" "[C"] ++ wsX20 ++ wsX10 ++ wsX00)
def wsX2_fillOrders_r1 : List Cond := [Cond.fieldLink RX2 29 "Releaseledger" "orders" "[I", Cond.fieldLink RX2 18 "Releaseledger" "slots" "[LReleaseledger$Version;", Cond.methodLink RX2 135 yX1_orderTo, Cond.instanceMethod yX1_orderTo, Cond.selects RX1 yX1_orderTo yX1_orderTo, Cond.initialized RX1, Cond.code yX1_orderTo cX1_orderTo 4 (some .int), Cond.methodLink RX1 76 yX1_orderOfRow, Cond.instanceMethod yX1_orderOfRow, Cond.selects RX1 yX1_orderOfRow yX1_orderOfRow, Cond.code yX1_orderOfRow cX1_orderOfRow 8 (some .int), Cond.methodLink RX1 84 Lib.Math.max.name, Cond.static Lib.Math.max.name, Cond.initialized "java/lang/Math", Cond.code Lib.Math.max.name Lib.Math.max.code 2 (some .int), Cond.methodLink RX1 80 yX1_hasRow, Cond.instanceMethod yX1_hasRow, Cond.selects RX1 yX1_hasRow yX1_hasRow, Cond.code yX1_hasRow cX1_hasRow 2 (some .boolean), Cond.methodLink RX1 68 yX1_tokensIn, Cond.instanceMethod yX1_tokensIn, Cond.selects RX1 yX1_tokensIn yX1_tokensIn, Cond.code yX1_tokensIn cX1_tokensIn 2 (some .int), Cond.fieldLink RX1 26 "Releaseledger$Version" "counts" "[I"]
def wsX2_fillOrders_r2 : List Cond := [Cond.methodLink RX1 90 yX1_sizeAt, Cond.instanceMethod yX1_sizeAt, Cond.selects RX1 yX1_sizeAt yX1_sizeAt, Cond.code yX1_sizeAt cX1_sizeAt 3 (some .int), Cond.fieldLink RX1 23 "Releaseledger$Version" "sizes" "[[I", Cond.methodLink RX1 72 yX1_hasToken, Cond.instanceMethod yX1_hasToken, Cond.selects RX1 yX1_hasToken yX1_hasToken, Cond.code yX1_hasToken cX1_hasToken 3 (some .boolean), Cond.methodLink RX1 93 yX1_orderOfWords, Cond.instanceMethod yX1_orderOfWords, Cond.selects RX1 yX1_orderOfWords yX1_orderOfWords, Cond.code yX1_orderOfWords cX1_orderOfWords 10 (some .int), Cond.fieldLink RX1 12 "Releaseledger$Version" "told" "LReleaseledger$Text;", Cond.methodLink RX1 103 yX1_startAt, Cond.instanceMethod yX1_startAt, Cond.selects RX1 yX1_startAt yX1_startAt, Cond.code yX1_startAt cX1_startAt 3 (some .int), Cond.fieldLink RX1 20 "Releaseledger$Version" "starts" "[[I", Cond.methodLink RX1 48 yX0_signAt, Cond.instanceMethod yX0_signAt, Cond.selects RX0 yX0_signAt yX0_signAt, Cond.initialized RX0, Cond.code yX0_signAt cX0_signAt 2 (some .char)]
def wsX2_fillOrders_r3 : List Cond := [Cond.fieldLink RX0 15 "Releaseledger$Text" "count" "I", Cond.fieldLink RX0 9 "Releaseledger$Text" "signs" "[C", Cond.static yX2_orderOfNumbers, Cond.initialized RX2, Cond.code yX2_orderOfNumbers cX2_orderOfNumbers 2 (some .int), Cond.methodLink RX1 97 yX1_orderOfSizes, Cond.static yX1_orderOfSizes, Cond.code yX1_orderOfSizes cX1_orderOfSizes 2 (some .int)]
def wsX2_fillOrders : List Cond := .code yX2_fillOrders cX2_fillOrders 3 none :: ((wsX2_fillOrders_r1 ++ (wsX2_fillOrders_r2 ++ wsX2_fillOrders_r3)) ++ wsX20 ++ wsX10 ++ wsX00)
def wsX2_isTrueOfOne_r1 : List Cond := [Cond.fieldLink RX2 33 "Releaseledger" "spare" "LReleaseledger$Version;", Cond.methodLink RX2 116 yX2_parseAnew, Cond.instanceMethod yX2_parseAnew, Cond.selects RX2 yX2_parseAnew yX2_parseAnew, Cond.initialized RX2, Cond.code yX2_parseAnew cX2_parseAnew 2 none, Cond.methodLink RX2 96 yX1_tell, Cond.instanceMethod yX1_tell, Cond.selects RX1 yX1_tell yX1_tell, Cond.initialized RX1, Cond.code yX1_tell cX1_tell 2 none, Cond.fieldLink RX1 12 "Releaseledger$Version" "told" "LReleaseledger$Text;", Cond.methodLink RX1 37 yX0_clear, Cond.instanceMethod yX0_clear, Cond.selects RX0 yX0_clear yX0_clear, Cond.initialized RX0, Cond.code yX0_clear cX0_clear 1 none, Cond.fieldLink RX0 15 "Releaseledger$Text" "count" "I", Cond.methodLink RX1 40 yX0_putAll, Cond.instanceMethod yX0_putAll, Cond.selects RX0 yX0_putAll yX0_putAll, Cond.code yX0_putAll cX0_putAll 3 none, Cond.methodLink RX0 19 yX0_length, Cond.instanceMethod yX0_length]
def wsX2_isTrueOfOne_r2 : List Cond := [Cond.selects RX0 yX0_length yX0_length, Cond.code yX0_length cX0_length 1 (some .int), Cond.methodLink RX0 23 yX0_signAt, Cond.instanceMethod yX0_signAt, Cond.selects RX0 yX0_signAt yX0_signAt, Cond.code yX0_signAt cX0_signAt 2 (some .char), Cond.fieldLink RX0 9 "Releaseledger$Text" "signs" "[C", Cond.methodLink RX0 27 yX0_put, Cond.instanceMethod yX0_put, Cond.selects RX0 yX0_put yX0_put, Cond.code yX0_put cX0_put 2 none, Cond.methodLink RX2 100 yX1_readTokens, Cond.instanceMethod yX1_readTokens, Cond.selects RX1 yX1_readTokens yX1_readTokens, Cond.code yX1_readTokens cX1_readTokens 6 none, Cond.fieldLink RX1 26 "Releaseledger$Version" "counts" "[I", Cond.methodLink RX1 44 yX0_length, Cond.methodLink RX1 48 yX0_signAt, Cond.static yX2_kindOf, Cond.code yX2_kindOf cX2_kindOf 1 (some .int), Cond.methodLink RX1 56 yX1_rowBehind, Cond.static yX1_rowBehind, Cond.code yX1_rowBehind cX1_rowBehind 2 (some .int), Cond.methodLink RX1 60 yX1_openToken]
def wsX2_isTrueOfOne_r3 : List Cond := [Cond.instanceMethod yX1_openToken, Cond.selects RX1 yX1_openToken yX1_openToken, Cond.code yX1_openToken cX1_openToken 5 none, Cond.fieldLink RX1 20 "Releaseledger$Version" "starts" "[[I", Cond.fieldLink RX1 23 "Releaseledger$Version" "sizes" "[[I", Cond.methodLink RX1 68 yX1_tokensIn, Cond.instanceMethod yX1_tokensIn, Cond.selects RX1 yX1_tokensIn yX1_tokensIn, Cond.code yX1_tokensIn cX1_tokensIn 2 (some .int), Cond.methodLink RX1 64 yX1_growToken, Cond.instanceMethod yX1_growToken, Cond.selects RX1 yX1_growToken yX1_growToken, Cond.code yX1_growToken cX1_growToken 6 none, Cond.methodLink RX1 72 yX1_hasToken, Cond.instanceMethod yX1_hasToken, Cond.selects RX1 yX1_hasToken yX1_hasToken, Cond.code yX1_hasToken cX1_hasToken 3 (some .boolean), Cond.methodLink RX2 229 yX0_isLike, Cond.instanceMethod yX0_isLike, Cond.selects RX0 yX0_isLike yX0_isLike, Cond.code yX0_isLike cX0_isLike 3 (some .boolean), Cond.methodLink RX2 135 yX1_orderTo, Cond.instanceMethod yX1_orderTo, Cond.selects RX1 yX1_orderTo yX1_orderTo]
def wsX2_isTrueOfOne_r4 : List Cond := [Cond.code yX1_orderTo cX1_orderTo 4 (some .int), Cond.methodLink RX1 76 yX1_orderOfRow, Cond.instanceMethod yX1_orderOfRow, Cond.selects RX1 yX1_orderOfRow yX1_orderOfRow, Cond.code yX1_orderOfRow cX1_orderOfRow 8 (some .int), Cond.methodLink RX1 84 Lib.Math.max.name, Cond.static Lib.Math.max.name, Cond.initialized "java/lang/Math", Cond.code Lib.Math.max.name Lib.Math.max.code 2 (some .int), Cond.methodLink RX1 80 yX1_hasRow, Cond.instanceMethod yX1_hasRow, Cond.selects RX1 yX1_hasRow yX1_hasRow, Cond.code yX1_hasRow cX1_hasRow 2 (some .boolean), Cond.methodLink RX1 90 yX1_sizeAt, Cond.instanceMethod yX1_sizeAt, Cond.selects RX1 yX1_sizeAt yX1_sizeAt, Cond.code yX1_sizeAt cX1_sizeAt 3 (some .int), Cond.methodLink RX1 93 yX1_orderOfWords, Cond.instanceMethod yX1_orderOfWords, Cond.selects RX1 yX1_orderOfWords yX1_orderOfWords, Cond.code yX1_orderOfWords cX1_orderOfWords 10 (some .int), Cond.methodLink RX1 103 yX1_startAt, Cond.instanceMethod yX1_startAt, Cond.selects RX1 yX1_startAt yX1_startAt]
def wsX2_isTrueOfOne_r5 : List Cond := [Cond.code yX1_startAt cX1_startAt 3 (some .int), Cond.static yX2_orderOfNumbers, Cond.code yX2_orderOfNumbers cX2_orderOfNumbers 2 (some .int), Cond.methodLink RX1 97 yX1_orderOfSizes, Cond.static yX1_orderOfSizes, Cond.code yX1_orderOfSizes cX1_orderOfSizes 2 (some .int), Cond.methodLink RX2 53 yX0_length, Cond.methodLink RX2 150 yX2_parseWithNumberBehind, Cond.instanceMethod yX2_parseWithNumberBehind, Cond.selects RX2 yX2_parseWithNumberBehind yX2_parseWithNumberBehind, Cond.code yX2_parseWithNumberBehind cX2_parseWithNumberBehind 4 none, Cond.methodLink RX2 109 yX0_put, Cond.methodLink RX2 49 yX0_putNumber, Cond.instanceMethod yX0_putNumber, Cond.selects RX0 yX0_putNumber yX0_putNumber, Cond.code yX0_putNumber cX0_putNumber 4 none, Cond.constant RX0 31 (100000000), Cond.methodLink RX2 156 yX1_hasRow, Cond.methodLink RX2 165 yX2_parseWithLetterBehind, Cond.instanceMethod yX2_parseWithLetterBehind, Cond.selects RX2 yX2_parseWithLetterBehind yX2_parseWithLetterBehind, Cond.code yX2_parseWithLetterBehind cX2_parseWithLetterBehind 3 none]
def wsX2_isTrueOfOne : List Cond := .code yX2_isTrueOfOne cX2_isTrueOfOne 4 (some .boolean) :: ((wsX2_isTrueOfOne_r1 ++ (wsX2_isTrueOfOne_r2 ++ (wsX2_isTrueOfOne_r3 ++ (wsX2_isTrueOfOne_r4 ++ wsX2_isTrueOfOne_r5)))) ++ wsX20 ++ wsX10 ++ wsX00)
def wsX2_orderOf : List Cond := .code yX2_orderOf cX2_orderOf 3 (some .int) :: ([.fieldLink RX2 29 "Releaseledger" "orders" "[I", .methodLink RX2 91 yX2_checkSlot, .static yX2_checkSlot, .initialized RX2, .code yX2_checkSlot cX2_checkSlot 1 none, .classLink RX2 126 "java/lang/IndexOutOfBoundsException", .initialized "java/lang/IndexOutOfBoundsException"] ++ wsX20 ++ (vx_atS RX2 130 "java/lang/IndexOutOfBoundsException" ["java/lang/RuntimeException", "java/lang/Exception"]).filter goodWord)
def wsX2_isTrueOfTwo_r1 : List Cond := [Cond.methodLink RX2 197 yX2_orderOf, Cond.instanceMethod yX2_orderOf, Cond.selects RX2 yX2_orderOf yX2_orderOf, Cond.initialized RX2, Cond.code yX2_orderOf cX2_orderOf 3 (some .int), Cond.fieldLink RX2 29 "Releaseledger" "orders" "[I", Cond.methodLink RX2 91 yX2_checkSlot, Cond.static yX2_checkSlot, Cond.code yX2_checkSlot cX2_checkSlot 1 none, Cond.classLink RX2 126 "java/lang/IndexOutOfBoundsException", Cond.initialized "java/lang/IndexOutOfBoundsException", Cond.methodLink RX2 112 yX2_versionIn, Cond.instanceMethod yX2_versionIn, Cond.selects RX2 yX2_versionIn yX2_versionIn, Cond.code yX2_versionIn cX2_versionIn 2 (some (.object "Releaseledger$Version")), Cond.fieldLink RX2 18 "Releaseledger" "slots" "[LReleaseledger$Version;", Cond.methodLink RX2 139 yX1_tellingRow, Cond.instanceMethod yX1_tellingRow, Cond.selects RX1 yX1_tellingRow yX1_tellingRow, Cond.initialized RX1, Cond.code yX1_tellingRow cX1_tellingRow 3 (some .int), Cond.methodLink RX1 76 yX1_orderOfRow, Cond.instanceMethod yX1_orderOfRow, Cond.selects RX1 yX1_orderOfRow yX1_orderOfRow]
def wsX2_isTrueOfTwo_r2 : List Cond := [Cond.code yX1_orderOfRow cX1_orderOfRow 8 (some .int), Cond.methodLink RX1 84 Lib.Math.max.name, Cond.static Lib.Math.max.name, Cond.initialized "java/lang/Math", Cond.code Lib.Math.max.name Lib.Math.max.code 2 (some .int), Cond.methodLink RX1 80 yX1_hasRow, Cond.instanceMethod yX1_hasRow, Cond.selects RX1 yX1_hasRow yX1_hasRow, Cond.code yX1_hasRow cX1_hasRow 2 (some .boolean), Cond.methodLink RX1 68 yX1_tokensIn, Cond.instanceMethod yX1_tokensIn, Cond.selects RX1 yX1_tokensIn yX1_tokensIn, Cond.code yX1_tokensIn cX1_tokensIn 2 (some .int), Cond.fieldLink RX1 26 "Releaseledger$Version" "counts" "[I", Cond.methodLink RX1 90 yX1_sizeAt, Cond.instanceMethod yX1_sizeAt, Cond.selects RX1 yX1_sizeAt yX1_sizeAt, Cond.code yX1_sizeAt cX1_sizeAt 3 (some .int), Cond.fieldLink RX1 23 "Releaseledger$Version" "sizes" "[[I", Cond.methodLink RX1 72 yX1_hasToken, Cond.instanceMethod yX1_hasToken, Cond.selects RX1 yX1_hasToken yX1_hasToken, Cond.code yX1_hasToken cX1_hasToken 3 (some .boolean), Cond.methodLink RX1 93 yX1_orderOfWords]
def wsX2_isTrueOfTwo_r3 : List Cond := [Cond.instanceMethod yX1_orderOfWords, Cond.selects RX1 yX1_orderOfWords yX1_orderOfWords, Cond.code yX1_orderOfWords cX1_orderOfWords 10 (some .int), Cond.fieldLink RX1 12 "Releaseledger$Version" "told" "LReleaseledger$Text;", Cond.methodLink RX1 103 yX1_startAt, Cond.instanceMethod yX1_startAt, Cond.selects RX1 yX1_startAt yX1_startAt, Cond.code yX1_startAt cX1_startAt 3 (some .int), Cond.fieldLink RX1 20 "Releaseledger$Version" "starts" "[[I", Cond.methodLink RX1 48 yX0_signAt, Cond.instanceMethod yX0_signAt, Cond.selects RX0 yX0_signAt yX0_signAt, Cond.initialized RX0, Cond.code yX0_signAt cX0_signAt 2 (some .char), Cond.fieldLink RX0 15 "Releaseledger$Text" "count" "I", Cond.fieldLink RX0 9 "Releaseledger$Text" "signs" "[C", Cond.static yX2_orderOfNumbers, Cond.code yX2_orderOfNumbers cX2_orderOfNumbers 2 (some .int), Cond.methodLink RX1 97 yX1_orderOfSizes, Cond.static yX1_orderOfSizes, Cond.code yX1_orderOfSizes cX1_orderOfSizes 2 (some .int)]
def wsX2_isTrueOfTwo : List Cond := .code yX2_isTrueOfTwo cX2_isTrueOfTwo 5 (some .boolean) :: ((wsX2_isTrueOfTwo_r1 ++ (wsX2_isTrueOfTwo_r2 ++ wsX2_isTrueOfTwo_r3)) ++ wsX20 ++ wsX10 ++ wsX00 ++ (vx_atS RX2 130 "java/lang/IndexOutOfBoundsException" ["java/lang/RuntimeException", "java/lang/Exception"]).filter goodWord)
def wsX2_isTrueOfThree : List Cond := .code yX2_isTrueOfThree cX2_isTrueOfThree 3 (some .boolean) :: ([])
def wsX2_isTrue_r1 : List Cond := [Cond.fieldLink RX2 18 "Releaseledger" "slots" "[LReleaseledger$Version;", Cond.methodLink RX2 186 yX2_fillOrders, Cond.instanceMethod yX2_fillOrders, Cond.selects RX2 yX2_fillOrders yX2_fillOrders, Cond.initialized RX2, Cond.code yX2_fillOrders cX2_fillOrders 3 none, Cond.fieldLink RX2 29 "Releaseledger" "orders" "[I", Cond.methodLink RX2 135 yX1_orderTo, Cond.instanceMethod yX1_orderTo, Cond.selects RX1 yX1_orderTo yX1_orderTo, Cond.initialized RX1, Cond.code yX1_orderTo cX1_orderTo 4 (some .int), Cond.methodLink RX1 76 yX1_orderOfRow, Cond.instanceMethod yX1_orderOfRow, Cond.selects RX1 yX1_orderOfRow yX1_orderOfRow, Cond.code yX1_orderOfRow cX1_orderOfRow 8 (some .int), Cond.methodLink RX1 84 Lib.Math.max.name, Cond.static Lib.Math.max.name, Cond.initialized "java/lang/Math", Cond.code Lib.Math.max.name Lib.Math.max.code 2 (some .int), Cond.methodLink RX1 80 yX1_hasRow, Cond.instanceMethod yX1_hasRow, Cond.selects RX1 yX1_hasRow yX1_hasRow, Cond.code yX1_hasRow cX1_hasRow 2 (some .boolean)]
def wsX2_isTrue_r2 : List Cond := [Cond.methodLink RX1 68 yX1_tokensIn, Cond.instanceMethod yX1_tokensIn, Cond.selects RX1 yX1_tokensIn yX1_tokensIn, Cond.code yX1_tokensIn cX1_tokensIn 2 (some .int), Cond.fieldLink RX1 26 "Releaseledger$Version" "counts" "[I", Cond.methodLink RX1 90 yX1_sizeAt, Cond.instanceMethod yX1_sizeAt, Cond.selects RX1 yX1_sizeAt yX1_sizeAt, Cond.code yX1_sizeAt cX1_sizeAt 3 (some .int), Cond.fieldLink RX1 23 "Releaseledger$Version" "sizes" "[[I", Cond.methodLink RX1 72 yX1_hasToken, Cond.instanceMethod yX1_hasToken, Cond.selects RX1 yX1_hasToken yX1_hasToken, Cond.code yX1_hasToken cX1_hasToken 3 (some .boolean), Cond.methodLink RX1 93 yX1_orderOfWords, Cond.instanceMethod yX1_orderOfWords, Cond.selects RX1 yX1_orderOfWords yX1_orderOfWords, Cond.code yX1_orderOfWords cX1_orderOfWords 10 (some .int), Cond.fieldLink RX1 12 "Releaseledger$Version" "told" "LReleaseledger$Text;", Cond.methodLink RX1 103 yX1_startAt, Cond.instanceMethod yX1_startAt, Cond.selects RX1 yX1_startAt yX1_startAt, Cond.code yX1_startAt cX1_startAt 3 (some .int), Cond.fieldLink RX1 20 "Releaseledger$Version" "starts" "[[I"]
def wsX2_isTrue_r3 : List Cond := [Cond.methodLink RX1 48 yX0_signAt, Cond.instanceMethod yX0_signAt, Cond.selects RX0 yX0_signAt yX0_signAt, Cond.initialized RX0, Cond.code yX0_signAt cX0_signAt 2 (some .char), Cond.fieldLink RX0 15 "Releaseledger$Text" "count" "I", Cond.fieldLink RX0 9 "Releaseledger$Text" "signs" "[C", Cond.static yX2_orderOfNumbers, Cond.code yX2_orderOfNumbers cX2_orderOfNumbers 2 (some .int), Cond.methodLink RX1 97 yX1_orderOfSizes, Cond.static yX1_orderOfSizes, Cond.code yX1_orderOfSizes cX1_orderOfSizes 2 (some .int), Cond.methodLink RX2 189 yX2_isTrueOfOne, Cond.instanceMethod yX2_isTrueOfOne, Cond.selects RX2 yX2_isTrueOfOne yX2_isTrueOfOne, Cond.code yX2_isTrueOfOne cX2_isTrueOfOne 4 (some .boolean), Cond.fieldLink RX2 33 "Releaseledger" "spare" "LReleaseledger$Version;", Cond.methodLink RX2 116 yX2_parseAnew, Cond.instanceMethod yX2_parseAnew, Cond.selects RX2 yX2_parseAnew yX2_parseAnew, Cond.code yX2_parseAnew cX2_parseAnew 2 none, Cond.methodLink RX2 96 yX1_tell, Cond.instanceMethod yX1_tell, Cond.selects RX1 yX1_tell yX1_tell]
def wsX2_isTrue_r4 : List Cond := [Cond.code yX1_tell cX1_tell 2 none, Cond.methodLink RX1 37 yX0_clear, Cond.instanceMethod yX0_clear, Cond.selects RX0 yX0_clear yX0_clear, Cond.code yX0_clear cX0_clear 1 none, Cond.methodLink RX1 40 yX0_putAll, Cond.instanceMethod yX0_putAll, Cond.selects RX0 yX0_putAll yX0_putAll, Cond.code yX0_putAll cX0_putAll 3 none, Cond.methodLink RX0 19 yX0_length, Cond.instanceMethod yX0_length, Cond.selects RX0 yX0_length yX0_length, Cond.code yX0_length cX0_length 1 (some .int), Cond.methodLink RX0 23 yX0_signAt, Cond.methodLink RX0 27 yX0_put, Cond.instanceMethod yX0_put, Cond.selects RX0 yX0_put yX0_put, Cond.code yX0_put cX0_put 2 none, Cond.methodLink RX2 100 yX1_readTokens, Cond.instanceMethod yX1_readTokens, Cond.selects RX1 yX1_readTokens yX1_readTokens, Cond.code yX1_readTokens cX1_readTokens 6 none, Cond.methodLink RX1 44 yX0_length, Cond.static yX2_kindOf]
def wsX2_isTrue_r5 : List Cond := [Cond.code yX2_kindOf cX2_kindOf 1 (some .int), Cond.methodLink RX1 56 yX1_rowBehind, Cond.static yX1_rowBehind, Cond.code yX1_rowBehind cX1_rowBehind 2 (some .int), Cond.methodLink RX1 60 yX1_openToken, Cond.instanceMethod yX1_openToken, Cond.selects RX1 yX1_openToken yX1_openToken, Cond.code yX1_openToken cX1_openToken 5 none, Cond.methodLink RX1 64 yX1_growToken, Cond.instanceMethod yX1_growToken, Cond.selects RX1 yX1_growToken yX1_growToken, Cond.code yX1_growToken cX1_growToken 6 none, Cond.methodLink RX2 229 yX0_isLike, Cond.instanceMethod yX0_isLike, Cond.selects RX0 yX0_isLike yX0_isLike, Cond.code yX0_isLike cX0_isLike 3 (some .boolean), Cond.methodLink RX2 53 yX0_length, Cond.methodLink RX2 150 yX2_parseWithNumberBehind, Cond.instanceMethod yX2_parseWithNumberBehind, Cond.selects RX2 yX2_parseWithNumberBehind yX2_parseWithNumberBehind, Cond.code yX2_parseWithNumberBehind cX2_parseWithNumberBehind 4 none, Cond.methodLink RX2 109 yX0_put, Cond.methodLink RX2 49 yX0_putNumber, Cond.instanceMethod yX0_putNumber]
def wsX2_isTrue_r6 : List Cond := [Cond.selects RX0 yX0_putNumber yX0_putNumber, Cond.code yX0_putNumber cX0_putNumber 4 none, Cond.constant RX0 31 (100000000), Cond.methodLink RX2 156 yX1_hasRow, Cond.methodLink RX2 165 yX2_parseWithLetterBehind, Cond.instanceMethod yX2_parseWithLetterBehind, Cond.selects RX2 yX2_parseWithLetterBehind yX2_parseWithLetterBehind, Cond.code yX2_parseWithLetterBehind cX2_parseWithLetterBehind 3 none, Cond.methodLink RX2 193 yX2_isTrueOfTwo, Cond.instanceMethod yX2_isTrueOfTwo, Cond.selects RX2 yX2_isTrueOfTwo yX2_isTrueOfTwo, Cond.code yX2_isTrueOfTwo cX2_isTrueOfTwo 5 (some .boolean), Cond.methodLink RX2 197 yX2_orderOf, Cond.instanceMethod yX2_orderOf, Cond.selects RX2 yX2_orderOf yX2_orderOf, Cond.code yX2_orderOf cX2_orderOf 3 (some .int), Cond.methodLink RX2 91 yX2_checkSlot, Cond.static yX2_checkSlot, Cond.code yX2_checkSlot cX2_checkSlot 1 none, Cond.classLink RX2 126 "java/lang/IndexOutOfBoundsException", Cond.initialized "java/lang/IndexOutOfBoundsException", Cond.methodLink RX2 112 yX2_versionIn, Cond.instanceMethod yX2_versionIn, Cond.selects RX2 yX2_versionIn yX2_versionIn]
def wsX2_isTrue_r7 : List Cond := [Cond.code yX2_versionIn cX2_versionIn 2 (some (.object "Releaseledger$Version")), Cond.methodLink RX2 139 yX1_tellingRow, Cond.instanceMethod yX1_tellingRow, Cond.selects RX1 yX1_tellingRow yX1_tellingRow, Cond.code yX1_tellingRow cX1_tellingRow 3 (some .int), Cond.methodLink RX2 200 yX2_isTrueOfThree, Cond.static yX2_isTrueOfThree, Cond.code yX2_isTrueOfThree cX2_isTrueOfThree 3 (some .boolean)]
def wsX2_isTrue : List Cond := .code yX2_isTrue cX2_isTrue 4 (some .boolean) :: ((wsX2_isTrue_r1 ++ (wsX2_isTrue_r2 ++ (wsX2_isTrue_r3 ++ (wsX2_isTrue_r4 ++ (wsX2_isTrue_r5 ++ (wsX2_isTrue_r6 ++ wsX2_isTrue_r7)))))) ++ wsX20 ++ wsX10 ++ wsX00 ++ (vx_atS RX2 130 "java/lang/IndexOutOfBoundsException" ["java/lang/RuntimeException", "java/lang/Exception"]).filter goodWord)
def wsX3_init : List Cond := .code yX3_init cX3_init 2 none :: ([.methodLink RX3 1 objectInit, .instanceMethod objectInit, .code objectInit ⟨#[0xb1]⟩ 1 none, .arrayClass .char, .fieldLink RX3 9 "ReleaseledgerModel" "draft" "[C", .classLink RX3 13 "[[C", .fieldLink RX3 15 "ReleaseledgerModel" "texts" "[[C", .arrayClass .int, .fieldLink RX3 18 "ReleaseledgerModel" "sizes" "[I", .classLink RX3 22 "[C", .fieldLink RX3 23 "ReleaseledgerModel" "seen" "[[C", .classLink RX3 26 "[[I", .fieldLink RX3 28 "ReleaseledgerModel" "many" "[[I", .fieldLink RX3 33 "ReleaseledgerModel" "starts" "[[[I", .fieldLink RX3 36 "ReleaseledgerModel" "ends" "[[[I"] ++ wsX30)
def wsX3_thrown : List Cond := .code yX3_thrown cX3_thrown 1 (some .int) :: ([.fieldLink RX3 39 "ReleaseledgerModel" "thrown" "I"] ++ wsX30)
def wsX3_no : List Cond := .code yX3_no cX3_no 3 (some .boolean) :: ([.fieldLink RX3 39 "ReleaseledgerModel" "thrown" "I"] ++ wsX30)
def wsX3_in : List Cond := .code yX3_in cX3_in 3 (some .boolean) :: ([])
def wsX3_isSlot : List Cond := .code yX3_isSlot cX3_isSlot 1 (some .boolean) :: ([.methodLink RX3 43 yX3_in, .static yX3_in, .initialized RX3, .code yX3_in cX3_in 3 (some .boolean)])
def wsX3_isDigit : List Cond := .code yX3_isDigit cX3_isDigit 1 (some .boolean) :: ([])
def wsX3_isPoint : List Cond := .code yX3_isPoint cX3_isPoint 1 (some .boolean) :: ([])
def wsX3_look : List Cond := .code yX3_look cX3_look 8 none :: ([.fieldLink RX3 23 "ReleaseledgerModel" "seen" "[[C", .fieldLink RX3 28 "ReleaseledgerModel" "many" "[[I", .fieldLink RX3 33 "ReleaseledgerModel" "starts" "[[[I", .fieldLink RX3 36 "ReleaseledgerModel" "ends" "[[[I", .methodLink RX3 47 yX3_isPoint, .static yX3_isPoint, .initialized RX3, .code yX3_isPoint cX3_isPoint 1 (some .boolean), .methodLink RX3 51 yX3_isDigit, .static yX3_isDigit, .code yX3_isDigit cX3_isDigit 1 (some .boolean)] ++ wsX30)
def wsX3_look_ : List Cond := .code yX3_look_ cX3_look_ 3 none :: ([.fieldLink RX3 15 "ReleaseledgerModel" "texts" "[[C", .fieldLink RX3 18 "ReleaseledgerModel" "sizes" "[I", .methodLink RX3 54 yX3_look, .instanceMethod yX3_look, .selects RX3 yX3_look yX3_look, .initialized RX3, .code yX3_look cX3_look 8 none, .fieldLink RX3 23 "ReleaseledgerModel" "seen" "[[C", .fieldLink RX3 28 "ReleaseledgerModel" "many" "[[I", .fieldLink RX3 33 "ReleaseledgerModel" "starts" "[[[I", .fieldLink RX3 36 "ReleaseledgerModel" "ends" "[[[I", .methodLink RX3 47 yX3_isPoint, .static yX3_isPoint, .code yX3_isPoint cX3_isPoint 1 (some .boolean), .methodLink RX3 51 yX3_isDigit, .static yX3_isDigit, .code yX3_isDigit cX3_isDigit 1 (some .boolean)] ++ wsX30)
def wsX3_isNumber : List Cond := .code yX3_isNumber cX3_isNumber 4 (some .boolean) :: ([.fieldLink RX3 28 "ReleaseledgerModel" "many" "[[I", .fieldLink RX3 23 "ReleaseledgerModel" "seen" "[[C", .fieldLink RX3 33 "ReleaseledgerModel" "starts" "[[[I", .methodLink RX3 51 yX3_isDigit, .static yX3_isDigit, .initialized RX3, .code yX3_isDigit cX3_isDigit 1 (some .boolean)] ++ wsX30)
def wsX3_number : List Cond := .code yX3_number cX3_number 6 (some .int) :: ([.fieldLink RX3 28 "ReleaseledgerModel" "many" "[[I", .fieldLink RX3 33 "ReleaseledgerModel" "starts" "[[[I", .fieldLink RX3 36 "ReleaseledgerModel" "ends" "[[[I", .fieldLink RX3 23 "ReleaseledgerModel" "seen" "[[C"] ++ wsX30)
def wsX3_words : List Cond := .code yX3_words cX3_words 8 (some .int) :: ([.fieldLink RX3 36 "ReleaseledgerModel" "ends" "[[[I", .fieldLink RX3 33 "ReleaseledgerModel" "starts" "[[[I", .fieldLink RX3 23 "ReleaseledgerModel" "seen" "[[C"] ++ wsX30)
def wsX3_rows : List Cond := .code yX3_rows cX3_rows 7 (some .int) :: ([.fieldLink RX3 28 "ReleaseledgerModel" "many" "[[I", .methodLink RX3 58 yX3_isNumber, .instanceMethod yX3_isNumber, .selects RX3 yX3_isNumber yX3_isNumber, .initialized RX3, .code yX3_isNumber cX3_isNumber 4 (some .boolean), .fieldLink RX3 23 "ReleaseledgerModel" "seen" "[[C", .fieldLink RX3 33 "ReleaseledgerModel" "starts" "[[[I", .methodLink RX3 51 yX3_isDigit, .static yX3_isDigit, .code yX3_isDigit cX3_isDigit 1 (some .boolean), .methodLink RX3 61 yX3_number, .instanceMethod yX3_number, .selects RX3 yX3_number yX3_number, .code yX3_number cX3_number 6 (some .int), .fieldLink RX3 36 "ReleaseledgerModel" "ends" "[[[I", .methodLink RX3 65 yX3_words, .instanceMethod yX3_words, .selects RX3 yX3_words yX3_words, .code yX3_words cX3_words 8 (some .int)] ++ wsX30)
def wsX3_judged_r1 : List Cond := [Cond.arrayClass .int, Cond.fieldLink RX3 28 "ReleaseledgerModel" "many" "[[I", Cond.methodLink RX3 69 yX3_rows, Cond.instanceMethod yX3_rows, Cond.selects RX3 yX3_rows yX3_rows, Cond.initialized RX3, Cond.code yX3_rows cX3_rows 7 (some .int), Cond.methodLink RX3 58 yX3_isNumber, Cond.instanceMethod yX3_isNumber, Cond.selects RX3 yX3_isNumber yX3_isNumber, Cond.code yX3_isNumber cX3_isNumber 4 (some .boolean), Cond.fieldLink RX3 23 "ReleaseledgerModel" "seen" "[[C", Cond.fieldLink RX3 33 "ReleaseledgerModel" "starts" "[[[I", Cond.methodLink RX3 51 yX3_isDigit, Cond.static yX3_isDigit, Cond.code yX3_isDigit cX3_isDigit 1 (some .boolean), Cond.methodLink RX3 61 yX3_number, Cond.instanceMethod yX3_number, Cond.selects RX3 yX3_number yX3_number, Cond.code yX3_number cX3_number 6 (some .int), Cond.fieldLink RX3 36 "ReleaseledgerModel" "ends" "[[[I", Cond.methodLink RX3 65 yX3_words, Cond.instanceMethod yX3_words, Cond.selects RX3 yX3_words yX3_words]
def wsX3_judged_r2 : List Cond := [Cond.code yX3_words cX3_words 8 (some .int)]
def wsX3_judged : List Cond := .code yX3_judged cX3_judged 2 (some (.array .int)) :: ((wsX3_judged_r1 ++ wsX3_judged_r2) ++ wsX30)
def wsX3_order_r1 : List Cond := [Cond.methodLink RX3 73 yX3_look_, Cond.instanceMethod yX3_look_, Cond.selects RX3 yX3_look_ yX3_look_, Cond.initialized RX3, Cond.code yX3_look_ cX3_look_ 3 none, Cond.fieldLink RX3 15 "ReleaseledgerModel" "texts" "[[C", Cond.fieldLink RX3 18 "ReleaseledgerModel" "sizes" "[I", Cond.methodLink RX3 54 yX3_look, Cond.instanceMethod yX3_look, Cond.selects RX3 yX3_look yX3_look, Cond.code yX3_look cX3_look 8 none, Cond.fieldLink RX3 23 "ReleaseledgerModel" "seen" "[[C", Cond.fieldLink RX3 28 "ReleaseledgerModel" "many" "[[I", Cond.fieldLink RX3 33 "ReleaseledgerModel" "starts" "[[[I", Cond.fieldLink RX3 36 "ReleaseledgerModel" "ends" "[[[I", Cond.methodLink RX3 47 yX3_isPoint, Cond.static yX3_isPoint, Cond.code yX3_isPoint cX3_isPoint 1 (some .boolean), Cond.methodLink RX3 51 yX3_isDigit, Cond.static yX3_isDigit, Cond.code yX3_isDigit cX3_isDigit 1 (some .boolean), Cond.methodLink RX3 76 yX3_judged, Cond.instanceMethod yX3_judged, Cond.selects RX3 yX3_judged yX3_judged]
def wsX3_order_r2 : List Cond := [Cond.code yX3_judged cX3_judged 2 (some (.array .int)), Cond.arrayClass .int, Cond.methodLink RX3 69 yX3_rows, Cond.instanceMethod yX3_rows, Cond.selects RX3 yX3_rows yX3_rows, Cond.code yX3_rows cX3_rows 7 (some .int), Cond.methodLink RX3 58 yX3_isNumber, Cond.instanceMethod yX3_isNumber, Cond.selects RX3 yX3_isNumber yX3_isNumber, Cond.code yX3_isNumber cX3_isNumber 4 (some .boolean), Cond.methodLink RX3 61 yX3_number, Cond.instanceMethod yX3_number, Cond.selects RX3 yX3_number yX3_number, Cond.code yX3_number cX3_number 6 (some .int), Cond.methodLink RX3 65 yX3_words, Cond.instanceMethod yX3_words, Cond.selects RX3 yX3_words yX3_words, Cond.code yX3_words cX3_words 8 (some .int)]
def wsX3_order : List Cond := .code yX3_order cX3_order 3 (some .int) :: ((wsX3_order_r1 ++ wsX3_order_r2) ++ wsX30)
def wsX3_lay_r1 : List Cond := [Cond.arrayClass .char, Cond.fieldLink RX3 15 "ReleaseledgerModel" "texts" "[[C", Cond.fieldLink RX3 18 "ReleaseledgerModel" "sizes" "[I", Cond.methodLink RX3 54 yX3_look, Cond.instanceMethod yX3_look, Cond.selects RX3 yX3_look yX3_look, Cond.initialized RX3, Cond.code yX3_look cX3_look 8 none, Cond.fieldLink RX3 23 "ReleaseledgerModel" "seen" "[[C", Cond.fieldLink RX3 28 "ReleaseledgerModel" "many" "[[I", Cond.fieldLink RX3 33 "ReleaseledgerModel" "starts" "[[[I", Cond.fieldLink RX3 36 "ReleaseledgerModel" "ends" "[[[I", Cond.methodLink RX3 47 yX3_isPoint, Cond.static yX3_isPoint, Cond.code yX3_isPoint cX3_isPoint 1 (some .boolean), Cond.methodLink RX3 51 yX3_isDigit, Cond.static yX3_isDigit, Cond.code yX3_isDigit cX3_isDigit 1 (some .boolean), Cond.methodLink RX3 73 yX3_look_, Cond.instanceMethod yX3_look_, Cond.selects RX3 yX3_look_ yX3_look_, Cond.code yX3_look_ cX3_look_ 3 none, Cond.methodLink RX3 76 yX3_judged, Cond.instanceMethod yX3_judged]
def wsX3_lay_r2 : List Cond := [Cond.selects RX3 yX3_judged yX3_judged, Cond.code yX3_judged cX3_judged 2 (some (.array .int)), Cond.arrayClass .int, Cond.methodLink RX3 69 yX3_rows, Cond.instanceMethod yX3_rows, Cond.selects RX3 yX3_rows yX3_rows, Cond.code yX3_rows cX3_rows 7 (some .int), Cond.methodLink RX3 58 yX3_isNumber, Cond.instanceMethod yX3_isNumber, Cond.selects RX3 yX3_isNumber yX3_isNumber, Cond.code yX3_isNumber cX3_isNumber 4 (some .boolean), Cond.methodLink RX3 61 yX3_number, Cond.instanceMethod yX3_number, Cond.selects RX3 yX3_number yX3_number, Cond.code yX3_number cX3_number 6 (some .int), Cond.methodLink RX3 65 yX3_words, Cond.instanceMethod yX3_words, Cond.selects RX3 yX3_words yX3_words, Cond.code yX3_words cX3_words 8 (some .int)]
def wsX3_lay : List Cond := .code yX3_lay cX3_lay 7 (some .int) :: ((wsX3_lay_r1 ++ wsX3_lay_r2) ++ wsX30)
def wsX3_length : List Cond := .code yX3_length cX3_length 3 (some .int) :: ([])
def wsX3_digits : List Cond := .code yX3_digits cX3_digits 7 (some .int) :: ([.methodLink RX3 80 yX3_length, .static yX3_length, .initialized RX3, .code yX3_length cX3_length 3 (some .int)])
def wsX3_begin : List Cond := .code yX3_begin cX3_begin 3 (some .int) :: ([.constant RX3 83 (999999), .fieldLink RX3 9 "ReleaseledgerModel" "draft" "[C", .fieldLink RX3 92 "ReleaseledgerModel" "draftSize" "I", .methodLink RX3 43 yX3_in, .static yX3_in, .initialized RX3, .code yX3_in cX3_in 3 (some .boolean), .methodLink RX3 84 yX3_no, .instanceMethod yX3_no, .selects RX3 yX3_no yX3_no, .code yX3_no cX3_no 3 (some .boolean), .fieldLink RX3 39 "ReleaseledgerModel" "thrown" "I", .methodLink RX3 88 yX3_digits, .static yX3_digits, .code yX3_digits cX3_digits 7 (some .int), .methodLink RX3 80 yX3_length, .static yX3_length, .code yX3_length cX3_length 3 (some .int)] ++ wsX30)
def wsX3_isWay : List Cond := .code yX3_isWay cX3_isWay 1 (some .boolean) :: ([.methodLink RX3 47 yX3_isPoint, .static yX3_isPoint, .initialized RX3, .code yX3_isPoint cX3_isPoint 1 (some .boolean)])
def wsX3_isJoined : List Cond := .code yX3_isJoined cX3_isJoined 6 (some .boolean) :: ([.fieldLink RX3 92 "ReleaseledgerModel" "draftSize" "I", .fieldLink RX3 9 "ReleaseledgerModel" "draft" "[C", .methodLink RX3 51 yX3_isDigit, .static yX3_isDigit, .initialized RX3, .code yX3_isDigit cX3_isDigit 1 (some .boolean)] ++ wsX30)
def wsX3_join : List Cond := .code yX3_join cX3_join 2 none :: ([.fieldLink RX3 9 "ReleaseledgerModel" "draft" "[C", .fieldLink RX3 92 "ReleaseledgerModel" "draftSize" "I"] ++ wsX30)
def wsX3_add_r1 : List Cond := [Cond.constant RX3 95 (999999999), Cond.fieldLink RX3 9 "ReleaseledgerModel" "draft" "[C", Cond.fieldLink RX3 92 "ReleaseledgerModel" "draftSize" "I", Cond.methodLink RX3 43 yX3_in, Cond.static yX3_in, Cond.initialized RX3, Cond.code yX3_in cX3_in 3 (some .boolean), Cond.methodLink RX3 96 yX3_isWay, Cond.static yX3_isWay, Cond.code yX3_isWay cX3_isWay 1 (some .boolean), Cond.methodLink RX3 47 yX3_isPoint, Cond.static yX3_isPoint, Cond.code yX3_isPoint cX3_isPoint 1 (some .boolean), Cond.methodLink RX3 84 yX3_no, Cond.instanceMethod yX3_no, Cond.selects RX3 yX3_no yX3_no, Cond.code yX3_no cX3_no 3 (some .boolean), Cond.fieldLink RX3 39 "ReleaseledgerModel" "thrown" "I", Cond.methodLink RX3 80 yX3_length, Cond.static yX3_length, Cond.code yX3_length cX3_length 3 (some .int), Cond.methodLink RX3 99 yX3_isJoined, Cond.instanceMethod yX3_isJoined, Cond.selects RX3 yX3_isJoined yX3_isJoined]
def wsX3_add_r2 : List Cond := [Cond.code yX3_isJoined cX3_isJoined 6 (some .boolean), Cond.methodLink RX3 51 yX3_isDigit, Cond.static yX3_isDigit, Cond.code yX3_isDigit cX3_isDigit 1 (some .boolean), Cond.methodLink RX3 103 yX3_join, Cond.instanceMethod yX3_join, Cond.selects RX3 yX3_join yX3_join, Cond.code yX3_join cX3_join 2 none, Cond.methodLink RX3 88 yX3_digits, Cond.static yX3_digits, Cond.code yX3_digits cX3_digits 7 (some .int)]
def wsX3_add : List Cond := .code yX3_add cX3_add 4 (some .int) :: ((wsX3_add_r1 ++ wsX3_add_r2) ++ wsX30)
def wsX3_word_r1 : List Cond := [Cond.constant RX3 107 (2147483647), Cond.fieldLink RX3 9 "ReleaseledgerModel" "draft" "[C", Cond.fieldLink RX3 92 "ReleaseledgerModel" "draftSize" "I", Cond.methodLink RX3 43 yX3_in, Cond.static yX3_in, Cond.initialized RX3, Cond.code yX3_in cX3_in 3 (some .boolean), Cond.methodLink RX3 96 yX3_isWay, Cond.static yX3_isWay, Cond.code yX3_isWay cX3_isWay 1 (some .boolean), Cond.methodLink RX3 47 yX3_isPoint, Cond.static yX3_isPoint, Cond.code yX3_isPoint cX3_isPoint 1 (some .boolean), Cond.methodLink RX3 84 yX3_no, Cond.instanceMethod yX3_no, Cond.selects RX3 yX3_no yX3_no, Cond.code yX3_no cX3_no 3 (some .boolean), Cond.fieldLink RX3 39 "ReleaseledgerModel" "thrown" "I", Cond.methodLink RX3 99 yX3_isJoined, Cond.instanceMethod yX3_isJoined, Cond.selects RX3 yX3_isJoined yX3_isJoined, Cond.code yX3_isJoined cX3_isJoined 6 (some .boolean), Cond.methodLink RX3 51 yX3_isDigit, Cond.static yX3_isDigit]
def wsX3_word_r2 : List Cond := [Cond.code yX3_isDigit cX3_isDigit 1 (some .boolean), Cond.methodLink RX3 103 yX3_join, Cond.instanceMethod yX3_join, Cond.selects RX3 yX3_join yX3_join, Cond.code yX3_join cX3_join 2 none]
def wsX3_word : List Cond := .code yX3_word cX3_word 7 (some .int) :: ((wsX3_word_r1 ++ wsX3_word_r2) ++ wsX30)
def wsX3_drop : List Cond := .code yX3_drop cX3_drop 2 (some .int) :: ([.fieldLink RX3 39 "ReleaseledgerModel" "thrown" "I", .fieldLink RX3 92 "ReleaseledgerModel" "draftSize" "I"] ++ wsX30)
def wsX3_sign : List Cond := .code yX3_sign cX3_sign 2 (some .char) :: ([.fieldLink RX3 92 "ReleaseledgerModel" "draftSize" "I", .fieldLink RX3 9 "ReleaseledgerModel" "draft" "[C", .methodLink RX3 43 yX3_in, .static yX3_in, .initialized RX3, .code yX3_in cX3_in 3 (some .boolean), .methodLink RX3 84 yX3_no, .instanceMethod yX3_no, .selects RX3 yX3_no yX3_no, .code yX3_no cX3_no 3 (some .boolean), .fieldLink RX3 39 "ReleaseledgerModel" "thrown" "I"] ++ wsX30)
def wsX3_parse_r1 : List Cond := [Cond.fieldLink RX3 92 "ReleaseledgerModel" "draftSize" "I", Cond.fieldLink RX3 9 "ReleaseledgerModel" "draft" "[C", Cond.methodLink RX3 108 yX3_isSlot, Cond.static yX3_isSlot, Cond.initialized RX3, Cond.code yX3_isSlot cX3_isSlot 1 (some .boolean), Cond.methodLink RX3 43 yX3_in, Cond.static yX3_in, Cond.code yX3_in cX3_in 3 (some .boolean), Cond.methodLink RX3 84 yX3_no, Cond.instanceMethod yX3_no, Cond.selects RX3 yX3_no yX3_no, Cond.code yX3_no cX3_no 3 (some .boolean), Cond.fieldLink RX3 39 "ReleaseledgerModel" "thrown" "I", Cond.methodLink RX3 112 yX3_lay, Cond.instanceMethod yX3_lay, Cond.selects RX3 yX3_lay yX3_lay, Cond.code yX3_lay cX3_lay 7 (some .int), Cond.arrayClass .char, Cond.fieldLink RX3 15 "ReleaseledgerModel" "texts" "[[C", Cond.fieldLink RX3 18 "ReleaseledgerModel" "sizes" "[I", Cond.methodLink RX3 54 yX3_look, Cond.instanceMethod yX3_look, Cond.selects RX3 yX3_look yX3_look]
def wsX3_parse_r2 : List Cond := [Cond.code yX3_look cX3_look 8 none, Cond.fieldLink RX3 23 "ReleaseledgerModel" "seen" "[[C", Cond.fieldLink RX3 28 "ReleaseledgerModel" "many" "[[I", Cond.fieldLink RX3 33 "ReleaseledgerModel" "starts" "[[[I", Cond.fieldLink RX3 36 "ReleaseledgerModel" "ends" "[[[I", Cond.methodLink RX3 47 yX3_isPoint, Cond.static yX3_isPoint, Cond.code yX3_isPoint cX3_isPoint 1 (some .boolean), Cond.methodLink RX3 51 yX3_isDigit, Cond.static yX3_isDigit, Cond.code yX3_isDigit cX3_isDigit 1 (some .boolean), Cond.methodLink RX3 73 yX3_look_, Cond.instanceMethod yX3_look_, Cond.selects RX3 yX3_look_ yX3_look_, Cond.code yX3_look_ cX3_look_ 3 none, Cond.methodLink RX3 76 yX3_judged, Cond.instanceMethod yX3_judged, Cond.selects RX3 yX3_judged yX3_judged, Cond.code yX3_judged cX3_judged 2 (some (.array .int)), Cond.arrayClass .int, Cond.methodLink RX3 69 yX3_rows, Cond.instanceMethod yX3_rows, Cond.selects RX3 yX3_rows yX3_rows, Cond.code yX3_rows cX3_rows 7 (some .int)]
def wsX3_parse_r3 : List Cond := [Cond.methodLink RX3 58 yX3_isNumber, Cond.instanceMethod yX3_isNumber, Cond.selects RX3 yX3_isNumber yX3_isNumber, Cond.code yX3_isNumber cX3_isNumber 4 (some .boolean), Cond.methodLink RX3 61 yX3_number, Cond.instanceMethod yX3_number, Cond.selects RX3 yX3_number yX3_number, Cond.code yX3_number cX3_number 6 (some .int), Cond.methodLink RX3 65 yX3_words, Cond.instanceMethod yX3_words, Cond.selects RX3 yX3_words yX3_words, Cond.code yX3_words cX3_words 8 (some .int)]
def wsX3_parse : List Cond := .code yX3_parse cX3_parse 2 (some .int) :: ((wsX3_parse_r1 ++ (wsX3_parse_r2 ++ wsX3_parse_r3)) ++ wsX30)
def wsX3_triple_r1 : List Cond := [Cond.constant RX3 83 (999999), Cond.arrayClass .char, Cond.methodLink RX3 108 yX3_isSlot, Cond.static yX3_isSlot, Cond.initialized RX3, Cond.code yX3_isSlot cX3_isSlot 1 (some .boolean), Cond.methodLink RX3 43 yX3_in, Cond.static yX3_in, Cond.code yX3_in cX3_in 3 (some .boolean), Cond.methodLink RX3 84 yX3_no, Cond.instanceMethod yX3_no, Cond.selects RX3 yX3_no yX3_no, Cond.code yX3_no cX3_no 3 (some .boolean), Cond.fieldLink RX3 39 "ReleaseledgerModel" "thrown" "I", Cond.methodLink RX3 88 yX3_digits, Cond.static yX3_digits, Cond.code yX3_digits cX3_digits 7 (some .int), Cond.methodLink RX3 80 yX3_length, Cond.static yX3_length, Cond.code yX3_length cX3_length 3 (some .int), Cond.methodLink RX3 112 yX3_lay, Cond.instanceMethod yX3_lay, Cond.selects RX3 yX3_lay yX3_lay, Cond.code yX3_lay cX3_lay 7 (some .int)]
def wsX3_triple_r2 : List Cond := [Cond.fieldLink RX3 15 "ReleaseledgerModel" "texts" "[[C", Cond.fieldLink RX3 18 "ReleaseledgerModel" "sizes" "[I", Cond.methodLink RX3 54 yX3_look, Cond.instanceMethod yX3_look, Cond.selects RX3 yX3_look yX3_look, Cond.code yX3_look cX3_look 8 none, Cond.fieldLink RX3 23 "ReleaseledgerModel" "seen" "[[C", Cond.fieldLink RX3 28 "ReleaseledgerModel" "many" "[[I", Cond.fieldLink RX3 33 "ReleaseledgerModel" "starts" "[[[I", Cond.fieldLink RX3 36 "ReleaseledgerModel" "ends" "[[[I", Cond.methodLink RX3 47 yX3_isPoint, Cond.static yX3_isPoint, Cond.code yX3_isPoint cX3_isPoint 1 (some .boolean), Cond.methodLink RX3 51 yX3_isDigit, Cond.static yX3_isDigit, Cond.code yX3_isDigit cX3_isDigit 1 (some .boolean), Cond.methodLink RX3 73 yX3_look_, Cond.instanceMethod yX3_look_, Cond.selects RX3 yX3_look_ yX3_look_, Cond.code yX3_look_ cX3_look_ 3 none, Cond.methodLink RX3 76 yX3_judged, Cond.instanceMethod yX3_judged, Cond.selects RX3 yX3_judged yX3_judged, Cond.code yX3_judged cX3_judged 2 (some (.array .int))]
def wsX3_triple_r3 : List Cond := [Cond.arrayClass .int, Cond.methodLink RX3 69 yX3_rows, Cond.instanceMethod yX3_rows, Cond.selects RX3 yX3_rows yX3_rows, Cond.code yX3_rows cX3_rows 7 (some .int), Cond.methodLink RX3 58 yX3_isNumber, Cond.instanceMethod yX3_isNumber, Cond.selects RX3 yX3_isNumber yX3_isNumber, Cond.code yX3_isNumber cX3_isNumber 4 (some .boolean), Cond.methodLink RX3 61 yX3_number, Cond.instanceMethod yX3_number, Cond.selects RX3 yX3_number yX3_number, Cond.code yX3_number cX3_number 6 (some .int), Cond.methodLink RX3 65 yX3_words, Cond.instanceMethod yX3_words, Cond.selects RX3 yX3_words yX3_words, Cond.code yX3_words cX3_words 8 (some .int)]
def wsX3_triple : List Cond := .code yX3_triple cX3_triple 7 (some .int) :: ((wsX3_triple_r1 ++ (wsX3_triple_r2 ++ wsX3_triple_r3)) ++ wsX30)
def wsX3_copy_r1 : List Cond := [Cond.fieldLink RX3 15 "ReleaseledgerModel" "texts" "[[C", Cond.fieldLink RX3 18 "ReleaseledgerModel" "sizes" "[I", Cond.methodLink RX3 108 yX3_isSlot, Cond.static yX3_isSlot, Cond.initialized RX3, Cond.code yX3_isSlot cX3_isSlot 1 (some .boolean), Cond.methodLink RX3 43 yX3_in, Cond.static yX3_in, Cond.code yX3_in cX3_in 3 (some .boolean), Cond.methodLink RX3 84 yX3_no, Cond.instanceMethod yX3_no, Cond.selects RX3 yX3_no yX3_no, Cond.code yX3_no cX3_no 3 (some .boolean), Cond.fieldLink RX3 39 "ReleaseledgerModel" "thrown" "I", Cond.methodLink RX3 112 yX3_lay, Cond.instanceMethod yX3_lay, Cond.selects RX3 yX3_lay yX3_lay, Cond.code yX3_lay cX3_lay 7 (some .int), Cond.arrayClass .char, Cond.methodLink RX3 54 yX3_look, Cond.instanceMethod yX3_look, Cond.selects RX3 yX3_look yX3_look, Cond.code yX3_look cX3_look 8 none, Cond.fieldLink RX3 23 "ReleaseledgerModel" "seen" "[[C"]
def wsX3_copy_r2 : List Cond := [Cond.fieldLink RX3 28 "ReleaseledgerModel" "many" "[[I", Cond.fieldLink RX3 33 "ReleaseledgerModel" "starts" "[[[I", Cond.fieldLink RX3 36 "ReleaseledgerModel" "ends" "[[[I", Cond.methodLink RX3 47 yX3_isPoint, Cond.static yX3_isPoint, Cond.code yX3_isPoint cX3_isPoint 1 (some .boolean), Cond.methodLink RX3 51 yX3_isDigit, Cond.static yX3_isDigit, Cond.code yX3_isDigit cX3_isDigit 1 (some .boolean), Cond.methodLink RX3 73 yX3_look_, Cond.instanceMethod yX3_look_, Cond.selects RX3 yX3_look_ yX3_look_, Cond.code yX3_look_ cX3_look_ 3 none, Cond.methodLink RX3 76 yX3_judged, Cond.instanceMethod yX3_judged, Cond.selects RX3 yX3_judged yX3_judged, Cond.code yX3_judged cX3_judged 2 (some (.array .int)), Cond.arrayClass .int, Cond.methodLink RX3 69 yX3_rows, Cond.instanceMethod yX3_rows, Cond.selects RX3 yX3_rows yX3_rows, Cond.code yX3_rows cX3_rows 7 (some .int), Cond.methodLink RX3 58 yX3_isNumber, Cond.instanceMethod yX3_isNumber]
def wsX3_copy_r3 : List Cond := [Cond.selects RX3 yX3_isNumber yX3_isNumber, Cond.code yX3_isNumber cX3_isNumber 4 (some .boolean), Cond.methodLink RX3 61 yX3_number, Cond.instanceMethod yX3_number, Cond.selects RX3 yX3_number yX3_number, Cond.code yX3_number cX3_number 6 (some .int), Cond.methodLink RX3 65 yX3_words, Cond.instanceMethod yX3_words, Cond.selects RX3 yX3_words yX3_words, Cond.code yX3_words cX3_words 8 (some .int)]
def wsX3_copy : List Cond := .code yX3_copy cX3_copy 3 (some .int) :: ((wsX3_copy_r1 ++ (wsX3_copy_r2 ++ wsX3_copy_r3)) ++ wsX30)
def wsX3_size : List Cond := .code yX3_size cX3_size 2 (some .int) :: ([.fieldLink RX3 18 "ReleaseledgerModel" "sizes" "[I", .methodLink RX3 108 yX3_isSlot, .static yX3_isSlot, .initialized RX3, .code yX3_isSlot cX3_isSlot 1 (some .boolean), .methodLink RX3 43 yX3_in, .static yX3_in, .code yX3_in cX3_in 3 (some .boolean), .methodLink RX3 84 yX3_no, .instanceMethod yX3_no, .selects RX3 yX3_no yX3_no, .code yX3_no cX3_no 3 (some .boolean), .fieldLink RX3 39 "ReleaseledgerModel" "thrown" "I"] ++ wsX30)
def wsX3_text : List Cond := .code yX3_text cX3_text 3 (some .char) :: ([.fieldLink RX3 18 "ReleaseledgerModel" "sizes" "[I", .fieldLink RX3 15 "ReleaseledgerModel" "texts" "[[C", .methodLink RX3 108 yX3_isSlot, .static yX3_isSlot, .initialized RX3, .code yX3_isSlot cX3_isSlot 1 (some .boolean), .methodLink RX3 43 yX3_in, .static yX3_in, .code yX3_in cX3_in 3 (some .boolean), .methodLink RX3 84 yX3_no, .instanceMethod yX3_no, .selects RX3 yX3_no yX3_no, .code yX3_no cX3_no 3 (some .boolean), .fieldLink RX3 39 "ReleaseledgerModel" "thrown" "I"] ++ wsX30)
def wsX3_tokens_r1 : List Cond := [Cond.fieldLink RX3 28 "ReleaseledgerModel" "many" "[[I", Cond.methodLink RX3 108 yX3_isSlot, Cond.static yX3_isSlot, Cond.initialized RX3, Cond.code yX3_isSlot cX3_isSlot 1 (some .boolean), Cond.methodLink RX3 43 yX3_in, Cond.static yX3_in, Cond.code yX3_in cX3_in 3 (some .boolean), Cond.methodLink RX3 84 yX3_no, Cond.instanceMethod yX3_no, Cond.selects RX3 yX3_no yX3_no, Cond.code yX3_no cX3_no 3 (some .boolean), Cond.fieldLink RX3 39 "ReleaseledgerModel" "thrown" "I", Cond.methodLink RX3 73 yX3_look_, Cond.instanceMethod yX3_look_, Cond.selects RX3 yX3_look_ yX3_look_, Cond.code yX3_look_ cX3_look_ 3 none, Cond.fieldLink RX3 15 "ReleaseledgerModel" "texts" "[[C", Cond.fieldLink RX3 18 "ReleaseledgerModel" "sizes" "[I", Cond.methodLink RX3 54 yX3_look, Cond.instanceMethod yX3_look, Cond.selects RX3 yX3_look yX3_look, Cond.code yX3_look cX3_look 8 none, Cond.fieldLink RX3 23 "ReleaseledgerModel" "seen" "[[C"]
def wsX3_tokens_r2 : List Cond := [Cond.fieldLink RX3 33 "ReleaseledgerModel" "starts" "[[[I", Cond.fieldLink RX3 36 "ReleaseledgerModel" "ends" "[[[I", Cond.methodLink RX3 47 yX3_isPoint, Cond.static yX3_isPoint, Cond.code yX3_isPoint cX3_isPoint 1 (some .boolean), Cond.methodLink RX3 51 yX3_isDigit, Cond.static yX3_isDigit, Cond.code yX3_isDigit cX3_isDigit 1 (some .boolean)]
def wsX3_tokens : List Cond := .code yX3_tokens cX3_tokens 3 (some .int) :: ((wsX3_tokens_r1 ++ wsX3_tokens_r2) ++ wsX30)
def wsX3_token_r1 : List Cond := [Cond.fieldLink RX3 28 "ReleaseledgerModel" "many" "[[I", Cond.fieldLink RX3 36 "ReleaseledgerModel" "ends" "[[[I", Cond.fieldLink RX3 33 "ReleaseledgerModel" "starts" "[[[I", Cond.methodLink RX3 108 yX3_isSlot, Cond.static yX3_isSlot, Cond.initialized RX3, Cond.code yX3_isSlot cX3_isSlot 1 (some .boolean), Cond.methodLink RX3 43 yX3_in, Cond.static yX3_in, Cond.code yX3_in cX3_in 3 (some .boolean), Cond.methodLink RX3 84 yX3_no, Cond.instanceMethod yX3_no, Cond.selects RX3 yX3_no yX3_no, Cond.code yX3_no cX3_no 3 (some .boolean), Cond.fieldLink RX3 39 "ReleaseledgerModel" "thrown" "I", Cond.methodLink RX3 73 yX3_look_, Cond.instanceMethod yX3_look_, Cond.selects RX3 yX3_look_ yX3_look_, Cond.code yX3_look_ cX3_look_ 3 none, Cond.fieldLink RX3 15 "ReleaseledgerModel" "texts" "[[C", Cond.fieldLink RX3 18 "ReleaseledgerModel" "sizes" "[I", Cond.methodLink RX3 54 yX3_look, Cond.instanceMethod yX3_look, Cond.selects RX3 yX3_look yX3_look]
def wsX3_token_r2 : List Cond := [Cond.code yX3_look cX3_look 8 none, Cond.fieldLink RX3 23 "ReleaseledgerModel" "seen" "[[C", Cond.methodLink RX3 47 yX3_isPoint, Cond.static yX3_isPoint, Cond.code yX3_isPoint cX3_isPoint 1 (some .boolean), Cond.methodLink RX3 51 yX3_isDigit, Cond.static yX3_isDigit, Cond.code yX3_isDigit cX3_isDigit 1 (some .boolean), Cond.methodLink RX3 58 yX3_isNumber, Cond.instanceMethod yX3_isNumber, Cond.selects RX3 yX3_isNumber yX3_isNumber, Cond.code yX3_isNumber cX3_isNumber 4 (some .boolean), Cond.methodLink RX3 61 yX3_number, Cond.instanceMethod yX3_number, Cond.selects RX3 yX3_number yX3_number, Cond.code yX3_number cX3_number 6 (some .int)]
def wsX3_token : List Cond := .code yX3_token cX3_token 4 (some .int) :: ((wsX3_token_r1 ++ wsX3_token_r2) ++ wsX30)
def wsX3_compare_r1 : List Cond := [Cond.methodLink RX3 108 yX3_isSlot, Cond.static yX3_isSlot, Cond.initialized RX3, Cond.code yX3_isSlot cX3_isSlot 1 (some .boolean), Cond.methodLink RX3 43 yX3_in, Cond.static yX3_in, Cond.code yX3_in cX3_in 3 (some .boolean), Cond.methodLink RX3 84 yX3_no, Cond.instanceMethod yX3_no, Cond.selects RX3 yX3_no yX3_no, Cond.code yX3_no cX3_no 3 (some .boolean), Cond.fieldLink RX3 39 "ReleaseledgerModel" "thrown" "I", Cond.methodLink RX3 116 yX3_order, Cond.instanceMethod yX3_order, Cond.selects RX3 yX3_order yX3_order, Cond.code yX3_order cX3_order 3 (some .int), Cond.methodLink RX3 73 yX3_look_, Cond.instanceMethod yX3_look_, Cond.selects RX3 yX3_look_ yX3_look_, Cond.code yX3_look_ cX3_look_ 3 none, Cond.fieldLink RX3 15 "ReleaseledgerModel" "texts" "[[C", Cond.fieldLink RX3 18 "ReleaseledgerModel" "sizes" "[I", Cond.methodLink RX3 54 yX3_look, Cond.instanceMethod yX3_look]
def wsX3_compare_r2 : List Cond := [Cond.selects RX3 yX3_look yX3_look, Cond.code yX3_look cX3_look 8 none, Cond.fieldLink RX3 23 "ReleaseledgerModel" "seen" "[[C", Cond.fieldLink RX3 28 "ReleaseledgerModel" "many" "[[I", Cond.fieldLink RX3 33 "ReleaseledgerModel" "starts" "[[[I", Cond.fieldLink RX3 36 "ReleaseledgerModel" "ends" "[[[I", Cond.methodLink RX3 47 yX3_isPoint, Cond.static yX3_isPoint, Cond.code yX3_isPoint cX3_isPoint 1 (some .boolean), Cond.methodLink RX3 51 yX3_isDigit, Cond.static yX3_isDigit, Cond.code yX3_isDigit cX3_isDigit 1 (some .boolean), Cond.methodLink RX3 76 yX3_judged, Cond.instanceMethod yX3_judged, Cond.selects RX3 yX3_judged yX3_judged, Cond.code yX3_judged cX3_judged 2 (some (.array .int)), Cond.arrayClass .int, Cond.methodLink RX3 69 yX3_rows, Cond.instanceMethod yX3_rows, Cond.selects RX3 yX3_rows yX3_rows, Cond.code yX3_rows cX3_rows 7 (some .int), Cond.methodLink RX3 58 yX3_isNumber, Cond.instanceMethod yX3_isNumber, Cond.selects RX3 yX3_isNumber yX3_isNumber]
def wsX3_compare_r3 : List Cond := [Cond.code yX3_isNumber cX3_isNumber 4 (some .boolean), Cond.methodLink RX3 61 yX3_number, Cond.instanceMethod yX3_number, Cond.selects RX3 yX3_number yX3_number, Cond.code yX3_number cX3_number 6 (some .int), Cond.methodLink RX3 65 yX3_words, Cond.instanceMethod yX3_words, Cond.selects RX3 yX3_words yX3_words, Cond.code yX3_words cX3_words 8 (some .int)]
def wsX3_compare : List Cond := .code yX3_compare cX3_compare 3 (some .int) :: ((wsX3_compare_r1 ++ (wsX3_compare_r2 ++ wsX3_compare_r3)) ++ wsX30)
def wsX3_isSame_r1 : List Cond := [Cond.methodLink RX3 108 yX3_isSlot, Cond.static yX3_isSlot, Cond.initialized RX3, Cond.code yX3_isSlot cX3_isSlot 1 (some .boolean), Cond.methodLink RX3 43 yX3_in, Cond.static yX3_in, Cond.code yX3_in cX3_in 3 (some .boolean), Cond.methodLink RX3 84 yX3_no, Cond.instanceMethod yX3_no, Cond.selects RX3 yX3_no yX3_no, Cond.code yX3_no cX3_no 3 (some .boolean), Cond.fieldLink RX3 39 "ReleaseledgerModel" "thrown" "I", Cond.methodLink RX3 116 yX3_order, Cond.instanceMethod yX3_order, Cond.selects RX3 yX3_order yX3_order, Cond.code yX3_order cX3_order 3 (some .int), Cond.methodLink RX3 73 yX3_look_, Cond.instanceMethod yX3_look_, Cond.selects RX3 yX3_look_ yX3_look_, Cond.code yX3_look_ cX3_look_ 3 none, Cond.fieldLink RX3 15 "ReleaseledgerModel" "texts" "[[C", Cond.fieldLink RX3 18 "ReleaseledgerModel" "sizes" "[I", Cond.methodLink RX3 54 yX3_look, Cond.instanceMethod yX3_look]
def wsX3_isSame_r2 : List Cond := [Cond.selects RX3 yX3_look yX3_look, Cond.code yX3_look cX3_look 8 none, Cond.fieldLink RX3 23 "ReleaseledgerModel" "seen" "[[C", Cond.fieldLink RX3 28 "ReleaseledgerModel" "many" "[[I", Cond.fieldLink RX3 33 "ReleaseledgerModel" "starts" "[[[I", Cond.fieldLink RX3 36 "ReleaseledgerModel" "ends" "[[[I", Cond.methodLink RX3 47 yX3_isPoint, Cond.static yX3_isPoint, Cond.code yX3_isPoint cX3_isPoint 1 (some .boolean), Cond.methodLink RX3 51 yX3_isDigit, Cond.static yX3_isDigit, Cond.code yX3_isDigit cX3_isDigit 1 (some .boolean), Cond.methodLink RX3 76 yX3_judged, Cond.instanceMethod yX3_judged, Cond.selects RX3 yX3_judged yX3_judged, Cond.code yX3_judged cX3_judged 2 (some (.array .int)), Cond.arrayClass .int, Cond.methodLink RX3 69 yX3_rows, Cond.instanceMethod yX3_rows, Cond.selects RX3 yX3_rows yX3_rows, Cond.code yX3_rows cX3_rows 7 (some .int), Cond.methodLink RX3 58 yX3_isNumber, Cond.instanceMethod yX3_isNumber, Cond.selects RX3 yX3_isNumber yX3_isNumber]
def wsX3_isSame_r3 : List Cond := [Cond.code yX3_isNumber cX3_isNumber 4 (some .boolean), Cond.methodLink RX3 61 yX3_number, Cond.instanceMethod yX3_number, Cond.selects RX3 yX3_number yX3_number, Cond.code yX3_number cX3_number 6 (some .int), Cond.methodLink RX3 65 yX3_words, Cond.instanceMethod yX3_words, Cond.selects RX3 yX3_words yX3_words, Cond.code yX3_words cX3_words 8 (some .int)]
def wsX3_isSame : List Cond := .code yX3_isSame cX3_isSame 3 (some .boolean) :: ((wsX3_isSame_r1 ++ (wsX3_isSame_r2 ++ wsX3_isSame_r3)) ++ wsX30)
def wsX3_apart_r1 : List Cond := [Cond.methodLink RX3 108 yX3_isSlot, Cond.static yX3_isSlot, Cond.initialized RX3, Cond.code yX3_isSlot cX3_isSlot 1 (some .boolean), Cond.methodLink RX3 43 yX3_in, Cond.static yX3_in, Cond.code yX3_in cX3_in 3 (some .boolean), Cond.methodLink RX3 84 yX3_no, Cond.instanceMethod yX3_no, Cond.selects RX3 yX3_no yX3_no, Cond.code yX3_no cX3_no 3 (some .boolean), Cond.fieldLink RX3 39 "ReleaseledgerModel" "thrown" "I", Cond.methodLink RX3 73 yX3_look_, Cond.instanceMethod yX3_look_, Cond.selects RX3 yX3_look_ yX3_look_, Cond.code yX3_look_ cX3_look_ 3 none, Cond.fieldLink RX3 15 "ReleaseledgerModel" "texts" "[[C", Cond.fieldLink RX3 18 "ReleaseledgerModel" "sizes" "[I", Cond.methodLink RX3 54 yX3_look, Cond.instanceMethod yX3_look, Cond.selects RX3 yX3_look yX3_look, Cond.code yX3_look cX3_look 8 none, Cond.fieldLink RX3 23 "ReleaseledgerModel" "seen" "[[C", Cond.fieldLink RX3 28 "ReleaseledgerModel" "many" "[[I"]
def wsX3_apart_r2 : List Cond := [Cond.fieldLink RX3 33 "ReleaseledgerModel" "starts" "[[[I", Cond.fieldLink RX3 36 "ReleaseledgerModel" "ends" "[[[I", Cond.methodLink RX3 47 yX3_isPoint, Cond.static yX3_isPoint, Cond.code yX3_isPoint cX3_isPoint 1 (some .boolean), Cond.methodLink RX3 51 yX3_isDigit, Cond.static yX3_isDigit, Cond.code yX3_isDigit cX3_isDigit 1 (some .boolean), Cond.methodLink RX3 76 yX3_judged, Cond.instanceMethod yX3_judged, Cond.selects RX3 yX3_judged yX3_judged, Cond.code yX3_judged cX3_judged 2 (some (.array .int)), Cond.arrayClass .int, Cond.methodLink RX3 69 yX3_rows, Cond.instanceMethod yX3_rows, Cond.selects RX3 yX3_rows yX3_rows, Cond.code yX3_rows cX3_rows 7 (some .int), Cond.methodLink RX3 58 yX3_isNumber, Cond.instanceMethod yX3_isNumber, Cond.selects RX3 yX3_isNumber yX3_isNumber, Cond.code yX3_isNumber cX3_isNumber 4 (some .boolean), Cond.methodLink RX3 61 yX3_number, Cond.instanceMethod yX3_number, Cond.selects RX3 yX3_number yX3_number]
def wsX3_apart_r3 : List Cond := [Cond.code yX3_number cX3_number 6 (some .int), Cond.methodLink RX3 65 yX3_words, Cond.instanceMethod yX3_words, Cond.selects RX3 yX3_words yX3_words, Cond.code yX3_words cX3_words 8 (some .int)]
def wsX3_apart : List Cond := .code yX3_apart cX3_apart 3 (some .int) :: ((wsX3_apart_r1 ++ (wsX3_apart_r2 ++ wsX3_apart_r3)) ++ wsX30)
def wsX3_rank_r1 : List Cond := [Cond.methodLink RX3 108 yX3_isSlot, Cond.static yX3_isSlot, Cond.initialized RX3, Cond.code yX3_isSlot cX3_isSlot 1 (some .boolean), Cond.methodLink RX3 43 yX3_in, Cond.static yX3_in, Cond.code yX3_in cX3_in 3 (some .boolean), Cond.methodLink RX3 84 yX3_no, Cond.instanceMethod yX3_no, Cond.selects RX3 yX3_no yX3_no, Cond.code yX3_no cX3_no 3 (some .boolean), Cond.fieldLink RX3 39 "ReleaseledgerModel" "thrown" "I", Cond.methodLink RX3 116 yX3_order, Cond.instanceMethod yX3_order, Cond.selects RX3 yX3_order yX3_order, Cond.code yX3_order cX3_order 3 (some .int), Cond.methodLink RX3 73 yX3_look_, Cond.instanceMethod yX3_look_, Cond.selects RX3 yX3_look_ yX3_look_, Cond.code yX3_look_ cX3_look_ 3 none, Cond.fieldLink RX3 15 "ReleaseledgerModel" "texts" "[[C", Cond.fieldLink RX3 18 "ReleaseledgerModel" "sizes" "[I", Cond.methodLink RX3 54 yX3_look, Cond.instanceMethod yX3_look]
def wsX3_rank_r2 : List Cond := [Cond.selects RX3 yX3_look yX3_look, Cond.code yX3_look cX3_look 8 none, Cond.fieldLink RX3 23 "ReleaseledgerModel" "seen" "[[C", Cond.fieldLink RX3 28 "ReleaseledgerModel" "many" "[[I", Cond.fieldLink RX3 33 "ReleaseledgerModel" "starts" "[[[I", Cond.fieldLink RX3 36 "ReleaseledgerModel" "ends" "[[[I", Cond.methodLink RX3 47 yX3_isPoint, Cond.static yX3_isPoint, Cond.code yX3_isPoint cX3_isPoint 1 (some .boolean), Cond.methodLink RX3 51 yX3_isDigit, Cond.static yX3_isDigit, Cond.code yX3_isDigit cX3_isDigit 1 (some .boolean), Cond.methodLink RX3 76 yX3_judged, Cond.instanceMethod yX3_judged, Cond.selects RX3 yX3_judged yX3_judged, Cond.code yX3_judged cX3_judged 2 (some (.array .int)), Cond.arrayClass .int, Cond.methodLink RX3 69 yX3_rows, Cond.instanceMethod yX3_rows, Cond.selects RX3 yX3_rows yX3_rows, Cond.code yX3_rows cX3_rows 7 (some .int), Cond.methodLink RX3 58 yX3_isNumber, Cond.instanceMethod yX3_isNumber, Cond.selects RX3 yX3_isNumber yX3_isNumber]
def wsX3_rank_r3 : List Cond := [Cond.code yX3_isNumber cX3_isNumber 4 (some .boolean), Cond.methodLink RX3 61 yX3_number, Cond.instanceMethod yX3_number, Cond.selects RX3 yX3_number yX3_number, Cond.code yX3_number cX3_number 6 (some .int), Cond.methodLink RX3 65 yX3_words, Cond.instanceMethod yX3_words, Cond.selects RX3 yX3_words yX3_words, Cond.code yX3_words cX3_words 8 (some .int)]
def wsX3_rank : List Cond := .code yX3_rank cX3_rank 4 (some .int) :: ((wsX3_rank_r1 ++ (wsX3_rank_r2 ++ wsX3_rank_r3)) ++ wsX30)
def wsX3_place_r1 : List Cond := [Cond.methodLink RX3 116 yX3_order, Cond.instanceMethod yX3_order, Cond.selects RX3 yX3_order yX3_order, Cond.initialized RX3, Cond.code yX3_order cX3_order 3 (some .int), Cond.methodLink RX3 73 yX3_look_, Cond.instanceMethod yX3_look_, Cond.selects RX3 yX3_look_ yX3_look_, Cond.code yX3_look_ cX3_look_ 3 none, Cond.fieldLink RX3 15 "ReleaseledgerModel" "texts" "[[C", Cond.fieldLink RX3 18 "ReleaseledgerModel" "sizes" "[I", Cond.methodLink RX3 54 yX3_look, Cond.instanceMethod yX3_look, Cond.selects RX3 yX3_look yX3_look, Cond.code yX3_look cX3_look 8 none, Cond.fieldLink RX3 23 "ReleaseledgerModel" "seen" "[[C", Cond.fieldLink RX3 28 "ReleaseledgerModel" "many" "[[I", Cond.fieldLink RX3 33 "ReleaseledgerModel" "starts" "[[[I", Cond.fieldLink RX3 36 "ReleaseledgerModel" "ends" "[[[I", Cond.methodLink RX3 47 yX3_isPoint, Cond.static yX3_isPoint, Cond.code yX3_isPoint cX3_isPoint 1 (some .boolean), Cond.methodLink RX3 51 yX3_isDigit, Cond.static yX3_isDigit]
def wsX3_place_r2 : List Cond := [Cond.code yX3_isDigit cX3_isDigit 1 (some .boolean), Cond.methodLink RX3 76 yX3_judged, Cond.instanceMethod yX3_judged, Cond.selects RX3 yX3_judged yX3_judged, Cond.code yX3_judged cX3_judged 2 (some (.array .int)), Cond.arrayClass .int, Cond.methodLink RX3 69 yX3_rows, Cond.instanceMethod yX3_rows, Cond.selects RX3 yX3_rows yX3_rows, Cond.code yX3_rows cX3_rows 7 (some .int), Cond.methodLink RX3 58 yX3_isNumber, Cond.instanceMethod yX3_isNumber, Cond.selects RX3 yX3_isNumber yX3_isNumber, Cond.code yX3_isNumber cX3_isNumber 4 (some .boolean), Cond.methodLink RX3 61 yX3_number, Cond.instanceMethod yX3_number, Cond.selects RX3 yX3_number yX3_number, Cond.code yX3_number cX3_number 6 (some .int), Cond.methodLink RX3 65 yX3_words, Cond.instanceMethod yX3_words, Cond.selects RX3 yX3_words yX3_words, Cond.code yX3_words cX3_words 8 (some .int)]
def wsX3_place : List Cond := .code yX3_place cX3_place 5 (some .int) :: ((wsX3_place_r1 ++ wsX3_place_r2) ++ wsX30)
def wsX3_at_r1 : List Cond := [Cond.methodLink RX3 108 yX3_isSlot, Cond.static yX3_isSlot, Cond.initialized RX3, Cond.code yX3_isSlot cX3_isSlot 1 (some .boolean), Cond.methodLink RX3 43 yX3_in, Cond.static yX3_in, Cond.code yX3_in cX3_in 3 (some .boolean), Cond.methodLink RX3 84 yX3_no, Cond.instanceMethod yX3_no, Cond.selects RX3 yX3_no yX3_no, Cond.code yX3_no cX3_no 3 (some .boolean), Cond.fieldLink RX3 39 "ReleaseledgerModel" "thrown" "I", Cond.methodLink RX3 119 yX3_place, Cond.instanceMethod yX3_place, Cond.selects RX3 yX3_place yX3_place, Cond.code yX3_place cX3_place 5 (some .int), Cond.methodLink RX3 116 yX3_order, Cond.instanceMethod yX3_order, Cond.selects RX3 yX3_order yX3_order, Cond.code yX3_order cX3_order 3 (some .int), Cond.methodLink RX3 73 yX3_look_, Cond.instanceMethod yX3_look_, Cond.selects RX3 yX3_look_ yX3_look_, Cond.code yX3_look_ cX3_look_ 3 none]
def wsX3_at_r2 : List Cond := [Cond.fieldLink RX3 15 "ReleaseledgerModel" "texts" "[[C", Cond.fieldLink RX3 18 "ReleaseledgerModel" "sizes" "[I", Cond.methodLink RX3 54 yX3_look, Cond.instanceMethod yX3_look, Cond.selects RX3 yX3_look yX3_look, Cond.code yX3_look cX3_look 8 none, Cond.fieldLink RX3 23 "ReleaseledgerModel" "seen" "[[C", Cond.fieldLink RX3 28 "ReleaseledgerModel" "many" "[[I", Cond.fieldLink RX3 33 "ReleaseledgerModel" "starts" "[[[I", Cond.fieldLink RX3 36 "ReleaseledgerModel" "ends" "[[[I", Cond.methodLink RX3 47 yX3_isPoint, Cond.static yX3_isPoint, Cond.code yX3_isPoint cX3_isPoint 1 (some .boolean), Cond.methodLink RX3 51 yX3_isDigit, Cond.static yX3_isDigit, Cond.code yX3_isDigit cX3_isDigit 1 (some .boolean), Cond.methodLink RX3 76 yX3_judged, Cond.instanceMethod yX3_judged, Cond.selects RX3 yX3_judged yX3_judged, Cond.code yX3_judged cX3_judged 2 (some (.array .int)), Cond.arrayClass .int, Cond.methodLink RX3 69 yX3_rows, Cond.instanceMethod yX3_rows, Cond.selects RX3 yX3_rows yX3_rows]
def wsX3_at_r3 : List Cond := [Cond.code yX3_rows cX3_rows 7 (some .int), Cond.methodLink RX3 58 yX3_isNumber, Cond.instanceMethod yX3_isNumber, Cond.selects RX3 yX3_isNumber yX3_isNumber, Cond.code yX3_isNumber cX3_isNumber 4 (some .boolean), Cond.methodLink RX3 61 yX3_number, Cond.instanceMethod yX3_number, Cond.selects RX3 yX3_number yX3_number, Cond.code yX3_number cX3_number 6 (some .int), Cond.methodLink RX3 65 yX3_words, Cond.instanceMethod yX3_words, Cond.selects RX3 yX3_words yX3_words, Cond.code yX3_words cX3_words 8 (some .int)]
def wsX3_at : List Cond := .code yX3_at cX3_at 3 (some .int) :: ((wsX3_at_r1 ++ (wsX3_at_r2 ++ wsX3_at_r3)) ++ wsX30)
def wsX3_sort_r1 : List Cond := [Cond.fieldLink RX3 39 "ReleaseledgerModel" "thrown" "I", Cond.classLink RX3 22 "[C", Cond.arrayClass .int, Cond.fieldLink RX3 15 "ReleaseledgerModel" "texts" "[[C", Cond.fieldLink RX3 18 "ReleaseledgerModel" "sizes" "[I", Cond.methodLink RX3 119 yX3_place, Cond.instanceMethod yX3_place, Cond.selects RX3 yX3_place yX3_place, Cond.initialized RX3, Cond.code yX3_place cX3_place 5 (some .int), Cond.methodLink RX3 116 yX3_order, Cond.instanceMethod yX3_order, Cond.selects RX3 yX3_order yX3_order, Cond.code yX3_order cX3_order 3 (some .int), Cond.methodLink RX3 73 yX3_look_, Cond.instanceMethod yX3_look_, Cond.selects RX3 yX3_look_ yX3_look_, Cond.code yX3_look_ cX3_look_ 3 none, Cond.methodLink RX3 54 yX3_look, Cond.instanceMethod yX3_look, Cond.selects RX3 yX3_look yX3_look, Cond.code yX3_look cX3_look 8 none, Cond.fieldLink RX3 23 "ReleaseledgerModel" "seen" "[[C", Cond.fieldLink RX3 28 "ReleaseledgerModel" "many" "[[I"]
def wsX3_sort_r2 : List Cond := [Cond.fieldLink RX3 33 "ReleaseledgerModel" "starts" "[[[I", Cond.fieldLink RX3 36 "ReleaseledgerModel" "ends" "[[[I", Cond.methodLink RX3 47 yX3_isPoint, Cond.static yX3_isPoint, Cond.code yX3_isPoint cX3_isPoint 1 (some .boolean), Cond.methodLink RX3 51 yX3_isDigit, Cond.static yX3_isDigit, Cond.code yX3_isDigit cX3_isDigit 1 (some .boolean), Cond.methodLink RX3 76 yX3_judged, Cond.instanceMethod yX3_judged, Cond.selects RX3 yX3_judged yX3_judged, Cond.code yX3_judged cX3_judged 2 (some (.array .int)), Cond.methodLink RX3 69 yX3_rows, Cond.instanceMethod yX3_rows, Cond.selects RX3 yX3_rows yX3_rows, Cond.code yX3_rows cX3_rows 7 (some .int), Cond.methodLink RX3 58 yX3_isNumber, Cond.instanceMethod yX3_isNumber, Cond.selects RX3 yX3_isNumber yX3_isNumber, Cond.code yX3_isNumber cX3_isNumber 4 (some .boolean), Cond.methodLink RX3 61 yX3_number, Cond.instanceMethod yX3_number, Cond.selects RX3 yX3_number yX3_number, Cond.code yX3_number cX3_number 6 (some .int)]
def wsX3_sort_r3 : List Cond := [Cond.methodLink RX3 65 yX3_words, Cond.instanceMethod yX3_words, Cond.selects RX3 yX3_words yX3_words, Cond.code yX3_words cX3_words 8 (some .int)]
def wsX3_sort : List Cond := .code yX3_sort cX3_sort 6 (some .int) :: ((wsX3_sort_r1 ++ (wsX3_sort_r2 ++ wsX3_sort_r3)) ++ wsX30)
def wsX3_between_r1 : List Cond := [Cond.methodLink RX3 108 yX3_isSlot, Cond.static yX3_isSlot, Cond.initialized RX3, Cond.code yX3_isSlot cX3_isSlot 1 (some .boolean), Cond.methodLink RX3 43 yX3_in, Cond.static yX3_in, Cond.code yX3_in cX3_in 3 (some .boolean), Cond.methodLink RX3 84 yX3_no, Cond.instanceMethod yX3_no, Cond.selects RX3 yX3_no yX3_no, Cond.code yX3_no cX3_no 3 (some .boolean), Cond.fieldLink RX3 39 "ReleaseledgerModel" "thrown" "I", Cond.methodLink RX3 116 yX3_order, Cond.instanceMethod yX3_order, Cond.selects RX3 yX3_order yX3_order, Cond.code yX3_order cX3_order 3 (some .int), Cond.methodLink RX3 73 yX3_look_, Cond.instanceMethod yX3_look_, Cond.selects RX3 yX3_look_ yX3_look_, Cond.code yX3_look_ cX3_look_ 3 none, Cond.fieldLink RX3 15 "ReleaseledgerModel" "texts" "[[C", Cond.fieldLink RX3 18 "ReleaseledgerModel" "sizes" "[I", Cond.methodLink RX3 54 yX3_look, Cond.instanceMethod yX3_look]
def wsX3_between_r2 : List Cond := [Cond.selects RX3 yX3_look yX3_look, Cond.code yX3_look cX3_look 8 none, Cond.fieldLink RX3 23 "ReleaseledgerModel" "seen" "[[C", Cond.fieldLink RX3 28 "ReleaseledgerModel" "many" "[[I", Cond.fieldLink RX3 33 "ReleaseledgerModel" "starts" "[[[I", Cond.fieldLink RX3 36 "ReleaseledgerModel" "ends" "[[[I", Cond.methodLink RX3 47 yX3_isPoint, Cond.static yX3_isPoint, Cond.code yX3_isPoint cX3_isPoint 1 (some .boolean), Cond.methodLink RX3 51 yX3_isDigit, Cond.static yX3_isDigit, Cond.code yX3_isDigit cX3_isDigit 1 (some .boolean), Cond.methodLink RX3 76 yX3_judged, Cond.instanceMethod yX3_judged, Cond.selects RX3 yX3_judged yX3_judged, Cond.code yX3_judged cX3_judged 2 (some (.array .int)), Cond.arrayClass .int, Cond.methodLink RX3 69 yX3_rows, Cond.instanceMethod yX3_rows, Cond.selects RX3 yX3_rows yX3_rows, Cond.code yX3_rows cX3_rows 7 (some .int), Cond.methodLink RX3 58 yX3_isNumber, Cond.instanceMethod yX3_isNumber, Cond.selects RX3 yX3_isNumber yX3_isNumber]
def wsX3_between_r3 : List Cond := [Cond.code yX3_isNumber cX3_isNumber 4 (some .boolean), Cond.methodLink RX3 61 yX3_number, Cond.instanceMethod yX3_number, Cond.selects RX3 yX3_number yX3_number, Cond.code yX3_number cX3_number 6 (some .int), Cond.methodLink RX3 65 yX3_words, Cond.instanceMethod yX3_words, Cond.selects RX3 yX3_words yX3_words, Cond.code yX3_words cX3_words 8 (some .int)]
def wsX3_between : List Cond := .code yX3_between cX3_between 5 (some .int) :: ((wsX3_between_r1 ++ (wsX3_between_r2 ++ wsX3_between_r3)) ++ wsX30)
def wsX3_longer : List Cond := .code yX3_longer cX3_longer 4 (some (.array .char)) :: ([.arrayClass .char, .fieldLink RX3 18 "ReleaseledgerModel" "sizes" "[I", .fieldLink RX3 15 "ReleaseledgerModel" "texts" "[[C"] ++ wsX30)
def wsX3_put_r1 : List Cond := [Cond.fieldLink RX3 15 "ReleaseledgerModel" "texts" "[[C", Cond.fieldLink RX3 18 "ReleaseledgerModel" "sizes" "[I", Cond.methodLink RX3 54 yX3_look, Cond.instanceMethod yX3_look, Cond.selects RX3 yX3_look yX3_look, Cond.initialized RX3, Cond.code yX3_look cX3_look 8 none, Cond.fieldLink RX3 23 "ReleaseledgerModel" "seen" "[[C", Cond.fieldLink RX3 28 "ReleaseledgerModel" "many" "[[I", Cond.fieldLink RX3 33 "ReleaseledgerModel" "starts" "[[[I", Cond.fieldLink RX3 36 "ReleaseledgerModel" "ends" "[[[I", Cond.methodLink RX3 47 yX3_isPoint, Cond.static yX3_isPoint, Cond.code yX3_isPoint cX3_isPoint 1 (some .boolean), Cond.methodLink RX3 51 yX3_isDigit, Cond.static yX3_isDigit, Cond.code yX3_isDigit cX3_isDigit 1 (some .boolean), Cond.methodLink RX3 73 yX3_look_, Cond.instanceMethod yX3_look_, Cond.selects RX3 yX3_look_ yX3_look_, Cond.code yX3_look_ cX3_look_ 3 none, Cond.methodLink RX3 76 yX3_judged, Cond.instanceMethod yX3_judged, Cond.selects RX3 yX3_judged yX3_judged]
def wsX3_put_r2 : List Cond := [Cond.code yX3_judged cX3_judged 2 (some (.array .int)), Cond.arrayClass .int, Cond.methodLink RX3 69 yX3_rows, Cond.instanceMethod yX3_rows, Cond.selects RX3 yX3_rows yX3_rows, Cond.code yX3_rows cX3_rows 7 (some .int), Cond.methodLink RX3 58 yX3_isNumber, Cond.instanceMethod yX3_isNumber, Cond.selects RX3 yX3_isNumber yX3_isNumber, Cond.code yX3_isNumber cX3_isNumber 4 (some .boolean), Cond.methodLink RX3 61 yX3_number, Cond.instanceMethod yX3_number, Cond.selects RX3 yX3_number yX3_number, Cond.code yX3_number cX3_number 6 (some .int), Cond.methodLink RX3 65 yX3_words, Cond.instanceMethod yX3_words, Cond.selects RX3 yX3_words yX3_words, Cond.code yX3_words cX3_words 8 (some .int)]
def wsX3_put : List Cond := .code yX3_put cX3_put 6 (some .int) :: ((wsX3_put_r1 ++ wsX3_put_r2) ++ wsX30)
def wsX3_behind_r1 : List Cond := [Cond.fieldLink RX3 18 "ReleaseledgerModel" "sizes" "[I", Cond.methodLink RX3 122 yX3_longer, Cond.instanceMethod yX3_longer, Cond.selects RX3 yX3_longer yX3_longer, Cond.initialized RX3, Cond.code yX3_longer cX3_longer 4 (some (.array .char)), Cond.arrayClass .char, Cond.fieldLink RX3 15 "ReleaseledgerModel" "texts" "[[C", Cond.methodLink RX3 88 yX3_digits, Cond.static yX3_digits, Cond.code yX3_digits cX3_digits 7 (some .int), Cond.methodLink RX3 80 yX3_length, Cond.static yX3_length, Cond.code yX3_length cX3_length 3 (some .int), Cond.methodLink RX3 126 yX3_put, Cond.instanceMethod yX3_put, Cond.selects RX3 yX3_put yX3_put, Cond.code yX3_put cX3_put 6 (some .int), Cond.methodLink RX3 54 yX3_look, Cond.instanceMethod yX3_look, Cond.selects RX3 yX3_look yX3_look, Cond.code yX3_look cX3_look 8 none, Cond.fieldLink RX3 23 "ReleaseledgerModel" "seen" "[[C", Cond.fieldLink RX3 28 "ReleaseledgerModel" "many" "[[I"]
def wsX3_behind_r2 : List Cond := [Cond.fieldLink RX3 33 "ReleaseledgerModel" "starts" "[[[I", Cond.fieldLink RX3 36 "ReleaseledgerModel" "ends" "[[[I", Cond.methodLink RX3 47 yX3_isPoint, Cond.static yX3_isPoint, Cond.code yX3_isPoint cX3_isPoint 1 (some .boolean), Cond.methodLink RX3 51 yX3_isDigit, Cond.static yX3_isDigit, Cond.code yX3_isDigit cX3_isDigit 1 (some .boolean), Cond.methodLink RX3 73 yX3_look_, Cond.instanceMethod yX3_look_, Cond.selects RX3 yX3_look_ yX3_look_, Cond.code yX3_look_ cX3_look_ 3 none, Cond.methodLink RX3 76 yX3_judged, Cond.instanceMethod yX3_judged, Cond.selects RX3 yX3_judged yX3_judged, Cond.code yX3_judged cX3_judged 2 (some (.array .int)), Cond.arrayClass .int, Cond.methodLink RX3 69 yX3_rows, Cond.instanceMethod yX3_rows, Cond.selects RX3 yX3_rows yX3_rows, Cond.code yX3_rows cX3_rows 7 (some .int), Cond.methodLink RX3 58 yX3_isNumber, Cond.instanceMethod yX3_isNumber, Cond.selects RX3 yX3_isNumber yX3_isNumber]
def wsX3_behind_r3 : List Cond := [Cond.code yX3_isNumber cX3_isNumber 4 (some .boolean), Cond.methodLink RX3 61 yX3_number, Cond.instanceMethod yX3_number, Cond.selects RX3 yX3_number yX3_number, Cond.code yX3_number cX3_number 6 (some .int), Cond.methodLink RX3 65 yX3_words, Cond.instanceMethod yX3_words, Cond.selects RX3 yX3_words yX3_words, Cond.code yX3_words cX3_words 8 (some .int)]
def wsX3_behind : List Cond := .code yX3_behind cX3_behind 6 (some .int) :: ((wsX3_behind_r1 ++ (wsX3_behind_r2 ++ wsX3_behind_r3)) ++ wsX30)
def wsX3_hasRoom : List Cond := .code yX3_hasRoom cX3_hasRoom 3 (some .boolean) :: ([.fieldLink RX3 18 "ReleaseledgerModel" "sizes" "[I", .methodLink RX3 80 yX3_length, .static yX3_length, .initialized RX3, .code yX3_length cX3_length 3 (some .int)] ++ wsX30)
def wsX3_zero_r1 : List Cond := [Cond.methodLink RX3 108 yX3_isSlot, Cond.static yX3_isSlot, Cond.initialized RX3, Cond.code yX3_isSlot cX3_isSlot 1 (some .boolean), Cond.methodLink RX3 43 yX3_in, Cond.static yX3_in, Cond.code yX3_in cX3_in 3 (some .boolean), Cond.methodLink RX3 84 yX3_no, Cond.instanceMethod yX3_no, Cond.selects RX3 yX3_no yX3_no, Cond.code yX3_no cX3_no 3 (some .boolean), Cond.fieldLink RX3 39 "ReleaseledgerModel" "thrown" "I", Cond.methodLink RX3 130 yX3_hasRoom, Cond.instanceMethod yX3_hasRoom, Cond.selects RX3 yX3_hasRoom yX3_hasRoom, Cond.code yX3_hasRoom cX3_hasRoom 3 (some .boolean), Cond.fieldLink RX3 18 "ReleaseledgerModel" "sizes" "[I", Cond.methodLink RX3 80 yX3_length, Cond.static yX3_length, Cond.code yX3_length cX3_length 3 (some .int), Cond.methodLink RX3 134 yX3_behind, Cond.instanceMethod yX3_behind, Cond.selects RX3 yX3_behind yX3_behind, Cond.code yX3_behind cX3_behind 6 (some .int)]
def wsX3_zero_r2 : List Cond := [Cond.methodLink RX3 122 yX3_longer, Cond.instanceMethod yX3_longer, Cond.selects RX3 yX3_longer yX3_longer, Cond.code yX3_longer cX3_longer 4 (some (.array .char)), Cond.arrayClass .char, Cond.fieldLink RX3 15 "ReleaseledgerModel" "texts" "[[C", Cond.methodLink RX3 88 yX3_digits, Cond.static yX3_digits, Cond.code yX3_digits cX3_digits 7 (some .int), Cond.methodLink RX3 126 yX3_put, Cond.instanceMethod yX3_put, Cond.selects RX3 yX3_put yX3_put, Cond.code yX3_put cX3_put 6 (some .int), Cond.methodLink RX3 54 yX3_look, Cond.instanceMethod yX3_look, Cond.selects RX3 yX3_look yX3_look, Cond.code yX3_look cX3_look 8 none, Cond.fieldLink RX3 23 "ReleaseledgerModel" "seen" "[[C", Cond.fieldLink RX3 28 "ReleaseledgerModel" "many" "[[I", Cond.fieldLink RX3 33 "ReleaseledgerModel" "starts" "[[[I", Cond.fieldLink RX3 36 "ReleaseledgerModel" "ends" "[[[I", Cond.methodLink RX3 47 yX3_isPoint, Cond.static yX3_isPoint, Cond.code yX3_isPoint cX3_isPoint 1 (some .boolean)]
def wsX3_zero_r3 : List Cond := [Cond.methodLink RX3 51 yX3_isDigit, Cond.static yX3_isDigit, Cond.code yX3_isDigit cX3_isDigit 1 (some .boolean), Cond.methodLink RX3 73 yX3_look_, Cond.instanceMethod yX3_look_, Cond.selects RX3 yX3_look_ yX3_look_, Cond.code yX3_look_ cX3_look_ 3 none, Cond.methodLink RX3 76 yX3_judged, Cond.instanceMethod yX3_judged, Cond.selects RX3 yX3_judged yX3_judged, Cond.code yX3_judged cX3_judged 2 (some (.array .int)), Cond.arrayClass .int, Cond.methodLink RX3 69 yX3_rows, Cond.instanceMethod yX3_rows, Cond.selects RX3 yX3_rows yX3_rows, Cond.code yX3_rows cX3_rows 7 (some .int), Cond.methodLink RX3 58 yX3_isNumber, Cond.instanceMethod yX3_isNumber, Cond.selects RX3 yX3_isNumber yX3_isNumber, Cond.code yX3_isNumber cX3_isNumber 4 (some .boolean), Cond.methodLink RX3 61 yX3_number, Cond.instanceMethod yX3_number, Cond.selects RX3 yX3_number yX3_number, Cond.code yX3_number cX3_number 6 (some .int)]
def wsX3_zero_r4 : List Cond := [Cond.methodLink RX3 65 yX3_words, Cond.instanceMethod yX3_words, Cond.selects RX3 yX3_words yX3_words, Cond.code yX3_words cX3_words 8 (some .int)]
def wsX3_zero : List Cond := .code yX3_zero cX3_zero 3 (some .boolean) :: ((wsX3_zero_r1 ++ (wsX3_zero_r2 ++ (wsX3_zero_r3 ++ wsX3_zero_r4))) ++ wsX30)
def wsX3_longer__r1 : List Cond := [Cond.methodLink RX3 108 yX3_isSlot, Cond.static yX3_isSlot, Cond.initialized RX3, Cond.code yX3_isSlot cX3_isSlot 1 (some .boolean), Cond.methodLink RX3 43 yX3_in, Cond.static yX3_in, Cond.code yX3_in cX3_in 3 (some .boolean), Cond.methodLink RX3 84 yX3_no, Cond.instanceMethod yX3_no, Cond.selects RX3 yX3_no yX3_no, Cond.code yX3_no cX3_no 3 (some .boolean), Cond.fieldLink RX3 39 "ReleaseledgerModel" "thrown" "I", Cond.methodLink RX3 130 yX3_hasRoom, Cond.instanceMethod yX3_hasRoom, Cond.selects RX3 yX3_hasRoom yX3_hasRoom, Cond.code yX3_hasRoom cX3_hasRoom 3 (some .boolean), Cond.fieldLink RX3 18 "ReleaseledgerModel" "sizes" "[I", Cond.methodLink RX3 80 yX3_length, Cond.static yX3_length, Cond.code yX3_length cX3_length 3 (some .int), Cond.methodLink RX3 134 yX3_behind, Cond.instanceMethod yX3_behind, Cond.selects RX3 yX3_behind yX3_behind, Cond.code yX3_behind cX3_behind 6 (some .int)]
def wsX3_longer__r2 : List Cond := [Cond.methodLink RX3 122 yX3_longer, Cond.instanceMethod yX3_longer, Cond.selects RX3 yX3_longer yX3_longer, Cond.code yX3_longer cX3_longer 4 (some (.array .char)), Cond.arrayClass .char, Cond.fieldLink RX3 15 "ReleaseledgerModel" "texts" "[[C", Cond.methodLink RX3 88 yX3_digits, Cond.static yX3_digits, Cond.code yX3_digits cX3_digits 7 (some .int), Cond.methodLink RX3 126 yX3_put, Cond.instanceMethod yX3_put, Cond.selects RX3 yX3_put yX3_put, Cond.code yX3_put cX3_put 6 (some .int), Cond.methodLink RX3 54 yX3_look, Cond.instanceMethod yX3_look, Cond.selects RX3 yX3_look yX3_look, Cond.code yX3_look cX3_look 8 none, Cond.fieldLink RX3 23 "ReleaseledgerModel" "seen" "[[C", Cond.fieldLink RX3 28 "ReleaseledgerModel" "many" "[[I", Cond.fieldLink RX3 33 "ReleaseledgerModel" "starts" "[[[I", Cond.fieldLink RX3 36 "ReleaseledgerModel" "ends" "[[[I", Cond.methodLink RX3 47 yX3_isPoint, Cond.static yX3_isPoint, Cond.code yX3_isPoint cX3_isPoint 1 (some .boolean)]
def wsX3_longer__r3 : List Cond := [Cond.methodLink RX3 51 yX3_isDigit, Cond.static yX3_isDigit, Cond.code yX3_isDigit cX3_isDigit 1 (some .boolean), Cond.methodLink RX3 73 yX3_look_, Cond.instanceMethod yX3_look_, Cond.selects RX3 yX3_look_ yX3_look_, Cond.code yX3_look_ cX3_look_ 3 none, Cond.methodLink RX3 76 yX3_judged, Cond.instanceMethod yX3_judged, Cond.selects RX3 yX3_judged yX3_judged, Cond.code yX3_judged cX3_judged 2 (some (.array .int)), Cond.arrayClass .int, Cond.methodLink RX3 69 yX3_rows, Cond.instanceMethod yX3_rows, Cond.selects RX3 yX3_rows yX3_rows, Cond.code yX3_rows cX3_rows 7 (some .int), Cond.methodLink RX3 58 yX3_isNumber, Cond.instanceMethod yX3_isNumber, Cond.selects RX3 yX3_isNumber yX3_isNumber, Cond.code yX3_isNumber cX3_isNumber 4 (some .boolean), Cond.methodLink RX3 61 yX3_number, Cond.instanceMethod yX3_number, Cond.selects RX3 yX3_number yX3_number, Cond.code yX3_number cX3_number 6 (some .int)]
def wsX3_longer__r4 : List Cond := [Cond.methodLink RX3 65 yX3_words, Cond.instanceMethod yX3_words, Cond.selects RX3 yX3_words yX3_words, Cond.code yX3_words cX3_words 8 (some .int)]
def wsX3_longer_ : List Cond := .code yX3_longer_ cX3_longer_ 4 (some .boolean) :: ((wsX3_longer__r1 ++ (wsX3_longer__r2 ++ (wsX3_longer__r3 ++ wsX3_longer__r4))) ++ wsX30)
def wsX3_early_r1 : List Cond := [Cond.fieldLink RX3 28 "ReleaseledgerModel" "many" "[[I", Cond.fieldLink RX3 18 "ReleaseledgerModel" "sizes" "[I", Cond.methodLink RX3 108 yX3_isSlot, Cond.static yX3_isSlot, Cond.initialized RX3, Cond.code yX3_isSlot cX3_isSlot 1 (some .boolean), Cond.methodLink RX3 43 yX3_in, Cond.static yX3_in, Cond.code yX3_in cX3_in 3 (some .boolean), Cond.methodLink RX3 84 yX3_no, Cond.instanceMethod yX3_no, Cond.selects RX3 yX3_no yX3_no, Cond.code yX3_no cX3_no 3 (some .boolean), Cond.fieldLink RX3 39 "ReleaseledgerModel" "thrown" "I", Cond.methodLink RX3 73 yX3_look_, Cond.instanceMethod yX3_look_, Cond.selects RX3 yX3_look_ yX3_look_, Cond.code yX3_look_ cX3_look_ 3 none, Cond.fieldLink RX3 15 "ReleaseledgerModel" "texts" "[[C", Cond.methodLink RX3 54 yX3_look, Cond.instanceMethod yX3_look, Cond.selects RX3 yX3_look yX3_look, Cond.code yX3_look cX3_look 8 none, Cond.fieldLink RX3 23 "ReleaseledgerModel" "seen" "[[C"]
def wsX3_early_r2 : List Cond := [Cond.fieldLink RX3 33 "ReleaseledgerModel" "starts" "[[[I", Cond.fieldLink RX3 36 "ReleaseledgerModel" "ends" "[[[I", Cond.methodLink RX3 47 yX3_isPoint, Cond.static yX3_isPoint, Cond.code yX3_isPoint cX3_isPoint 1 (some .boolean), Cond.methodLink RX3 51 yX3_isDigit, Cond.static yX3_isDigit, Cond.code yX3_isDigit cX3_isDigit 1 (some .boolean), Cond.methodLink RX3 122 yX3_longer, Cond.instanceMethod yX3_longer, Cond.selects RX3 yX3_longer yX3_longer, Cond.code yX3_longer cX3_longer 4 (some (.array .char)), Cond.arrayClass .char, Cond.methodLink RX3 126 yX3_put, Cond.instanceMethod yX3_put, Cond.selects RX3 yX3_put yX3_put, Cond.code yX3_put cX3_put 6 (some .int), Cond.methodLink RX3 76 yX3_judged, Cond.instanceMethod yX3_judged, Cond.selects RX3 yX3_judged yX3_judged, Cond.code yX3_judged cX3_judged 2 (some (.array .int)), Cond.arrayClass .int, Cond.methodLink RX3 69 yX3_rows, Cond.instanceMethod yX3_rows]
def wsX3_early_r3 : List Cond := [Cond.selects RX3 yX3_rows yX3_rows, Cond.code yX3_rows cX3_rows 7 (some .int), Cond.methodLink RX3 58 yX3_isNumber, Cond.instanceMethod yX3_isNumber, Cond.selects RX3 yX3_isNumber yX3_isNumber, Cond.code yX3_isNumber cX3_isNumber 4 (some .boolean), Cond.methodLink RX3 61 yX3_number, Cond.instanceMethod yX3_number, Cond.selects RX3 yX3_number yX3_number, Cond.code yX3_number cX3_number 6 (some .int), Cond.methodLink RX3 65 yX3_words, Cond.instanceMethod yX3_words, Cond.selects RX3 yX3_words yX3_words, Cond.code yX3_words cX3_words 8 (some .int)]
def wsX3_early : List Cond := .code yX3_early cX3_early 5 (some .boolean) :: ((wsX3_early_r1 ++ (wsX3_early_r2 ++ wsX3_early_r3)) ++ wsX30)
def wsX3_built_r1 : List Cond := [Cond.fieldLink RX3 28 "ReleaseledgerModel" "many" "[[I", Cond.methodLink RX3 108 yX3_isSlot, Cond.static yX3_isSlot, Cond.initialized RX3, Cond.code yX3_isSlot cX3_isSlot 1 (some .boolean), Cond.methodLink RX3 43 yX3_in, Cond.static yX3_in, Cond.code yX3_in cX3_in 3 (some .boolean), Cond.methodLink RX3 84 yX3_no, Cond.instanceMethod yX3_no, Cond.selects RX3 yX3_no yX3_no, Cond.code yX3_no cX3_no 3 (some .boolean), Cond.fieldLink RX3 39 "ReleaseledgerModel" "thrown" "I", Cond.methodLink RX3 73 yX3_look_, Cond.instanceMethod yX3_look_, Cond.selects RX3 yX3_look_ yX3_look_, Cond.code yX3_look_ cX3_look_ 3 none, Cond.fieldLink RX3 15 "ReleaseledgerModel" "texts" "[[C", Cond.fieldLink RX3 18 "ReleaseledgerModel" "sizes" "[I", Cond.methodLink RX3 54 yX3_look, Cond.instanceMethod yX3_look, Cond.selects RX3 yX3_look yX3_look, Cond.code yX3_look cX3_look 8 none, Cond.fieldLink RX3 23 "ReleaseledgerModel" "seen" "[[C"]
def wsX3_built_r2 : List Cond := [Cond.fieldLink RX3 33 "ReleaseledgerModel" "starts" "[[[I", Cond.fieldLink RX3 36 "ReleaseledgerModel" "ends" "[[[I", Cond.methodLink RX3 47 yX3_isPoint, Cond.static yX3_isPoint, Cond.code yX3_isPoint cX3_isPoint 1 (some .boolean), Cond.methodLink RX3 51 yX3_isDigit, Cond.static yX3_isDigit, Cond.code yX3_isDigit cX3_isDigit 1 (some .boolean), Cond.methodLink RX3 130 yX3_hasRoom, Cond.instanceMethod yX3_hasRoom, Cond.selects RX3 yX3_hasRoom yX3_hasRoom, Cond.code yX3_hasRoom cX3_hasRoom 3 (some .boolean), Cond.methodLink RX3 80 yX3_length, Cond.static yX3_length, Cond.code yX3_length cX3_length 3 (some .int), Cond.methodLink RX3 134 yX3_behind, Cond.instanceMethod yX3_behind, Cond.selects RX3 yX3_behind yX3_behind, Cond.code yX3_behind cX3_behind 6 (some .int), Cond.methodLink RX3 122 yX3_longer, Cond.instanceMethod yX3_longer, Cond.selects RX3 yX3_longer yX3_longer, Cond.code yX3_longer cX3_longer 4 (some (.array .char)), Cond.arrayClass .char]
def wsX3_built_r3 : List Cond := [Cond.methodLink RX3 88 yX3_digits, Cond.static yX3_digits, Cond.code yX3_digits cX3_digits 7 (some .int), Cond.methodLink RX3 126 yX3_put, Cond.instanceMethod yX3_put, Cond.selects RX3 yX3_put yX3_put, Cond.code yX3_put cX3_put 6 (some .int), Cond.methodLink RX3 76 yX3_judged, Cond.instanceMethod yX3_judged, Cond.selects RX3 yX3_judged yX3_judged, Cond.code yX3_judged cX3_judged 2 (some (.array .int)), Cond.arrayClass .int, Cond.methodLink RX3 69 yX3_rows, Cond.instanceMethod yX3_rows, Cond.selects RX3 yX3_rows yX3_rows, Cond.code yX3_rows cX3_rows 7 (some .int), Cond.methodLink RX3 58 yX3_isNumber, Cond.instanceMethod yX3_isNumber, Cond.selects RX3 yX3_isNumber yX3_isNumber, Cond.code yX3_isNumber cX3_isNumber 4 (some .boolean), Cond.methodLink RX3 61 yX3_number, Cond.instanceMethod yX3_number, Cond.selects RX3 yX3_number yX3_number, Cond.code yX3_number cX3_number 6 (some .int)]
def wsX3_built_r4 : List Cond := [Cond.methodLink RX3 65 yX3_words, Cond.instanceMethod yX3_words, Cond.selects RX3 yX3_words yX3_words, Cond.code yX3_words cX3_words 8 (some .int)]
def wsX3_built : List Cond := .code yX3_built cX3_built 4 (some .int) :: ((wsX3_built_r1 ++ (wsX3_built_r2 ++ (wsX3_built_r3 ++ wsX3_built_r4))) ++ wsX30)
def wsX3_isHashed : List Cond := .code yX3_isHashed cX3_isHashed 2 (some .boolean) :: ([.methodLink RX3 108 yX3_isSlot, .static yX3_isSlot, .initialized RX3, .code yX3_isSlot cX3_isSlot 1 (some .boolean), .methodLink RX3 43 yX3_in, .static yX3_in, .code yX3_in cX3_in 3 (some .boolean), .methodLink RX3 84 yX3_no, .instanceMethod yX3_no, .selects RX3 yX3_no yX3_no, .code yX3_no cX3_no 3 (some .boolean), .fieldLink RX3 39 "ReleaseledgerModel" "thrown" "I"] ++ wsX30)
def wsX3_wordShare_r1 : List Cond := [Cond.fieldLink RX3 39 "ReleaseledgerModel" "thrown" "I", Cond.fieldLink RX3 28 "ReleaseledgerModel" "many" "[[I", Cond.methodLink RX3 73 yX3_look_, Cond.instanceMethod yX3_look_, Cond.selects RX3 yX3_look_ yX3_look_, Cond.initialized RX3, Cond.code yX3_look_ cX3_look_ 3 none, Cond.fieldLink RX3 15 "ReleaseledgerModel" "texts" "[[C", Cond.fieldLink RX3 18 "ReleaseledgerModel" "sizes" "[I", Cond.methodLink RX3 54 yX3_look, Cond.instanceMethod yX3_look, Cond.selects RX3 yX3_look yX3_look, Cond.code yX3_look cX3_look 8 none, Cond.fieldLink RX3 23 "ReleaseledgerModel" "seen" "[[C", Cond.fieldLink RX3 33 "ReleaseledgerModel" "starts" "[[[I", Cond.fieldLink RX3 36 "ReleaseledgerModel" "ends" "[[[I", Cond.methodLink RX3 47 yX3_isPoint, Cond.static yX3_isPoint, Cond.code yX3_isPoint cX3_isPoint 1 (some .boolean), Cond.methodLink RX3 51 yX3_isDigit, Cond.static yX3_isDigit, Cond.code yX3_isDigit cX3_isDigit 1 (some .boolean), Cond.methodLink RX3 58 yX3_isNumber, Cond.instanceMethod yX3_isNumber]
def wsX3_wordShare_r2 : List Cond := [Cond.selects RX3 yX3_isNumber yX3_isNumber, Cond.code yX3_isNumber cX3_isNumber 4 (some .boolean)]
def wsX3_wordShare : List Cond := .code yX3_wordShare cX3_wordShare 6 (some .float) :: ((wsX3_wordShare_r1 ++ wsX3_wordShare_r2) ++ wsX30)
def wsX3_checksum : List Cond := .code yX3_checksum cX3_checksum 5 (some .long) :: ([.fieldLink RX3 39 "ReleaseledgerModel" "thrown" "I", .constantLong RX3 138 (23), .constantLong RX3 140 (31), .fieldLink RX3 92 "ReleaseledgerModel" "draftSize" "I", .fieldLink RX3 9 "ReleaseledgerModel" "draft" "[C", .fieldLink RX3 18 "ReleaseledgerModel" "sizes" "[I", .fieldLink RX3 15 "ReleaseledgerModel" "texts" "[[C"] ++ wsX30)
def wsX3_isTrue : List Cond := .code yX3_isTrue cX3_isTrue 1 (some .boolean) :: ([.fieldLink RX3 39 "ReleaseledgerModel" "thrown" "I"] ++ wsX30)
def wsJ9_max_7cf53 : List Cond := .code yJ9_max_7cf53 cJ9_max_7cf53 2 (some .int) :: ([])
def wsL_begin_r1 : List Cond := [Cond.classLink RL 13 "java/lang/IllegalArgumentException", Cond.methodLink RL 7 yX2_begin, Cond.instanceMethod yX2_begin, Cond.selects RX2 yX2_begin yX2_begin, Cond.initialized RX2, Cond.code yX2_begin cX2_begin 3 (some .int), Cond.constant RX2 37 (999999), Cond.fieldLink RX2 10 "Releaseledger" "draft" "LReleaseledger$Text;", Cond.methodLink RX2 38 yX2_checkNumber, Cond.static yX2_checkNumber, Cond.code yX2_checkNumber cX2_checkNumber 3 none, Cond.classLink RX2 73 "java/lang/IllegalArgumentException", Cond.initialized "java/lang/IllegalArgumentException", Cond.methodLink RX2 42 yX2_checkZeros, Cond.static yX2_checkZeros, Cond.code yX2_checkZeros cX2_checkZeros 1 none, Cond.methodLink RX2 46 yX0_clear, Cond.instanceMethod yX0_clear, Cond.selects RX0 yX0_clear yX0_clear, Cond.initialized RX0, Cond.code yX0_clear cX0_clear 1 none, Cond.fieldLink RX0 15 "Releaseledger$Text" "count" "I", Cond.methodLink RX2 49 yX0_putNumber, Cond.instanceMethod yX0_putNumber]
def wsL_begin_r2 : List Cond := [Cond.selects RX0 yX0_putNumber yX0_putNumber, Cond.code yX0_putNumber cX0_putNumber 4 none, Cond.constant RX0 31 (100000000), Cond.methodLink RX0 27 yX0_put, Cond.instanceMethod yX0_put, Cond.selects RX0 yX0_put yX0_put, Cond.code yX0_put cX0_put 2 none, Cond.fieldLink RX0 9 "Releaseledger$Text" "signs" "[C", Cond.methodLink RX2 53 yX0_length, Cond.instanceMethod yX0_length, Cond.selects RX0 yX0_length yX0_length, Cond.code yX0_length cX0_length 1 (some .int)]
def wsL_begin : List Cond := .codeWith yL_begin cL_begin 5 (some .int) [(0, 10, 13, 13)] :: ((wsL_begin_r1 ++ wsL_begin_r2) ++ wsX20 ++ wsX00 ++ (vx_atS RX2 77 "java/lang/IllegalArgumentException" ["java/lang/RuntimeException", "java/lang/Exception"]).filter goodWord)
def wsL_add_r1 : List Cond := [Cond.classLink RL 13 "java/lang/IllegalArgumentException", Cond.classLink RL 19 "java/lang/IllegalStateException", Cond.methodLink RL 15 yX2_add, Cond.instanceMethod yX2_add, Cond.selects RX2 yX2_add yX2_add, Cond.initialized RX2, Cond.code yX2_add cX2_add 4 (some .int), Cond.constant RX2 57 (999999999), Cond.fieldLink RX2 10 "Releaseledger" "draft" "LReleaseledger$Text;", Cond.methodLink RX2 38 yX2_checkNumber, Cond.static yX2_checkNumber, Cond.code yX2_checkNumber cX2_checkNumber 3 none, Cond.classLink RX2 73 "java/lang/IllegalArgumentException", Cond.initialized "java/lang/IllegalArgumentException", Cond.methodLink RX2 42 yX2_checkZeros, Cond.static yX2_checkZeros, Cond.code yX2_checkZeros cX2_checkZeros 1 none, Cond.methodLink RX2 58 yX2_checkWay, Cond.static yX2_checkWay, Cond.code yX2_checkWay cX2_checkWay 1 none, Cond.methodLink RX2 62 yX2_digitsOf, Cond.static yX2_digitsOf, Cond.code yX2_digitsOf cX2_digitsOf 3 (some .int), Cond.methodLink RX2 66 yX2_checkJoin]
def wsL_add_r2 : List Cond := [Cond.instanceMethod yX2_checkJoin, Cond.selects RX2 yX2_checkJoin yX2_checkJoin, Cond.code yX2_checkJoin cX2_checkJoin 4 none, Cond.classLink RX2 160 "java/lang/IllegalStateException", Cond.initialized "java/lang/IllegalStateException", Cond.methodLink RX2 53 yX0_length, Cond.instanceMethod yX0_length, Cond.selects RX0 yX0_length yX0_length, Cond.initialized RX0, Cond.code yX0_length cX0_length 1 (some .int), Cond.fieldLink RX0 15 "Releaseledger$Text" "count" "I", Cond.methodLink RX2 210 yX0_lastKind, Cond.instanceMethod yX0_lastKind, Cond.selects RX0 yX0_lastKind yX0_lastKind, Cond.code yX0_lastKind cX0_lastKind 1 (some .int), Cond.methodLink RX0 23 yX0_signAt, Cond.instanceMethod yX0_signAt, Cond.selects RX0 yX0_signAt yX0_signAt, Cond.code yX0_signAt cX0_signAt 2 (some .char), Cond.fieldLink RX0 9 "Releaseledger$Text" "signs" "[C", Cond.static yX2_kindOf, Cond.code yX2_kindOf cX2_kindOf 1 (some .int), Cond.methodLink RX2 215 yX0_has, Cond.instanceMethod yX0_has]
def wsL_add_r3 : List Cond := [Cond.selects RX0 yX0_has yX0_has, Cond.code yX0_has cX0_has 3 (some .boolean), Cond.methodLink RX2 147 yX2_checkRoom, Cond.static yX2_checkRoom, Cond.code yX2_checkRoom cX2_checkRoom 2 none, Cond.methodLink RX2 70 yX2_putJoint, Cond.instanceMethod yX2_putJoint, Cond.selects RX2 yX2_putJoint yX2_putJoint, Cond.code yX2_putJoint cX2_putJoint 2 none, Cond.methodLink RX2 109 yX0_put, Cond.instanceMethod yX0_put, Cond.selects RX0 yX0_put yX0_put, Cond.code yX0_put cX0_put 2 none, Cond.methodLink RX2 49 yX0_putNumber, Cond.instanceMethod yX0_putNumber, Cond.selects RX0 yX0_putNumber yX0_putNumber, Cond.code yX0_putNumber cX0_putNumber 4 none, Cond.constant RX0 31 (100000000), Cond.methodLink RX0 27 yX0_put]
def wsL_add : List Cond := .codeWith yL_add cL_add 6 (some .int) [(0, 12, 15, 13), (0, 12, 19, 19)] :: ((wsL_add_r1 ++ (wsL_add_r2 ++ wsL_add_r3)) ++ wsX20 ++ wsX00 ++ (vx_atS RX2 77 "java/lang/IllegalArgumentException" ["java/lang/RuntimeException", "java/lang/Exception"]).filter goodWord ++ (vx_atS RX2 164 "java/lang/IllegalStateException" ["java/lang/RuntimeException", "java/lang/Exception"]).filter goodWord)
def wsL_word_r1 : List Cond := [Cond.classLink RL 13 "java/lang/IllegalArgumentException", Cond.classLink RL 19 "java/lang/IllegalStateException", Cond.methodLink RL 21 yX2_word, Cond.instanceMethod yX2_word, Cond.selects RX2 yX2_word yX2_word, Cond.initialized RX2, Cond.code yX2_word cX2_word 4 (some .int), Cond.classLink RX2 73 "java/lang/IllegalArgumentException", Cond.initialized "java/lang/IllegalArgumentException", Cond.fieldLink RX2 10 "Releaseledger" "draft" "LReleaseledger$Text;", Cond.methodLink RX2 58 yX2_checkWay, Cond.static yX2_checkWay, Cond.code yX2_checkWay cX2_checkWay 1 none, Cond.methodLink RX2 66 yX2_checkJoin, Cond.instanceMethod yX2_checkJoin, Cond.selects RX2 yX2_checkJoin yX2_checkJoin, Cond.code yX2_checkJoin cX2_checkJoin 4 none, Cond.classLink RX2 160 "java/lang/IllegalStateException", Cond.initialized "java/lang/IllegalStateException", Cond.methodLink RX2 53 yX0_length, Cond.instanceMethod yX0_length, Cond.selects RX0 yX0_length yX0_length, Cond.initialized RX0, Cond.code yX0_length cX0_length 1 (some .int)]
def wsL_word_r2 : List Cond := [Cond.fieldLink RX0 15 "Releaseledger$Text" "count" "I", Cond.methodLink RX2 210 yX0_lastKind, Cond.instanceMethod yX0_lastKind, Cond.selects RX0 yX0_lastKind yX0_lastKind, Cond.code yX0_lastKind cX0_lastKind 1 (some .int), Cond.methodLink RX0 23 yX0_signAt, Cond.instanceMethod yX0_signAt, Cond.selects RX0 yX0_signAt yX0_signAt, Cond.code yX0_signAt cX0_signAt 2 (some .char), Cond.fieldLink RX0 9 "Releaseledger$Text" "signs" "[C", Cond.static yX2_kindOf, Cond.code yX2_kindOf cX2_kindOf 1 (some .int), Cond.methodLink RX2 215 yX0_has, Cond.instanceMethod yX0_has, Cond.selects RX0 yX0_has yX0_has, Cond.code yX0_has cX0_has 3 (some .boolean), Cond.methodLink RX2 147 yX2_checkRoom, Cond.static yX2_checkRoom, Cond.code yX2_checkRoom cX2_checkRoom 2 none, Cond.methodLink RX2 70 yX2_putJoint, Cond.instanceMethod yX2_putJoint, Cond.selects RX2 yX2_putJoint yX2_putJoint, Cond.code yX2_putJoint cX2_putJoint 2 none, Cond.methodLink RX2 109 yX0_put]
def wsL_word_r3 : List Cond := [Cond.instanceMethod yX0_put, Cond.selects RX0 yX0_put yX0_put, Cond.code yX0_put cX0_put 2 none, Cond.methodLink RX2 80 yX0_putWord, Cond.instanceMethod yX0_putWord, Cond.selects RX0 yX0_putWord yX0_putWord, Cond.code yX0_putWord cX0_putWord 5 none, Cond.constant RX0 32 (2147483647), Cond.static yX2_letterOf, Cond.code yX2_letterOf cX2_letterOf 1 (some .char), Cond.methodLink RX0 27 yX0_put]
def wsL_word : List Cond := .codeWith yL_word cL_word 6 (some .int) [(0, 12, 15, 13), (0, 12, 19, 19)] :: ((wsL_word_r1 ++ (wsL_word_r2 ++ wsL_word_r3)) ++ wsX20 ++ wsX00 ++ (vx_atS RX2 77 "java/lang/IllegalArgumentException" ["java/lang/RuntimeException", "java/lang/Exception"]).filter goodWord ++ (vx_atS RX2 164 "java/lang/IllegalStateException" ["java/lang/RuntimeException", "java/lang/Exception"]).filter goodWord)
def wsL_sign : List Cond := .codeWith yL_sign cL_sign 4 (some .int) [(0, 9, 12, 28)] :: ([.classLink RL 28 "java/lang/IndexOutOfBoundsException", .methodLink RL 24 yX2_sign, .instanceMethod yX2_sign, .selects RX2 yX2_sign yX2_sign, .initialized RX2, .code yX2_sign cX2_sign 2 (some .char), .fieldLink RX2 10 "Releaseledger" "draft" "LReleaseledger$Text;", .methodLink RX2 83 yX2_checkPlace, .static yX2_checkPlace, .code yX2_checkPlace cX2_checkPlace 2 none, .classLink RX2 126 "java/lang/IndexOutOfBoundsException", .initialized "java/lang/IndexOutOfBoundsException", .methodLink RX2 53 yX0_length, .instanceMethod yX0_length, .selects RX0 yX0_length yX0_length, .initialized RX0, .code yX0_length cX0_length 1 (some .int), .fieldLink RX0 15 "Releaseledger$Text" "count" "I", .methodLink RX2 87 yX0_signAt, .instanceMethod yX0_signAt, .selects RX0 yX0_signAt yX0_signAt, .code yX0_signAt cX0_signAt 2 (some .char), .fieldLink RX0 9 "Releaseledger$Text" "signs" "[C"] ++ wsX20 ++ wsX00 ++ (vx_atS RX2 130 "java/lang/IndexOutOfBoundsException" ["java/lang/RuntimeException", "java/lang/Exception"]).filter goodWord)
def wsL_parse_r1 : List Cond := [Cond.classLink RL 28 "java/lang/IndexOutOfBoundsException", Cond.classLink RL 13 "java/lang/IllegalArgumentException", Cond.methodLink RL 30 yX2_parse, Cond.instanceMethod yX2_parse, Cond.selects RX2 yX2_parse yX2_parse, Cond.initialized RX2, Cond.code yX2_parse cX2_parse 2 (some .int), Cond.classLink RX2 73 "java/lang/IllegalArgumentException", Cond.initialized "java/lang/IllegalArgumentException", Cond.fieldLink RX2 10 "Releaseledger" "draft" "LReleaseledger$Text;", Cond.fieldLink RX2 33 "Releaseledger" "spare" "LReleaseledger$Version;", Cond.methodLink RX2 91 yX2_checkSlot, Cond.static yX2_checkSlot, Cond.code yX2_checkSlot cX2_checkSlot 1 none, Cond.classLink RX2 126 "java/lang/IndexOutOfBoundsException", Cond.initialized "java/lang/IndexOutOfBoundsException", Cond.methodLink RX2 53 yX0_length, Cond.instanceMethod yX0_length, Cond.selects RX0 yX0_length yX0_length, Cond.initialized RX0, Cond.code yX0_length cX0_length 1 (some .int), Cond.fieldLink RX0 15 "Releaseledger$Text" "count" "I", Cond.methodLink RX2 96 yX1_tell, Cond.instanceMethod yX1_tell]
def wsL_parse_r2 : List Cond := [Cond.selects RX1 yX1_tell yX1_tell, Cond.initialized RX1, Cond.code yX1_tell cX1_tell 2 none, Cond.fieldLink RX1 12 "Releaseledger$Version" "told" "LReleaseledger$Text;", Cond.methodLink RX1 37 yX0_clear, Cond.instanceMethod yX0_clear, Cond.selects RX0 yX0_clear yX0_clear, Cond.code yX0_clear cX0_clear 1 none, Cond.methodLink RX1 40 yX0_putAll, Cond.instanceMethod yX0_putAll, Cond.selects RX0 yX0_putAll yX0_putAll, Cond.code yX0_putAll cX0_putAll 3 none, Cond.methodLink RX0 19 yX0_length, Cond.methodLink RX0 23 yX0_signAt, Cond.instanceMethod yX0_signAt, Cond.selects RX0 yX0_signAt yX0_signAt, Cond.code yX0_signAt cX0_signAt 2 (some .char), Cond.fieldLink RX0 9 "Releaseledger$Text" "signs" "[C", Cond.methodLink RX0 27 yX0_put, Cond.instanceMethod yX0_put, Cond.selects RX0 yX0_put yX0_put, Cond.code yX0_put cX0_put 2 none, Cond.methodLink RX2 100 yX1_readTokens, Cond.instanceMethod yX1_readTokens]
def wsL_parse_r3 : List Cond := [Cond.selects RX1 yX1_readTokens yX1_readTokens, Cond.code yX1_readTokens cX1_readTokens 6 none, Cond.fieldLink RX1 26 "Releaseledger$Version" "counts" "[I", Cond.methodLink RX1 44 yX0_length, Cond.methodLink RX1 48 yX0_signAt, Cond.static yX2_kindOf, Cond.code yX2_kindOf cX2_kindOf 1 (some .int), Cond.methodLink RX1 56 yX1_rowBehind, Cond.static yX1_rowBehind, Cond.code yX1_rowBehind cX1_rowBehind 2 (some .int), Cond.methodLink RX1 60 yX1_openToken, Cond.instanceMethod yX1_openToken, Cond.selects RX1 yX1_openToken yX1_openToken, Cond.code yX1_openToken cX1_openToken 5 none, Cond.fieldLink RX1 20 "Releaseledger$Version" "starts" "[[I", Cond.fieldLink RX1 23 "Releaseledger$Version" "sizes" "[[I", Cond.methodLink RX1 68 yX1_tokensIn, Cond.instanceMethod yX1_tokensIn, Cond.selects RX1 yX1_tokensIn yX1_tokensIn, Cond.code yX1_tokensIn cX1_tokensIn 2 (some .int), Cond.methodLink RX1 64 yX1_growToken, Cond.instanceMethod yX1_growToken, Cond.selects RX1 yX1_growToken yX1_growToken, Cond.code yX1_growToken cX1_growToken 6 none]
def wsL_parse_r4 : List Cond := [Cond.methodLink RX1 72 yX1_hasToken, Cond.instanceMethod yX1_hasToken, Cond.selects RX1 yX1_hasToken yX1_hasToken, Cond.code yX1_hasToken cX1_hasToken 3 (some .boolean), Cond.methodLink RX2 103 yX2_exchangeSpare, Cond.instanceMethod yX2_exchangeSpare, Cond.selects RX2 yX2_exchangeSpare yX2_exchangeSpare, Cond.code yX2_exchangeSpare cX2_exchangeSpare 4 (some .int), Cond.fieldLink RX2 18 "Releaseledger" "slots" "[LReleaseledger$Version;", Cond.methodLink RX2 112 yX2_versionIn, Cond.instanceMethod yX2_versionIn, Cond.selects RX2 yX2_versionIn yX2_versionIn, Cond.code yX2_versionIn cX2_versionIn 2 (some (.object "Releaseledger$Version")), Cond.methodLink RX2 135 yX1_orderTo, Cond.instanceMethod yX1_orderTo, Cond.selects RX1 yX1_orderTo yX1_orderTo, Cond.code yX1_orderTo cX1_orderTo 4 (some .int), Cond.methodLink RX1 76 yX1_orderOfRow, Cond.instanceMethod yX1_orderOfRow, Cond.selects RX1 yX1_orderOfRow yX1_orderOfRow, Cond.code yX1_orderOfRow cX1_orderOfRow 8 (some .int), Cond.methodLink RX1 84 Lib.Math.max.name, Cond.static Lib.Math.max.name, Cond.initialized "java/lang/Math"]
def wsL_parse_r5 : List Cond := [Cond.code Lib.Math.max.name Lib.Math.max.code 2 (some .int), Cond.methodLink RX1 80 yX1_hasRow, Cond.instanceMethod yX1_hasRow, Cond.selects RX1 yX1_hasRow yX1_hasRow, Cond.code yX1_hasRow cX1_hasRow 2 (some .boolean), Cond.methodLink RX1 90 yX1_sizeAt, Cond.instanceMethod yX1_sizeAt, Cond.selects RX1 yX1_sizeAt yX1_sizeAt, Cond.code yX1_sizeAt cX1_sizeAt 3 (some .int), Cond.methodLink RX1 93 yX1_orderOfWords, Cond.instanceMethod yX1_orderOfWords, Cond.selects RX1 yX1_orderOfWords yX1_orderOfWords, Cond.code yX1_orderOfWords cX1_orderOfWords 10 (some .int), Cond.methodLink RX1 103 yX1_startAt, Cond.instanceMethod yX1_startAt, Cond.selects RX1 yX1_startAt yX1_startAt, Cond.code yX1_startAt cX1_startAt 3 (some .int), Cond.static yX2_orderOfNumbers, Cond.code yX2_orderOfNumbers cX2_orderOfNumbers 2 (some .int), Cond.methodLink RX1 97 yX1_orderOfSizes, Cond.static yX1_orderOfSizes, Cond.code yX1_orderOfSizes cX1_orderOfSizes 2 (some .int)]
def wsL_parse : List Cond := .codeWith yL_parse cL_parse 4 (some .int) [(0, 9, 12, 28), (0, 9, 15, 13)] :: ((wsL_parse_r1 ++ (wsL_parse_r2 ++ (wsL_parse_r3 ++ (wsL_parse_r4 ++ wsL_parse_r5)))) ++ wsX20 ++ wsX00 ++ wsX10 ++ (vx_atS RX2 77 "java/lang/IllegalArgumentException" ["java/lang/RuntimeException", "java/lang/Exception"]).filter goodWord ++ (vx_atS RX2 130 "java/lang/IndexOutOfBoundsException" ["java/lang/RuntimeException", "java/lang/Exception"]).filter goodWord)
def wsL_triple_r1 : List Cond := [Cond.classLink RL 28 "java/lang/IndexOutOfBoundsException", Cond.classLink RL 13 "java/lang/IllegalArgumentException", Cond.methodLink RL 34 yX2_triple, Cond.instanceMethod yX2_triple, Cond.selects RX2 yX2_triple yX2_triple, Cond.initialized RX2, Cond.code yX2_triple cX2_triple 5 (some .int), Cond.constant RX2 37 (999999), Cond.fieldLink RX2 33 "Releaseledger" "spare" "LReleaseledger$Version;", Cond.methodLink RX2 91 yX2_checkSlot, Cond.static yX2_checkSlot, Cond.code yX2_checkSlot cX2_checkSlot 1 none, Cond.classLink RX2 126 "java/lang/IndexOutOfBoundsException", Cond.initialized "java/lang/IndexOutOfBoundsException", Cond.methodLink RX2 38 yX2_checkNumber, Cond.static yX2_checkNumber, Cond.code yX2_checkNumber cX2_checkNumber 3 none, Cond.classLink RX2 73 "java/lang/IllegalArgumentException", Cond.initialized "java/lang/IllegalArgumentException", Cond.methodLink RX2 46 yX0_clear, Cond.instanceMethod yX0_clear, Cond.selects RX0 yX0_clear yX0_clear, Cond.initialized RX0, Cond.code yX0_clear cX0_clear 1 none]
def wsL_triple_r2 : List Cond := [Cond.fieldLink RX0 15 "Releaseledger$Text" "count" "I", Cond.methodLink RX2 49 yX0_putNumber, Cond.instanceMethod yX0_putNumber, Cond.selects RX0 yX0_putNumber yX0_putNumber, Cond.code yX0_putNumber cX0_putNumber 4 none, Cond.constant RX0 31 (100000000), Cond.methodLink RX0 27 yX0_put, Cond.instanceMethod yX0_put, Cond.selects RX0 yX0_put yX0_put, Cond.code yX0_put cX0_put 2 none, Cond.fieldLink RX0 9 "Releaseledger$Text" "signs" "[C", Cond.methodLink RX2 109 yX0_put, Cond.methodLink RX2 100 yX1_readTokens, Cond.instanceMethod yX1_readTokens, Cond.selects RX1 yX1_readTokens yX1_readTokens, Cond.initialized RX1, Cond.code yX1_readTokens cX1_readTokens 6 none, Cond.fieldLink RX1 26 "Releaseledger$Version" "counts" "[I", Cond.fieldLink RX1 12 "Releaseledger$Version" "told" "LReleaseledger$Text;", Cond.methodLink RX1 44 yX0_length, Cond.instanceMethod yX0_length, Cond.selects RX0 yX0_length yX0_length, Cond.code yX0_length cX0_length 1 (some .int), Cond.methodLink RX1 48 yX0_signAt]
def wsL_triple_r3 : List Cond := [Cond.instanceMethod yX0_signAt, Cond.selects RX0 yX0_signAt yX0_signAt, Cond.code yX0_signAt cX0_signAt 2 (some .char), Cond.static yX2_kindOf, Cond.code yX2_kindOf cX2_kindOf 1 (some .int), Cond.methodLink RX1 56 yX1_rowBehind, Cond.static yX1_rowBehind, Cond.code yX1_rowBehind cX1_rowBehind 2 (some .int), Cond.methodLink RX1 60 yX1_openToken, Cond.instanceMethod yX1_openToken, Cond.selects RX1 yX1_openToken yX1_openToken, Cond.code yX1_openToken cX1_openToken 5 none, Cond.fieldLink RX1 20 "Releaseledger$Version" "starts" "[[I", Cond.fieldLink RX1 23 "Releaseledger$Version" "sizes" "[[I", Cond.methodLink RX1 68 yX1_tokensIn, Cond.instanceMethod yX1_tokensIn, Cond.selects RX1 yX1_tokensIn yX1_tokensIn, Cond.code yX1_tokensIn cX1_tokensIn 2 (some .int), Cond.methodLink RX1 64 yX1_growToken, Cond.instanceMethod yX1_growToken, Cond.selects RX1 yX1_growToken yX1_growToken, Cond.code yX1_growToken cX1_growToken 6 none, Cond.methodLink RX1 72 yX1_hasToken, Cond.instanceMethod yX1_hasToken]
def wsL_triple_r4 : List Cond := [Cond.selects RX1 yX1_hasToken yX1_hasToken, Cond.code yX1_hasToken cX1_hasToken 3 (some .boolean), Cond.methodLink RX2 103 yX2_exchangeSpare, Cond.instanceMethod yX2_exchangeSpare, Cond.selects RX2 yX2_exchangeSpare yX2_exchangeSpare, Cond.code yX2_exchangeSpare cX2_exchangeSpare 4 (some .int), Cond.fieldLink RX2 18 "Releaseledger" "slots" "[LReleaseledger$Version;", Cond.methodLink RX2 112 yX2_versionIn, Cond.instanceMethod yX2_versionIn, Cond.selects RX2 yX2_versionIn yX2_versionIn, Cond.code yX2_versionIn cX2_versionIn 2 (some (.object "Releaseledger$Version")), Cond.methodLink RX2 135 yX1_orderTo, Cond.instanceMethod yX1_orderTo, Cond.selects RX1 yX1_orderTo yX1_orderTo, Cond.code yX1_orderTo cX1_orderTo 4 (some .int), Cond.methodLink RX1 76 yX1_orderOfRow, Cond.instanceMethod yX1_orderOfRow, Cond.selects RX1 yX1_orderOfRow yX1_orderOfRow, Cond.code yX1_orderOfRow cX1_orderOfRow 8 (some .int), Cond.methodLink RX1 84 Lib.Math.max.name, Cond.static Lib.Math.max.name, Cond.initialized "java/lang/Math", Cond.code Lib.Math.max.name Lib.Math.max.code 2 (some .int), Cond.methodLink RX1 80 yX1_hasRow]
def wsL_triple_r5 : List Cond := [Cond.instanceMethod yX1_hasRow, Cond.selects RX1 yX1_hasRow yX1_hasRow, Cond.code yX1_hasRow cX1_hasRow 2 (some .boolean), Cond.methodLink RX1 90 yX1_sizeAt, Cond.instanceMethod yX1_sizeAt, Cond.selects RX1 yX1_sizeAt yX1_sizeAt, Cond.code yX1_sizeAt cX1_sizeAt 3 (some .int), Cond.methodLink RX1 93 yX1_orderOfWords, Cond.instanceMethod yX1_orderOfWords, Cond.selects RX1 yX1_orderOfWords yX1_orderOfWords, Cond.code yX1_orderOfWords cX1_orderOfWords 10 (some .int), Cond.methodLink RX1 103 yX1_startAt, Cond.instanceMethod yX1_startAt, Cond.selects RX1 yX1_startAt yX1_startAt, Cond.code yX1_startAt cX1_startAt 3 (some .int), Cond.static yX2_orderOfNumbers, Cond.code yX2_orderOfNumbers cX2_orderOfNumbers 2 (some .int), Cond.methodLink RX1 97 yX1_orderOfSizes, Cond.static yX1_orderOfSizes, Cond.code yX1_orderOfSizes cX1_orderOfSizes 2 (some .int)]
def wsL_triple : List Cond := .codeWith yL_triple cL_triple 7 (some .int) [(0, 14, 17, 28), (0, 14, 21, 13)] :: ((wsL_triple_r1 ++ (wsL_triple_r2 ++ (wsL_triple_r3 ++ (wsL_triple_r4 ++ wsL_triple_r5)))) ++ wsX20 ++ wsX10 ++ wsX00 ++ (vx_atS RX2 130 "java/lang/IndexOutOfBoundsException" ["java/lang/RuntimeException", "java/lang/Exception"]).filter goodWord ++ (vx_atS RX2 77 "java/lang/IllegalArgumentException" ["java/lang/RuntimeException", "java/lang/Exception"]).filter goodWord)
def wsL_copy_r1 : List Cond := [Cond.classLink RL 28 "java/lang/IndexOutOfBoundsException", Cond.methodLink RL 38 yX2_copy, Cond.instanceMethod yX2_copy, Cond.selects RX2 yX2_copy yX2_copy, Cond.initialized RX2, Cond.code yX2_copy cX2_copy 4 (some .int), Cond.methodLink RX2 112 yX2_versionIn, Cond.instanceMethod yX2_versionIn, Cond.selects RX2 yX2_versionIn yX2_versionIn, Cond.code yX2_versionIn cX2_versionIn 2 (some (.object "Releaseledger$Version")), Cond.fieldLink RX2 18 "Releaseledger" "slots" "[LReleaseledger$Version;", Cond.methodLink RX2 91 yX2_checkSlot, Cond.static yX2_checkSlot, Cond.code yX2_checkSlot cX2_checkSlot 1 none, Cond.classLink RX2 126 "java/lang/IndexOutOfBoundsException", Cond.initialized "java/lang/IndexOutOfBoundsException", Cond.methodLink RX2 116 yX2_parseAnew, Cond.instanceMethod yX2_parseAnew, Cond.selects RX2 yX2_parseAnew yX2_parseAnew, Cond.code yX2_parseAnew cX2_parseAnew 2 none, Cond.fieldLink RX2 33 "Releaseledger" "spare" "LReleaseledger$Version;", Cond.methodLink RX2 96 yX1_tell, Cond.instanceMethod yX1_tell, Cond.selects RX1 yX1_tell yX1_tell]
def wsL_copy_r2 : List Cond := [Cond.initialized RX1, Cond.code yX1_tell cX1_tell 2 none, Cond.fieldLink RX1 12 "Releaseledger$Version" "told" "LReleaseledger$Text;", Cond.methodLink RX1 37 yX0_clear, Cond.instanceMethod yX0_clear, Cond.selects RX0 yX0_clear yX0_clear, Cond.initialized RX0, Cond.code yX0_clear cX0_clear 1 none, Cond.fieldLink RX0 15 "Releaseledger$Text" "count" "I", Cond.methodLink RX1 40 yX0_putAll, Cond.instanceMethod yX0_putAll, Cond.selects RX0 yX0_putAll yX0_putAll, Cond.code yX0_putAll cX0_putAll 3 none, Cond.methodLink RX0 19 yX0_length, Cond.instanceMethod yX0_length, Cond.selects RX0 yX0_length yX0_length, Cond.code yX0_length cX0_length 1 (some .int), Cond.methodLink RX0 23 yX0_signAt, Cond.instanceMethod yX0_signAt, Cond.selects RX0 yX0_signAt yX0_signAt, Cond.code yX0_signAt cX0_signAt 2 (some .char), Cond.fieldLink RX0 9 "Releaseledger$Text" "signs" "[C", Cond.methodLink RX0 27 yX0_put, Cond.instanceMethod yX0_put]
def wsL_copy_r3 : List Cond := [Cond.selects RX0 yX0_put yX0_put, Cond.code yX0_put cX0_put 2 none, Cond.methodLink RX2 100 yX1_readTokens, Cond.instanceMethod yX1_readTokens, Cond.selects RX1 yX1_readTokens yX1_readTokens, Cond.code yX1_readTokens cX1_readTokens 6 none, Cond.fieldLink RX1 26 "Releaseledger$Version" "counts" "[I", Cond.methodLink RX1 44 yX0_length, Cond.methodLink RX1 48 yX0_signAt, Cond.static yX2_kindOf, Cond.code yX2_kindOf cX2_kindOf 1 (some .int), Cond.methodLink RX1 56 yX1_rowBehind, Cond.static yX1_rowBehind, Cond.code yX1_rowBehind cX1_rowBehind 2 (some .int), Cond.methodLink RX1 60 yX1_openToken, Cond.instanceMethod yX1_openToken, Cond.selects RX1 yX1_openToken yX1_openToken, Cond.code yX1_openToken cX1_openToken 5 none, Cond.fieldLink RX1 20 "Releaseledger$Version" "starts" "[[I", Cond.fieldLink RX1 23 "Releaseledger$Version" "sizes" "[[I", Cond.methodLink RX1 68 yX1_tokensIn, Cond.instanceMethod yX1_tokensIn, Cond.selects RX1 yX1_tokensIn yX1_tokensIn, Cond.code yX1_tokensIn cX1_tokensIn 2 (some .int)]
def wsL_copy_r4 : List Cond := [Cond.methodLink RX1 64 yX1_growToken, Cond.instanceMethod yX1_growToken, Cond.selects RX1 yX1_growToken yX1_growToken, Cond.code yX1_growToken cX1_growToken 6 none, Cond.methodLink RX1 72 yX1_hasToken, Cond.instanceMethod yX1_hasToken, Cond.selects RX1 yX1_hasToken yX1_hasToken, Cond.code yX1_hasToken cX1_hasToken 3 (some .boolean), Cond.methodLink RX2 103 yX2_exchangeSpare, Cond.instanceMethod yX2_exchangeSpare, Cond.selects RX2 yX2_exchangeSpare yX2_exchangeSpare, Cond.code yX2_exchangeSpare cX2_exchangeSpare 4 (some .int), Cond.methodLink RX2 135 yX1_orderTo, Cond.instanceMethod yX1_orderTo, Cond.selects RX1 yX1_orderTo yX1_orderTo, Cond.code yX1_orderTo cX1_orderTo 4 (some .int), Cond.methodLink RX1 76 yX1_orderOfRow, Cond.instanceMethod yX1_orderOfRow, Cond.selects RX1 yX1_orderOfRow yX1_orderOfRow, Cond.code yX1_orderOfRow cX1_orderOfRow 8 (some .int), Cond.methodLink RX1 84 Lib.Math.max.name, Cond.static Lib.Math.max.name, Cond.initialized "java/lang/Math", Cond.code Lib.Math.max.name Lib.Math.max.code 2 (some .int)]
def wsL_copy_r5 : List Cond := [Cond.methodLink RX1 80 yX1_hasRow, Cond.instanceMethod yX1_hasRow, Cond.selects RX1 yX1_hasRow yX1_hasRow, Cond.code yX1_hasRow cX1_hasRow 2 (some .boolean), Cond.methodLink RX1 90 yX1_sizeAt, Cond.instanceMethod yX1_sizeAt, Cond.selects RX1 yX1_sizeAt yX1_sizeAt, Cond.code yX1_sizeAt cX1_sizeAt 3 (some .int), Cond.methodLink RX1 93 yX1_orderOfWords, Cond.instanceMethod yX1_orderOfWords, Cond.selects RX1 yX1_orderOfWords yX1_orderOfWords, Cond.code yX1_orderOfWords cX1_orderOfWords 10 (some .int), Cond.methodLink RX1 103 yX1_startAt, Cond.instanceMethod yX1_startAt, Cond.selects RX1 yX1_startAt yX1_startAt, Cond.code yX1_startAt cX1_startAt 3 (some .int), Cond.static yX2_orderOfNumbers, Cond.code yX2_orderOfNumbers cX2_orderOfNumbers 2 (some .int), Cond.methodLink RX1 97 yX1_orderOfSizes, Cond.static yX1_orderOfSizes, Cond.code yX1_orderOfSizes cX1_orderOfSizes 2 (some .int)]
def wsL_copy : List Cond := .codeWith yL_copy cL_copy 5 (some .int) [(0, 10, 13, 28)] :: ((wsL_copy_r1 ++ (wsL_copy_r2 ++ (wsL_copy_r3 ++ (wsL_copy_r4 ++ wsL_copy_r5)))) ++ wsX20 ++ wsX10 ++ wsX00 ++ (vx_atS RX2 130 "java/lang/IndexOutOfBoundsException" ["java/lang/RuntimeException", "java/lang/Exception"]).filter goodWord)
def wsL_size : List Cond := .codeWith yL_size cL_size 4 (some .int) [(0, 9, 12, 28)] :: ([.classLink RL 28 "java/lang/IndexOutOfBoundsException", .methodLink RL 41 yX2_size, .instanceMethod yX2_size, .selects RX2 yX2_size yX2_size, .initialized RX2, .code yX2_size cX2_size 2 (some .int), .methodLink RX2 112 yX2_versionIn, .instanceMethod yX2_versionIn, .selects RX2 yX2_versionIn yX2_versionIn, .code yX2_versionIn cX2_versionIn 2 (some (.object "Releaseledger$Version")), .fieldLink RX2 18 "Releaseledger" "slots" "[LReleaseledger$Version;", .methodLink RX2 91 yX2_checkSlot, .static yX2_checkSlot, .code yX2_checkSlot cX2_checkSlot 1 none, .classLink RX2 126 "java/lang/IndexOutOfBoundsException", .initialized "java/lang/IndexOutOfBoundsException", .methodLink RX2 53 yX0_length, .instanceMethod yX0_length, .selects RX0 yX0_length yX0_length, .initialized RX0, .code yX0_length cX0_length 1 (some .int), .fieldLink RX0 15 "Releaseledger$Text" "count" "I"] ++ wsX10 ++ wsX20 ++ wsX00 ++ (vx_atS RX2 130 "java/lang/IndexOutOfBoundsException" ["java/lang/RuntimeException", "java/lang/Exception"]).filter goodWord)
def wsL_text_r1 : List Cond := [Cond.classLink RL 28 "java/lang/IndexOutOfBoundsException", Cond.methodLink RL 44 yX2_text, Cond.instanceMethod yX2_text, Cond.selects RX2 yX2_text yX2_text, Cond.initialized RX2, Cond.code yX2_text cX2_text 4 (some .char), Cond.methodLink RX2 112 yX2_versionIn, Cond.instanceMethod yX2_versionIn, Cond.selects RX2 yX2_versionIn yX2_versionIn, Cond.code yX2_versionIn cX2_versionIn 2 (some (.object "Releaseledger$Version")), Cond.fieldLink RX2 18 "Releaseledger" "slots" "[LReleaseledger$Version;", Cond.methodLink RX2 91 yX2_checkSlot, Cond.static yX2_checkSlot, Cond.code yX2_checkSlot cX2_checkSlot 1 none, Cond.classLink RX2 126 "java/lang/IndexOutOfBoundsException", Cond.initialized "java/lang/IndexOutOfBoundsException", Cond.methodLink RX2 83 yX2_checkPlace, Cond.static yX2_checkPlace, Cond.code yX2_checkPlace cX2_checkPlace 2 none, Cond.methodLink RX2 53 yX0_length, Cond.instanceMethod yX0_length, Cond.selects RX0 yX0_length yX0_length, Cond.initialized RX0, Cond.code yX0_length cX0_length 1 (some .int)]
def wsL_text_r2 : List Cond := [Cond.fieldLink RX0 15 "Releaseledger$Text" "count" "I", Cond.methodLink RX2 87 yX0_signAt, Cond.instanceMethod yX0_signAt, Cond.selects RX0 yX0_signAt yX0_signAt, Cond.code yX0_signAt cX0_signAt 2 (some .char), Cond.fieldLink RX0 9 "Releaseledger$Text" "signs" "[C"]
def wsL_text : List Cond := .codeWith yL_text cL_text 5 (some .int) [(0, 10, 13, 28)] :: ((wsL_text_r1 ++ wsL_text_r2) ++ wsX10 ++ wsX20 ++ wsX00 ++ (vx_atS RX2 130 "java/lang/IndexOutOfBoundsException" ["java/lang/RuntimeException", "java/lang/Exception"]).filter goodWord)
def wsL_tokens_r1 : List Cond := [Cond.classLink RL 28 "java/lang/IndexOutOfBoundsException", Cond.classLink RL 13 "java/lang/IllegalArgumentException", Cond.methodLink RL 48 yX2_tokens, Cond.instanceMethod yX2_tokens, Cond.selects RX2 yX2_tokens yX2_tokens, Cond.initialized RX2, Cond.code yX2_tokens cX2_tokens 4 (some .int), Cond.methodLink RX2 112 yX2_versionIn, Cond.instanceMethod yX2_versionIn, Cond.selects RX2 yX2_versionIn yX2_versionIn, Cond.code yX2_versionIn cX2_versionIn 2 (some (.object "Releaseledger$Version")), Cond.fieldLink RX2 18 "Releaseledger" "slots" "[LReleaseledger$Version;", Cond.methodLink RX2 91 yX2_checkSlot, Cond.static yX2_checkSlot, Cond.code yX2_checkSlot cX2_checkSlot 1 none, Cond.classLink RX2 126 "java/lang/IndexOutOfBoundsException", Cond.initialized "java/lang/IndexOutOfBoundsException", Cond.methodLink RX2 120 yX2_checkRow, Cond.static yX2_checkRow, Cond.code yX2_checkRow cX2_checkRow 1 none, Cond.classLink RX2 73 "java/lang/IllegalArgumentException", Cond.initialized "java/lang/IllegalArgumentException", Cond.methodLink RX2 123 yX1_tokensIn, Cond.instanceMethod yX1_tokensIn]
def wsL_tokens_r2 : List Cond := [Cond.selects RX1 yX1_tokensIn yX1_tokensIn, Cond.initialized RX1, Cond.code yX1_tokensIn cX1_tokensIn 2 (some .int), Cond.fieldLink RX1 26 "Releaseledger$Version" "counts" "[I"]
def wsL_tokens : List Cond := .codeWith yL_tokens cL_tokens 5 (some .int) [(0, 10, 13, 28), (0, 10, 17, 13)] :: ((wsL_tokens_r1 ++ wsL_tokens_r2) ++ wsX20 ++ wsX10 ++ (vx_atS RX2 130 "java/lang/IndexOutOfBoundsException" ["java/lang/RuntimeException", "java/lang/Exception"]).filter goodWord ++ (vx_atS RX2 77 "java/lang/IllegalArgumentException" ["java/lang/RuntimeException", "java/lang/Exception"]).filter goodWord)
def wsL_token_r1 : List Cond := [Cond.classLink RL 28 "java/lang/IndexOutOfBoundsException", Cond.classLink RL 13 "java/lang/IllegalArgumentException", Cond.methodLink RL 51 yX2_token, Cond.instanceMethod yX2_token, Cond.selects RX2 yX2_token yX2_token, Cond.initialized RX2, Cond.code yX2_token cX2_token 5 (some .int), Cond.classLink RX2 126 "java/lang/IndexOutOfBoundsException", Cond.initialized "java/lang/IndexOutOfBoundsException", Cond.methodLink RX2 112 yX2_versionIn, Cond.instanceMethod yX2_versionIn, Cond.selects RX2 yX2_versionIn yX2_versionIn, Cond.code yX2_versionIn cX2_versionIn 2 (some (.object "Releaseledger$Version")), Cond.fieldLink RX2 18 "Releaseledger" "slots" "[LReleaseledger$Version;", Cond.methodLink RX2 91 yX2_checkSlot, Cond.static yX2_checkSlot, Cond.code yX2_checkSlot cX2_checkSlot 1 none, Cond.methodLink RX2 120 yX2_checkRow, Cond.static yX2_checkRow, Cond.code yX2_checkRow cX2_checkRow 1 none, Cond.classLink RX2 73 "java/lang/IllegalArgumentException", Cond.initialized "java/lang/IllegalArgumentException", Cond.methodLink RX2 123 yX1_tokensIn, Cond.instanceMethod yX1_tokensIn]
def wsL_token_r2 : List Cond := [Cond.selects RX1 yX1_tokensIn yX1_tokensIn, Cond.initialized RX1, Cond.code yX1_tokensIn cX1_tokensIn 2 (some .int), Cond.fieldLink RX1 26 "Releaseledger$Version" "counts" "[I", Cond.methodLink RX2 131 yX1_sizeAt, Cond.instanceMethod yX1_sizeAt, Cond.selects RX1 yX1_sizeAt yX1_sizeAt, Cond.code yX1_sizeAt cX1_sizeAt 3 (some .int), Cond.fieldLink RX1 23 "Releaseledger$Version" "sizes" "[[I", Cond.methodLink RX1 72 yX1_hasToken, Cond.instanceMethod yX1_hasToken, Cond.selects RX1 yX1_hasToken yX1_hasToken, Cond.code yX1_hasToken cX1_hasToken 3 (some .boolean)]
def wsL_token : List Cond := .codeWith yL_token cL_token 6 (some .int) [(0, 12, 15, 28), (0, 12, 19, 13)] :: ((wsL_token_r1 ++ wsL_token_r2) ++ wsX20 ++ wsX10 ++ (vx_atS RX2 130 "java/lang/IndexOutOfBoundsException" ["java/lang/RuntimeException", "java/lang/Exception"]).filter goodWord ++ (vx_atS RX2 77 "java/lang/IllegalArgumentException" ["java/lang/RuntimeException", "java/lang/Exception"]).filter goodWord)
def wsL_compare_r1 : List Cond := [Cond.classLink RL 28 "java/lang/IndexOutOfBoundsException", Cond.methodLink RL 55 yX2_compare, Cond.instanceMethod yX2_compare, Cond.selects RX2 yX2_compare yX2_compare, Cond.initialized RX2, Cond.code yX2_compare cX2_compare 3 (some .int), Cond.methodLink RX2 112 yX2_versionIn, Cond.instanceMethod yX2_versionIn, Cond.selects RX2 yX2_versionIn yX2_versionIn, Cond.code yX2_versionIn cX2_versionIn 2 (some (.object "Releaseledger$Version")), Cond.fieldLink RX2 18 "Releaseledger" "slots" "[LReleaseledger$Version;", Cond.methodLink RX2 91 yX2_checkSlot, Cond.static yX2_checkSlot, Cond.code yX2_checkSlot cX2_checkSlot 1 none, Cond.classLink RX2 126 "java/lang/IndexOutOfBoundsException", Cond.initialized "java/lang/IndexOutOfBoundsException", Cond.methodLink RX2 135 yX1_orderTo, Cond.instanceMethod yX1_orderTo, Cond.selects RX1 yX1_orderTo yX1_orderTo, Cond.initialized RX1, Cond.code yX1_orderTo cX1_orderTo 4 (some .int), Cond.methodLink RX1 76 yX1_orderOfRow, Cond.instanceMethod yX1_orderOfRow, Cond.selects RX1 yX1_orderOfRow yX1_orderOfRow]
def wsL_compare_r2 : List Cond := [Cond.code yX1_orderOfRow cX1_orderOfRow 8 (some .int), Cond.methodLink RX1 84 Lib.Math.max.name, Cond.static Lib.Math.max.name, Cond.initialized "java/lang/Math", Cond.code Lib.Math.max.name Lib.Math.max.code 2 (some .int), Cond.methodLink RX1 80 yX1_hasRow, Cond.instanceMethod yX1_hasRow, Cond.selects RX1 yX1_hasRow yX1_hasRow, Cond.code yX1_hasRow cX1_hasRow 2 (some .boolean), Cond.methodLink RX1 68 yX1_tokensIn, Cond.instanceMethod yX1_tokensIn, Cond.selects RX1 yX1_tokensIn yX1_tokensIn, Cond.code yX1_tokensIn cX1_tokensIn 2 (some .int), Cond.fieldLink RX1 26 "Releaseledger$Version" "counts" "[I", Cond.methodLink RX1 90 yX1_sizeAt, Cond.instanceMethod yX1_sizeAt, Cond.selects RX1 yX1_sizeAt yX1_sizeAt, Cond.code yX1_sizeAt cX1_sizeAt 3 (some .int), Cond.fieldLink RX1 23 "Releaseledger$Version" "sizes" "[[I", Cond.methodLink RX1 72 yX1_hasToken, Cond.instanceMethod yX1_hasToken, Cond.selects RX1 yX1_hasToken yX1_hasToken, Cond.code yX1_hasToken cX1_hasToken 3 (some .boolean), Cond.methodLink RX1 93 yX1_orderOfWords]
def wsL_compare_r3 : List Cond := [Cond.instanceMethod yX1_orderOfWords, Cond.selects RX1 yX1_orderOfWords yX1_orderOfWords, Cond.code yX1_orderOfWords cX1_orderOfWords 10 (some .int), Cond.fieldLink RX1 12 "Releaseledger$Version" "told" "LReleaseledger$Text;", Cond.methodLink RX1 103 yX1_startAt, Cond.instanceMethod yX1_startAt, Cond.selects RX1 yX1_startAt yX1_startAt, Cond.code yX1_startAt cX1_startAt 3 (some .int), Cond.fieldLink RX1 20 "Releaseledger$Version" "starts" "[[I", Cond.methodLink RX1 48 yX0_signAt, Cond.instanceMethod yX0_signAt, Cond.selects RX0 yX0_signAt yX0_signAt, Cond.initialized RX0, Cond.code yX0_signAt cX0_signAt 2 (some .char), Cond.fieldLink RX0 15 "Releaseledger$Text" "count" "I", Cond.fieldLink RX0 9 "Releaseledger$Text" "signs" "[C", Cond.static yX2_orderOfNumbers, Cond.code yX2_orderOfNumbers cX2_orderOfNumbers 2 (some .int), Cond.methodLink RX1 97 yX1_orderOfSizes, Cond.static yX1_orderOfSizes, Cond.code yX1_orderOfSizes cX1_orderOfSizes 2 (some .int)]
def wsL_compare : List Cond := .codeWith yL_compare cL_compare 5 (some .int) [(0, 10, 13, 28)] :: ((wsL_compare_r1 ++ (wsL_compare_r2 ++ wsL_compare_r3)) ++ wsX20 ++ wsX10 ++ wsX00 ++ (vx_atS RX2 130 "java/lang/IndexOutOfBoundsException" ["java/lang/RuntimeException", "java/lang/Exception"]).filter goodWord)
def wsL_isSame_r1 : List Cond := [Cond.classLink RL 28 "java/lang/IndexOutOfBoundsException", Cond.methodLink RL 58 yX2_isSame, Cond.instanceMethod yX2_isSame, Cond.selects RX2 yX2_isSame yX2_isSame, Cond.initialized RX2, Cond.code yX2_isSame cX2_isSame 3 (some .boolean), Cond.methodLink RX2 112 yX2_versionIn, Cond.instanceMethod yX2_versionIn, Cond.selects RX2 yX2_versionIn yX2_versionIn, Cond.code yX2_versionIn cX2_versionIn 2 (some (.object "Releaseledger$Version")), Cond.fieldLink RX2 18 "Releaseledger" "slots" "[LReleaseledger$Version;", Cond.methodLink RX2 91 yX2_checkSlot, Cond.static yX2_checkSlot, Cond.code yX2_checkSlot cX2_checkSlot 1 none, Cond.classLink RX2 126 "java/lang/IndexOutOfBoundsException", Cond.initialized "java/lang/IndexOutOfBoundsException", Cond.methodLink RX2 135 yX1_orderTo, Cond.instanceMethod yX1_orderTo, Cond.selects RX1 yX1_orderTo yX1_orderTo, Cond.initialized RX1, Cond.code yX1_orderTo cX1_orderTo 4 (some .int), Cond.methodLink RX1 76 yX1_orderOfRow, Cond.instanceMethod yX1_orderOfRow, Cond.selects RX1 yX1_orderOfRow yX1_orderOfRow]
def wsL_isSame_r2 : List Cond := [Cond.code yX1_orderOfRow cX1_orderOfRow 8 (some .int), Cond.methodLink RX1 84 Lib.Math.max.name, Cond.static Lib.Math.max.name, Cond.initialized "java/lang/Math", Cond.code Lib.Math.max.name Lib.Math.max.code 2 (some .int), Cond.methodLink RX1 80 yX1_hasRow, Cond.instanceMethod yX1_hasRow, Cond.selects RX1 yX1_hasRow yX1_hasRow, Cond.code yX1_hasRow cX1_hasRow 2 (some .boolean), Cond.methodLink RX1 68 yX1_tokensIn, Cond.instanceMethod yX1_tokensIn, Cond.selects RX1 yX1_tokensIn yX1_tokensIn, Cond.code yX1_tokensIn cX1_tokensIn 2 (some .int), Cond.fieldLink RX1 26 "Releaseledger$Version" "counts" "[I", Cond.methodLink RX1 90 yX1_sizeAt, Cond.instanceMethod yX1_sizeAt, Cond.selects RX1 yX1_sizeAt yX1_sizeAt, Cond.code yX1_sizeAt cX1_sizeAt 3 (some .int), Cond.fieldLink RX1 23 "Releaseledger$Version" "sizes" "[[I", Cond.methodLink RX1 72 yX1_hasToken, Cond.instanceMethod yX1_hasToken, Cond.selects RX1 yX1_hasToken yX1_hasToken, Cond.code yX1_hasToken cX1_hasToken 3 (some .boolean), Cond.methodLink RX1 93 yX1_orderOfWords]
def wsL_isSame_r3 : List Cond := [Cond.instanceMethod yX1_orderOfWords, Cond.selects RX1 yX1_orderOfWords yX1_orderOfWords, Cond.code yX1_orderOfWords cX1_orderOfWords 10 (some .int), Cond.fieldLink RX1 12 "Releaseledger$Version" "told" "LReleaseledger$Text;", Cond.methodLink RX1 103 yX1_startAt, Cond.instanceMethod yX1_startAt, Cond.selects RX1 yX1_startAt yX1_startAt, Cond.code yX1_startAt cX1_startAt 3 (some .int), Cond.fieldLink RX1 20 "Releaseledger$Version" "starts" "[[I", Cond.methodLink RX1 48 yX0_signAt, Cond.instanceMethod yX0_signAt, Cond.selects RX0 yX0_signAt yX0_signAt, Cond.initialized RX0, Cond.code yX0_signAt cX0_signAt 2 (some .char), Cond.fieldLink RX0 15 "Releaseledger$Text" "count" "I", Cond.fieldLink RX0 9 "Releaseledger$Text" "signs" "[C", Cond.static yX2_orderOfNumbers, Cond.code yX2_orderOfNumbers cX2_orderOfNumbers 2 (some .int), Cond.methodLink RX1 97 yX1_orderOfSizes, Cond.static yX1_orderOfSizes, Cond.code yX1_orderOfSizes cX1_orderOfSizes 2 (some .int)]
def wsL_isSame : List Cond := .codeWith yL_isSame cL_isSame 5 (some .int) [(0, 17, 20, 28)] :: ((wsL_isSame_r1 ++ (wsL_isSame_r2 ++ wsL_isSame_r3)) ++ wsX20 ++ wsX10 ++ wsX00 ++ (vx_atS RX2 130 "java/lang/IndexOutOfBoundsException" ["java/lang/RuntimeException", "java/lang/Exception"]).filter goodWord)
def wsL_apart_r1 : List Cond := [Cond.classLink RL 28 "java/lang/IndexOutOfBoundsException", Cond.methodLink RL 62 yX2_apart, Cond.instanceMethod yX2_apart, Cond.selects RX2 yX2_apart yX2_apart, Cond.initialized RX2, Cond.code yX2_apart cX2_apart 3 (some .int), Cond.methodLink RX2 112 yX2_versionIn, Cond.instanceMethod yX2_versionIn, Cond.selects RX2 yX2_versionIn yX2_versionIn, Cond.code yX2_versionIn cX2_versionIn 2 (some (.object "Releaseledger$Version")), Cond.fieldLink RX2 18 "Releaseledger" "slots" "[LReleaseledger$Version;", Cond.methodLink RX2 91 yX2_checkSlot, Cond.static yX2_checkSlot, Cond.code yX2_checkSlot cX2_checkSlot 1 none, Cond.classLink RX2 126 "java/lang/IndexOutOfBoundsException", Cond.initialized "java/lang/IndexOutOfBoundsException", Cond.methodLink RX2 139 yX1_tellingRow, Cond.instanceMethod yX1_tellingRow, Cond.selects RX1 yX1_tellingRow yX1_tellingRow, Cond.initialized RX1, Cond.code yX1_tellingRow cX1_tellingRow 3 (some .int), Cond.methodLink RX1 76 yX1_orderOfRow, Cond.instanceMethod yX1_orderOfRow, Cond.selects RX1 yX1_orderOfRow yX1_orderOfRow]
def wsL_apart_r2 : List Cond := [Cond.code yX1_orderOfRow cX1_orderOfRow 8 (some .int), Cond.methodLink RX1 84 Lib.Math.max.name, Cond.static Lib.Math.max.name, Cond.initialized "java/lang/Math", Cond.code Lib.Math.max.name Lib.Math.max.code 2 (some .int), Cond.methodLink RX1 80 yX1_hasRow, Cond.instanceMethod yX1_hasRow, Cond.selects RX1 yX1_hasRow yX1_hasRow, Cond.code yX1_hasRow cX1_hasRow 2 (some .boolean), Cond.methodLink RX1 68 yX1_tokensIn, Cond.instanceMethod yX1_tokensIn, Cond.selects RX1 yX1_tokensIn yX1_tokensIn, Cond.code yX1_tokensIn cX1_tokensIn 2 (some .int), Cond.fieldLink RX1 26 "Releaseledger$Version" "counts" "[I", Cond.methodLink RX1 90 yX1_sizeAt, Cond.instanceMethod yX1_sizeAt, Cond.selects RX1 yX1_sizeAt yX1_sizeAt, Cond.code yX1_sizeAt cX1_sizeAt 3 (some .int), Cond.fieldLink RX1 23 "Releaseledger$Version" "sizes" "[[I", Cond.methodLink RX1 72 yX1_hasToken, Cond.instanceMethod yX1_hasToken, Cond.selects RX1 yX1_hasToken yX1_hasToken, Cond.code yX1_hasToken cX1_hasToken 3 (some .boolean), Cond.methodLink RX1 93 yX1_orderOfWords]
def wsL_apart_r3 : List Cond := [Cond.instanceMethod yX1_orderOfWords, Cond.selects RX1 yX1_orderOfWords yX1_orderOfWords, Cond.code yX1_orderOfWords cX1_orderOfWords 10 (some .int), Cond.fieldLink RX1 12 "Releaseledger$Version" "told" "LReleaseledger$Text;", Cond.methodLink RX1 103 yX1_startAt, Cond.instanceMethod yX1_startAt, Cond.selects RX1 yX1_startAt yX1_startAt, Cond.code yX1_startAt cX1_startAt 3 (some .int), Cond.fieldLink RX1 20 "Releaseledger$Version" "starts" "[[I", Cond.methodLink RX1 48 yX0_signAt, Cond.instanceMethod yX0_signAt, Cond.selects RX0 yX0_signAt yX0_signAt, Cond.initialized RX0, Cond.code yX0_signAt cX0_signAt 2 (some .char), Cond.fieldLink RX0 15 "Releaseledger$Text" "count" "I", Cond.fieldLink RX0 9 "Releaseledger$Text" "signs" "[C", Cond.static yX2_orderOfNumbers, Cond.code yX2_orderOfNumbers cX2_orderOfNumbers 2 (some .int), Cond.methodLink RX1 97 yX1_orderOfSizes, Cond.static yX1_orderOfSizes, Cond.code yX1_orderOfSizes cX1_orderOfSizes 2 (some .int)]
def wsL_apart : List Cond := .codeWith yL_apart cL_apart 5 (some .int) [(0, 10, 13, 28)] :: ((wsL_apart_r1 ++ (wsL_apart_r2 ++ wsL_apart_r3)) ++ wsX20 ++ wsX10 ++ wsX00 ++ (vx_atS RX2 130 "java/lang/IndexOutOfBoundsException" ["java/lang/RuntimeException", "java/lang/Exception"]).filter goodWord)
def wsL_rank_r1 : List Cond := [Cond.classLink RL 28 "java/lang/IndexOutOfBoundsException", Cond.methodLink RL 65 yX2_rank, Cond.instanceMethod yX2_rank, Cond.selects RX2 yX2_rank yX2_rank, Cond.initialized RX2, Cond.code yX2_rank cX2_rank 5 (some .int), Cond.fieldLink RX2 18 "Releaseledger" "slots" "[LReleaseledger$Version;", Cond.methodLink RX2 112 yX2_versionIn, Cond.instanceMethod yX2_versionIn, Cond.selects RX2 yX2_versionIn yX2_versionIn, Cond.code yX2_versionIn cX2_versionIn 2 (some (.object "Releaseledger$Version")), Cond.methodLink RX2 91 yX2_checkSlot, Cond.static yX2_checkSlot, Cond.code yX2_checkSlot cX2_checkSlot 1 none, Cond.classLink RX2 126 "java/lang/IndexOutOfBoundsException", Cond.initialized "java/lang/IndexOutOfBoundsException", Cond.methodLink RX2 135 yX1_orderTo, Cond.instanceMethod yX1_orderTo, Cond.selects RX1 yX1_orderTo yX1_orderTo, Cond.initialized RX1, Cond.code yX1_orderTo cX1_orderTo 4 (some .int), Cond.methodLink RX1 76 yX1_orderOfRow, Cond.instanceMethod yX1_orderOfRow, Cond.selects RX1 yX1_orderOfRow yX1_orderOfRow]
def wsL_rank_r2 : List Cond := [Cond.code yX1_orderOfRow cX1_orderOfRow 8 (some .int), Cond.methodLink RX1 84 Lib.Math.max.name, Cond.static Lib.Math.max.name, Cond.initialized "java/lang/Math", Cond.code Lib.Math.max.name Lib.Math.max.code 2 (some .int), Cond.methodLink RX1 80 yX1_hasRow, Cond.instanceMethod yX1_hasRow, Cond.selects RX1 yX1_hasRow yX1_hasRow, Cond.code yX1_hasRow cX1_hasRow 2 (some .boolean), Cond.methodLink RX1 68 yX1_tokensIn, Cond.instanceMethod yX1_tokensIn, Cond.selects RX1 yX1_tokensIn yX1_tokensIn, Cond.code yX1_tokensIn cX1_tokensIn 2 (some .int), Cond.fieldLink RX1 26 "Releaseledger$Version" "counts" "[I", Cond.methodLink RX1 90 yX1_sizeAt, Cond.instanceMethod yX1_sizeAt, Cond.selects RX1 yX1_sizeAt yX1_sizeAt, Cond.code yX1_sizeAt cX1_sizeAt 3 (some .int), Cond.fieldLink RX1 23 "Releaseledger$Version" "sizes" "[[I", Cond.methodLink RX1 72 yX1_hasToken, Cond.instanceMethod yX1_hasToken, Cond.selects RX1 yX1_hasToken yX1_hasToken, Cond.code yX1_hasToken cX1_hasToken 3 (some .boolean), Cond.methodLink RX1 93 yX1_orderOfWords]
def wsL_rank_r3 : List Cond := [Cond.instanceMethod yX1_orderOfWords, Cond.selects RX1 yX1_orderOfWords yX1_orderOfWords, Cond.code yX1_orderOfWords cX1_orderOfWords 10 (some .int), Cond.fieldLink RX1 12 "Releaseledger$Version" "told" "LReleaseledger$Text;", Cond.methodLink RX1 103 yX1_startAt, Cond.instanceMethod yX1_startAt, Cond.selects RX1 yX1_startAt yX1_startAt, Cond.code yX1_startAt cX1_startAt 3 (some .int), Cond.fieldLink RX1 20 "Releaseledger$Version" "starts" "[[I", Cond.methodLink RX1 48 yX0_signAt, Cond.instanceMethod yX0_signAt, Cond.selects RX0 yX0_signAt yX0_signAt, Cond.initialized RX0, Cond.code yX0_signAt cX0_signAt 2 (some .char), Cond.fieldLink RX0 15 "Releaseledger$Text" "count" "I", Cond.fieldLink RX0 9 "Releaseledger$Text" "signs" "[C", Cond.static yX2_orderOfNumbers, Cond.code yX2_orderOfNumbers cX2_orderOfNumbers 2 (some .int), Cond.methodLink RX1 97 yX1_orderOfSizes, Cond.static yX1_orderOfSizes, Cond.code yX1_orderOfSizes cX1_orderOfSizes 2 (some .int)]
def wsL_rank : List Cond := .codeWith yL_rank cL_rank 4 (some .int) [(0, 9, 12, 28)] :: ((wsL_rank_r1 ++ (wsL_rank_r2 ++ wsL_rank_r3)) ++ wsX20 ++ wsX10 ++ wsX00 ++ (vx_atS RX2 130 "java/lang/IndexOutOfBoundsException" ["java/lang/RuntimeException", "java/lang/Exception"]).filter goodWord)
def wsL_at_r1 : List Cond := [Cond.classLink RL 28 "java/lang/IndexOutOfBoundsException", Cond.methodLink RL 68 yX2_at, Cond.instanceMethod yX2_at, Cond.selects RX2 yX2_at yX2_at, Cond.initialized RX2, Cond.code yX2_at cX2_at 2 (some .int), Cond.classLink RX2 126 "java/lang/IndexOutOfBoundsException", Cond.initialized "java/lang/IndexOutOfBoundsException", Cond.fieldLink RX2 25 "Releaseledger" "slotsInOrder" "[I", Cond.methodLink RX2 144 yX2_orderSlots, Cond.instanceMethod yX2_orderSlots, Cond.selects RX2 yX2_orderSlots yX2_orderSlots, Cond.code yX2_orderSlots cX2_orderSlots 3 none, Cond.fieldLink RX2 18 "Releaseledger" "slots" "[LReleaseledger$Version;", Cond.methodLink RX2 112 yX2_versionIn, Cond.instanceMethod yX2_versionIn, Cond.selects RX2 yX2_versionIn yX2_versionIn, Cond.code yX2_versionIn cX2_versionIn 2 (some (.object "Releaseledger$Version")), Cond.methodLink RX2 91 yX2_checkSlot, Cond.static yX2_checkSlot, Cond.code yX2_checkSlot cX2_checkSlot 1 none, Cond.methodLink RX2 135 yX1_orderTo, Cond.instanceMethod yX1_orderTo, Cond.selects RX1 yX1_orderTo yX1_orderTo]
def wsL_at_r2 : List Cond := [Cond.initialized RX1, Cond.code yX1_orderTo cX1_orderTo 4 (some .int), Cond.methodLink RX1 76 yX1_orderOfRow, Cond.instanceMethod yX1_orderOfRow, Cond.selects RX1 yX1_orderOfRow yX1_orderOfRow, Cond.code yX1_orderOfRow cX1_orderOfRow 8 (some .int), Cond.methodLink RX1 84 Lib.Math.max.name, Cond.static Lib.Math.max.name, Cond.initialized "java/lang/Math", Cond.code Lib.Math.max.name Lib.Math.max.code 2 (some .int), Cond.methodLink RX1 80 yX1_hasRow, Cond.instanceMethod yX1_hasRow, Cond.selects RX1 yX1_hasRow yX1_hasRow, Cond.code yX1_hasRow cX1_hasRow 2 (some .boolean), Cond.methodLink RX1 68 yX1_tokensIn, Cond.instanceMethod yX1_tokensIn, Cond.selects RX1 yX1_tokensIn yX1_tokensIn, Cond.code yX1_tokensIn cX1_tokensIn 2 (some .int), Cond.fieldLink RX1 26 "Releaseledger$Version" "counts" "[I", Cond.methodLink RX1 90 yX1_sizeAt, Cond.instanceMethod yX1_sizeAt, Cond.selects RX1 yX1_sizeAt yX1_sizeAt, Cond.code yX1_sizeAt cX1_sizeAt 3 (some .int), Cond.fieldLink RX1 23 "Releaseledger$Version" "sizes" "[[I"]
def wsL_at_r3 : List Cond := [Cond.methodLink RX1 72 yX1_hasToken, Cond.instanceMethod yX1_hasToken, Cond.selects RX1 yX1_hasToken yX1_hasToken, Cond.code yX1_hasToken cX1_hasToken 3 (some .boolean), Cond.methodLink RX1 93 yX1_orderOfWords, Cond.instanceMethod yX1_orderOfWords, Cond.selects RX1 yX1_orderOfWords yX1_orderOfWords, Cond.code yX1_orderOfWords cX1_orderOfWords 10 (some .int), Cond.fieldLink RX1 12 "Releaseledger$Version" "told" "LReleaseledger$Text;", Cond.methodLink RX1 103 yX1_startAt, Cond.instanceMethod yX1_startAt, Cond.selects RX1 yX1_startAt yX1_startAt, Cond.code yX1_startAt cX1_startAt 3 (some .int), Cond.fieldLink RX1 20 "Releaseledger$Version" "starts" "[[I", Cond.methodLink RX1 48 yX0_signAt, Cond.instanceMethod yX0_signAt, Cond.selects RX0 yX0_signAt yX0_signAt, Cond.initialized RX0, Cond.code yX0_signAt cX0_signAt 2 (some .char), Cond.fieldLink RX0 15 "Releaseledger$Text" "count" "I", Cond.fieldLink RX0 9 "Releaseledger$Text" "signs" "[C", Cond.static yX2_orderOfNumbers, Cond.code yX2_orderOfNumbers cX2_orderOfNumbers 2 (some .int), Cond.methodLink RX1 97 yX1_orderOfSizes]
def wsL_at_r4 : List Cond := [Cond.static yX1_orderOfSizes, Cond.code yX1_orderOfSizes cX1_orderOfSizes 2 (some .int)]
def wsL_at : List Cond := .codeWith yL_at cL_at 4 (some .int) [(0, 9, 12, 28)] :: ((wsL_at_r1 ++ (wsL_at_r2 ++ (wsL_at_r3 ++ wsL_at_r4))) ++ wsX20 ++ wsX10 ++ wsX00 ++ (vx_atS RX2 130 "java/lang/IndexOutOfBoundsException" ["java/lang/RuntimeException", "java/lang/Exception"]).filter goodWord)
def wsL_between_r1 : List Cond := [Cond.classLink RL 28 "java/lang/IndexOutOfBoundsException", Cond.methodLink RL 71 yX2_between, Cond.instanceMethod yX2_between, Cond.selects RX2 yX2_between yX2_between, Cond.initialized RX2, Cond.code yX2_between cX2_between 7 (some .int), Cond.fieldLink RX2 18 "Releaseledger" "slots" "[LReleaseledger$Version;", Cond.methodLink RX2 112 yX2_versionIn, Cond.instanceMethod yX2_versionIn, Cond.selects RX2 yX2_versionIn yX2_versionIn, Cond.code yX2_versionIn cX2_versionIn 2 (some (.object "Releaseledger$Version")), Cond.methodLink RX2 91 yX2_checkSlot, Cond.static yX2_checkSlot, Cond.code yX2_checkSlot cX2_checkSlot 1 none, Cond.classLink RX2 126 "java/lang/IndexOutOfBoundsException", Cond.initialized "java/lang/IndexOutOfBoundsException", Cond.methodLink RX2 135 yX1_orderTo, Cond.instanceMethod yX1_orderTo, Cond.selects RX1 yX1_orderTo yX1_orderTo, Cond.initialized RX1, Cond.code yX1_orderTo cX1_orderTo 4 (some .int), Cond.methodLink RX1 76 yX1_orderOfRow, Cond.instanceMethod yX1_orderOfRow, Cond.selects RX1 yX1_orderOfRow yX1_orderOfRow]
def wsL_between_r2 : List Cond := [Cond.code yX1_orderOfRow cX1_orderOfRow 8 (some .int), Cond.methodLink RX1 84 Lib.Math.max.name, Cond.static Lib.Math.max.name, Cond.initialized "java/lang/Math", Cond.code Lib.Math.max.name Lib.Math.max.code 2 (some .int), Cond.methodLink RX1 80 yX1_hasRow, Cond.instanceMethod yX1_hasRow, Cond.selects RX1 yX1_hasRow yX1_hasRow, Cond.code yX1_hasRow cX1_hasRow 2 (some .boolean), Cond.methodLink RX1 68 yX1_tokensIn, Cond.instanceMethod yX1_tokensIn, Cond.selects RX1 yX1_tokensIn yX1_tokensIn, Cond.code yX1_tokensIn cX1_tokensIn 2 (some .int), Cond.fieldLink RX1 26 "Releaseledger$Version" "counts" "[I", Cond.methodLink RX1 90 yX1_sizeAt, Cond.instanceMethod yX1_sizeAt, Cond.selects RX1 yX1_sizeAt yX1_sizeAt, Cond.code yX1_sizeAt cX1_sizeAt 3 (some .int), Cond.fieldLink RX1 23 "Releaseledger$Version" "sizes" "[[I", Cond.methodLink RX1 72 yX1_hasToken, Cond.instanceMethod yX1_hasToken, Cond.selects RX1 yX1_hasToken yX1_hasToken, Cond.code yX1_hasToken cX1_hasToken 3 (some .boolean), Cond.methodLink RX1 93 yX1_orderOfWords]
def wsL_between_r3 : List Cond := [Cond.instanceMethod yX1_orderOfWords, Cond.selects RX1 yX1_orderOfWords yX1_orderOfWords, Cond.code yX1_orderOfWords cX1_orderOfWords 10 (some .int), Cond.fieldLink RX1 12 "Releaseledger$Version" "told" "LReleaseledger$Text;", Cond.methodLink RX1 103 yX1_startAt, Cond.instanceMethod yX1_startAt, Cond.selects RX1 yX1_startAt yX1_startAt, Cond.code yX1_startAt cX1_startAt 3 (some .int), Cond.fieldLink RX1 20 "Releaseledger$Version" "starts" "[[I", Cond.methodLink RX1 48 yX0_signAt, Cond.instanceMethod yX0_signAt, Cond.selects RX0 yX0_signAt yX0_signAt, Cond.initialized RX0, Cond.code yX0_signAt cX0_signAt 2 (some .char), Cond.fieldLink RX0 15 "Releaseledger$Text" "count" "I", Cond.fieldLink RX0 9 "Releaseledger$Text" "signs" "[C", Cond.static yX2_orderOfNumbers, Cond.code yX2_orderOfNumbers cX2_orderOfNumbers 2 (some .int), Cond.methodLink RX1 97 yX1_orderOfSizes, Cond.static yX1_orderOfSizes, Cond.code yX1_orderOfSizes cX1_orderOfSizes 2 (some .int)]
def wsL_between : List Cond := .codeWith yL_between cL_between 5 (some .int) [(0, 10, 13, 28)] :: ((wsL_between_r1 ++ (wsL_between_r2 ++ wsL_between_r3)) ++ wsX20 ++ wsX10 ++ wsX00 ++ (vx_atS RX2 130 "java/lang/IndexOutOfBoundsException" ["java/lang/RuntimeException", "java/lang/Exception"]).filter goodWord)
def wsL_zero_r1 : List Cond := [Cond.classLink RL 28 "java/lang/IndexOutOfBoundsException", Cond.classLink RL 19 "java/lang/IllegalStateException", Cond.methodLink RL 74 yX2_zero, Cond.instanceMethod yX2_zero, Cond.selects RX2 yX2_zero yX2_zero, Cond.initialized RX2, Cond.code yX2_zero cX2_zero 5 (some .boolean), Cond.fieldLink RX2 33 "Releaseledger" "spare" "LReleaseledger$Version;", Cond.methodLink RX2 112 yX2_versionIn, Cond.instanceMethod yX2_versionIn, Cond.selects RX2 yX2_versionIn yX2_versionIn, Cond.code yX2_versionIn cX2_versionIn 2 (some (.object "Releaseledger$Version")), Cond.fieldLink RX2 18 "Releaseledger" "slots" "[LReleaseledger$Version;", Cond.methodLink RX2 91 yX2_checkSlot, Cond.static yX2_checkSlot, Cond.code yX2_checkSlot cX2_checkSlot 1 none, Cond.classLink RX2 126 "java/lang/IndexOutOfBoundsException", Cond.initialized "java/lang/IndexOutOfBoundsException", Cond.methodLink RX2 62 yX2_digitsOf, Cond.static yX2_digitsOf, Cond.code yX2_digitsOf cX2_digitsOf 3 (some .int), Cond.methodLink RX2 147 yX2_checkRoom, Cond.static yX2_checkRoom, Cond.code yX2_checkRoom cX2_checkRoom 2 none]
def wsL_zero_r2 : List Cond := [Cond.classLink RX2 160 "java/lang/IllegalStateException", Cond.initialized "java/lang/IllegalStateException", Cond.methodLink RX2 53 yX0_length, Cond.instanceMethod yX0_length, Cond.selects RX0 yX0_length yX0_length, Cond.initialized RX0, Cond.code yX0_length cX0_length 1 (some .int), Cond.fieldLink RX0 15 "Releaseledger$Text" "count" "I", Cond.methodLink RX2 150 yX2_parseWithNumberBehind, Cond.instanceMethod yX2_parseWithNumberBehind, Cond.selects RX2 yX2_parseWithNumberBehind yX2_parseWithNumberBehind, Cond.code yX2_parseWithNumberBehind cX2_parseWithNumberBehind 4 none, Cond.methodLink RX2 96 yX1_tell, Cond.instanceMethod yX1_tell, Cond.selects RX1 yX1_tell yX1_tell, Cond.initialized RX1, Cond.code yX1_tell cX1_tell 2 none, Cond.fieldLink RX1 12 "Releaseledger$Version" "told" "LReleaseledger$Text;", Cond.methodLink RX1 37 yX0_clear, Cond.instanceMethod yX0_clear, Cond.selects RX0 yX0_clear yX0_clear, Cond.code yX0_clear cX0_clear 1 none, Cond.methodLink RX1 40 yX0_putAll, Cond.instanceMethod yX0_putAll]
def wsL_zero_r3 : List Cond := [Cond.selects RX0 yX0_putAll yX0_putAll, Cond.code yX0_putAll cX0_putAll 3 none, Cond.methodLink RX0 19 yX0_length, Cond.methodLink RX0 23 yX0_signAt, Cond.instanceMethod yX0_signAt, Cond.selects RX0 yX0_signAt yX0_signAt, Cond.code yX0_signAt cX0_signAt 2 (some .char), Cond.fieldLink RX0 9 "Releaseledger$Text" "signs" "[C", Cond.methodLink RX0 27 yX0_put, Cond.instanceMethod yX0_put, Cond.selects RX0 yX0_put yX0_put, Cond.code yX0_put cX0_put 2 none, Cond.methodLink RX2 109 yX0_put, Cond.methodLink RX2 49 yX0_putNumber, Cond.instanceMethod yX0_putNumber, Cond.selects RX0 yX0_putNumber yX0_putNumber, Cond.code yX0_putNumber cX0_putNumber 4 none, Cond.constant RX0 31 (100000000), Cond.methodLink RX2 100 yX1_readTokens, Cond.instanceMethod yX1_readTokens, Cond.selects RX1 yX1_readTokens yX1_readTokens, Cond.code yX1_readTokens cX1_readTokens 6 none, Cond.fieldLink RX1 26 "Releaseledger$Version" "counts" "[I", Cond.methodLink RX1 44 yX0_length]
def wsL_zero_r4 : List Cond := [Cond.methodLink RX1 48 yX0_signAt, Cond.static yX2_kindOf, Cond.code yX2_kindOf cX2_kindOf 1 (some .int), Cond.methodLink RX1 56 yX1_rowBehind, Cond.static yX1_rowBehind, Cond.code yX1_rowBehind cX1_rowBehind 2 (some .int), Cond.methodLink RX1 60 yX1_openToken, Cond.instanceMethod yX1_openToken, Cond.selects RX1 yX1_openToken yX1_openToken, Cond.code yX1_openToken cX1_openToken 5 none, Cond.fieldLink RX1 20 "Releaseledger$Version" "starts" "[[I", Cond.fieldLink RX1 23 "Releaseledger$Version" "sizes" "[[I", Cond.methodLink RX1 68 yX1_tokensIn, Cond.instanceMethod yX1_tokensIn, Cond.selects RX1 yX1_tokensIn yX1_tokensIn, Cond.code yX1_tokensIn cX1_tokensIn 2 (some .int), Cond.methodLink RX1 64 yX1_growToken, Cond.instanceMethod yX1_growToken, Cond.selects RX1 yX1_growToken yX1_growToken, Cond.code yX1_growToken cX1_growToken 6 none, Cond.methodLink RX1 72 yX1_hasToken, Cond.instanceMethod yX1_hasToken, Cond.selects RX1 yX1_hasToken yX1_hasToken, Cond.code yX1_hasToken cX1_hasToken 3 (some .boolean)]
def wsL_zero_r5 : List Cond := [Cond.methodLink RX2 135 yX1_orderTo, Cond.instanceMethod yX1_orderTo, Cond.selects RX1 yX1_orderTo yX1_orderTo, Cond.code yX1_orderTo cX1_orderTo 4 (some .int), Cond.methodLink RX1 76 yX1_orderOfRow, Cond.instanceMethod yX1_orderOfRow, Cond.selects RX1 yX1_orderOfRow yX1_orderOfRow, Cond.code yX1_orderOfRow cX1_orderOfRow 8 (some .int), Cond.methodLink RX1 84 Lib.Math.max.name, Cond.static Lib.Math.max.name, Cond.initialized "java/lang/Math", Cond.code Lib.Math.max.name Lib.Math.max.code 2 (some .int), Cond.methodLink RX1 80 yX1_hasRow, Cond.instanceMethod yX1_hasRow, Cond.selects RX1 yX1_hasRow yX1_hasRow, Cond.code yX1_hasRow cX1_hasRow 2 (some .boolean), Cond.methodLink RX1 90 yX1_sizeAt, Cond.instanceMethod yX1_sizeAt, Cond.selects RX1 yX1_sizeAt yX1_sizeAt, Cond.code yX1_sizeAt cX1_sizeAt 3 (some .int), Cond.methodLink RX1 93 yX1_orderOfWords, Cond.instanceMethod yX1_orderOfWords, Cond.selects RX1 yX1_orderOfWords yX1_orderOfWords, Cond.code yX1_orderOfWords cX1_orderOfWords 10 (some .int)]
def wsL_zero_r6 : List Cond := [Cond.methodLink RX1 103 yX1_startAt, Cond.instanceMethod yX1_startAt, Cond.selects RX1 yX1_startAt yX1_startAt, Cond.code yX1_startAt cX1_startAt 3 (some .int), Cond.static yX2_orderOfNumbers, Cond.code yX2_orderOfNumbers cX2_orderOfNumbers 2 (some .int), Cond.methodLink RX1 97 yX1_orderOfSizes, Cond.static yX1_orderOfSizes, Cond.code yX1_orderOfSizes cX1_orderOfSizes 2 (some .int), Cond.methodLink RX2 103 yX2_exchangeSpare, Cond.instanceMethod yX2_exchangeSpare, Cond.selects RX2 yX2_exchangeSpare yX2_exchangeSpare, Cond.code yX2_exchangeSpare cX2_exchangeSpare 4 (some .int)]
def wsL_zero : List Cond := .codeWith yL_zero cL_zero 5 (some .int) [(0, 17, 20, 28), (0, 17, 24, 19)] :: ((wsL_zero_r1 ++ (wsL_zero_r2 ++ (wsL_zero_r3 ++ (wsL_zero_r4 ++ (wsL_zero_r5 ++ wsL_zero_r6))))) ++ wsX10 ++ wsX20 ++ wsX00 ++ (vx_atS RX2 130 "java/lang/IndexOutOfBoundsException" ["java/lang/RuntimeException", "java/lang/Exception"]).filter goodWord ++ (vx_atS RX2 164 "java/lang/IllegalStateException" ["java/lang/RuntimeException", "java/lang/Exception"]).filter goodWord)
def wsL_longer_r1 : List Cond := [Cond.classLink RL 28 "java/lang/IndexOutOfBoundsException", Cond.classLink RL 13 "java/lang/IllegalArgumentException", Cond.classLink RL 19 "java/lang/IllegalStateException", Cond.methodLink RL 77 yX2_longer, Cond.instanceMethod yX2_longer, Cond.selects RX2 yX2_longer yX2_longer, Cond.initialized RX2, Cond.code yX2_longer cX2_longer 6 (some .boolean), Cond.fieldLink RX2 33 "Releaseledger" "spare" "LReleaseledger$Version;", Cond.methodLink RX2 112 yX2_versionIn, Cond.instanceMethod yX2_versionIn, Cond.selects RX2 yX2_versionIn yX2_versionIn, Cond.code yX2_versionIn cX2_versionIn 2 (some (.object "Releaseledger$Version")), Cond.fieldLink RX2 18 "Releaseledger" "slots" "[LReleaseledger$Version;", Cond.methodLink RX2 91 yX2_checkSlot, Cond.static yX2_checkSlot, Cond.code yX2_checkSlot cX2_checkSlot 1 none, Cond.classLink RX2 126 "java/lang/IndexOutOfBoundsException", Cond.initialized "java/lang/IndexOutOfBoundsException", Cond.methodLink RX2 38 yX2_checkNumber, Cond.static yX2_checkNumber, Cond.code yX2_checkNumber cX2_checkNumber 3 none, Cond.classLink RX2 73 "java/lang/IllegalArgumentException", Cond.initialized "java/lang/IllegalArgumentException"]
def wsL_longer_r2 : List Cond := [Cond.methodLink RX2 62 yX2_digitsOf, Cond.static yX2_digitsOf, Cond.code yX2_digitsOf cX2_digitsOf 3 (some .int), Cond.methodLink RX2 147 yX2_checkRoom, Cond.static yX2_checkRoom, Cond.code yX2_checkRoom cX2_checkRoom 2 none, Cond.classLink RX2 160 "java/lang/IllegalStateException", Cond.initialized "java/lang/IllegalStateException", Cond.methodLink RX2 53 yX0_length, Cond.instanceMethod yX0_length, Cond.selects RX0 yX0_length yX0_length, Cond.initialized RX0, Cond.code yX0_length cX0_length 1 (some .int), Cond.fieldLink RX0 15 "Releaseledger$Text" "count" "I", Cond.methodLink RX2 150 yX2_parseWithNumberBehind, Cond.instanceMethod yX2_parseWithNumberBehind, Cond.selects RX2 yX2_parseWithNumberBehind yX2_parseWithNumberBehind, Cond.code yX2_parseWithNumberBehind cX2_parseWithNumberBehind 4 none, Cond.methodLink RX2 96 yX1_tell, Cond.instanceMethod yX1_tell, Cond.selects RX1 yX1_tell yX1_tell, Cond.initialized RX1, Cond.code yX1_tell cX1_tell 2 none, Cond.fieldLink RX1 12 "Releaseledger$Version" "told" "LReleaseledger$Text;"]
def wsL_longer_r3 : List Cond := [Cond.methodLink RX1 37 yX0_clear, Cond.instanceMethod yX0_clear, Cond.selects RX0 yX0_clear yX0_clear, Cond.code yX0_clear cX0_clear 1 none, Cond.methodLink RX1 40 yX0_putAll, Cond.instanceMethod yX0_putAll, Cond.selects RX0 yX0_putAll yX0_putAll, Cond.code yX0_putAll cX0_putAll 3 none, Cond.methodLink RX0 19 yX0_length, Cond.methodLink RX0 23 yX0_signAt, Cond.instanceMethod yX0_signAt, Cond.selects RX0 yX0_signAt yX0_signAt, Cond.code yX0_signAt cX0_signAt 2 (some .char), Cond.fieldLink RX0 9 "Releaseledger$Text" "signs" "[C", Cond.methodLink RX0 27 yX0_put, Cond.instanceMethod yX0_put, Cond.selects RX0 yX0_put yX0_put, Cond.code yX0_put cX0_put 2 none, Cond.methodLink RX2 109 yX0_put, Cond.methodLink RX2 49 yX0_putNumber, Cond.instanceMethod yX0_putNumber, Cond.selects RX0 yX0_putNumber yX0_putNumber, Cond.code yX0_putNumber cX0_putNumber 4 none, Cond.constant RX0 31 (100000000)]
def wsL_longer_r4 : List Cond := [Cond.methodLink RX2 100 yX1_readTokens, Cond.instanceMethod yX1_readTokens, Cond.selects RX1 yX1_readTokens yX1_readTokens, Cond.code yX1_readTokens cX1_readTokens 6 none, Cond.fieldLink RX1 26 "Releaseledger$Version" "counts" "[I", Cond.methodLink RX1 44 yX0_length, Cond.methodLink RX1 48 yX0_signAt, Cond.static yX2_kindOf, Cond.code yX2_kindOf cX2_kindOf 1 (some .int), Cond.methodLink RX1 56 yX1_rowBehind, Cond.static yX1_rowBehind, Cond.code yX1_rowBehind cX1_rowBehind 2 (some .int), Cond.methodLink RX1 60 yX1_openToken, Cond.instanceMethod yX1_openToken, Cond.selects RX1 yX1_openToken yX1_openToken, Cond.code yX1_openToken cX1_openToken 5 none, Cond.fieldLink RX1 20 "Releaseledger$Version" "starts" "[[I", Cond.fieldLink RX1 23 "Releaseledger$Version" "sizes" "[[I", Cond.methodLink RX1 68 yX1_tokensIn, Cond.instanceMethod yX1_tokensIn, Cond.selects RX1 yX1_tokensIn yX1_tokensIn, Cond.code yX1_tokensIn cX1_tokensIn 2 (some .int), Cond.methodLink RX1 64 yX1_growToken, Cond.instanceMethod yX1_growToken]
def wsL_longer_r5 : List Cond := [Cond.selects RX1 yX1_growToken yX1_growToken, Cond.code yX1_growToken cX1_growToken 6 none, Cond.methodLink RX1 72 yX1_hasToken, Cond.instanceMethod yX1_hasToken, Cond.selects RX1 yX1_hasToken yX1_hasToken, Cond.code yX1_hasToken cX1_hasToken 3 (some .boolean), Cond.methodLink RX2 135 yX1_orderTo, Cond.instanceMethod yX1_orderTo, Cond.selects RX1 yX1_orderTo yX1_orderTo, Cond.code yX1_orderTo cX1_orderTo 4 (some .int), Cond.methodLink RX1 76 yX1_orderOfRow, Cond.instanceMethod yX1_orderOfRow, Cond.selects RX1 yX1_orderOfRow yX1_orderOfRow, Cond.code yX1_orderOfRow cX1_orderOfRow 8 (some .int), Cond.methodLink RX1 84 Lib.Math.max.name, Cond.static Lib.Math.max.name, Cond.initialized "java/lang/Math", Cond.code Lib.Math.max.name Lib.Math.max.code 2 (some .int), Cond.methodLink RX1 80 yX1_hasRow, Cond.instanceMethod yX1_hasRow, Cond.selects RX1 yX1_hasRow yX1_hasRow, Cond.code yX1_hasRow cX1_hasRow 2 (some .boolean), Cond.methodLink RX1 90 yX1_sizeAt, Cond.instanceMethod yX1_sizeAt]
def wsL_longer_r6 : List Cond := [Cond.selects RX1 yX1_sizeAt yX1_sizeAt, Cond.code yX1_sizeAt cX1_sizeAt 3 (some .int), Cond.methodLink RX1 93 yX1_orderOfWords, Cond.instanceMethod yX1_orderOfWords, Cond.selects RX1 yX1_orderOfWords yX1_orderOfWords, Cond.code yX1_orderOfWords cX1_orderOfWords 10 (some .int), Cond.methodLink RX1 103 yX1_startAt, Cond.instanceMethod yX1_startAt, Cond.selects RX1 yX1_startAt yX1_startAt, Cond.code yX1_startAt cX1_startAt 3 (some .int), Cond.static yX2_orderOfNumbers, Cond.code yX2_orderOfNumbers cX2_orderOfNumbers 2 (some .int), Cond.methodLink RX1 97 yX1_orderOfSizes, Cond.static yX1_orderOfSizes, Cond.code yX1_orderOfSizes cX1_orderOfSizes 2 (some .int), Cond.methodLink RX2 103 yX2_exchangeSpare, Cond.instanceMethod yX2_exchangeSpare, Cond.selects RX2 yX2_exchangeSpare yX2_exchangeSpare, Cond.code yX2_exchangeSpare cX2_exchangeSpare 4 (some .int)]
def wsL_longer : List Cond := .codeWith yL_longer cL_longer 6 (some .int) [(0, 19, 22, 28), (0, 19, 26, 13), (0, 19, 30, 19)] :: ((wsL_longer_r1 ++ (wsL_longer_r2 ++ (wsL_longer_r3 ++ (wsL_longer_r4 ++ (wsL_longer_r5 ++ wsL_longer_r6))))) ++ wsX10 ++ wsX20 ++ wsX00 ++ (vx_atS RX2 130 "java/lang/IndexOutOfBoundsException" ["java/lang/RuntimeException", "java/lang/Exception"]).filter goodWord ++ (vx_atS RX2 77 "java/lang/IllegalArgumentException" ["java/lang/RuntimeException", "java/lang/Exception"]).filter goodWord ++ (vx_atS RX2 164 "java/lang/IllegalStateException" ["java/lang/RuntimeException", "java/lang/Exception"]).filter goodWord)
def wsL_early_r1 : List Cond := [Cond.classLink RL 28 "java/lang/IndexOutOfBoundsException", Cond.classLink RL 13 "java/lang/IllegalArgumentException", Cond.classLink RL 19 "java/lang/IllegalStateException", Cond.methodLink RL 81 yX2_early, Cond.instanceMethod yX2_early, Cond.selects RX2 yX2_early yX2_early, Cond.initialized RX2, Cond.code yX2_early cX2_early 6 (some .boolean), Cond.classLink RX2 73 "java/lang/IllegalArgumentException", Cond.initialized "java/lang/IllegalArgumentException", Cond.classLink RX2 160 "java/lang/IllegalStateException", Cond.initialized "java/lang/IllegalStateException", Cond.fieldLink RX2 33 "Releaseledger" "spare" "LReleaseledger$Version;", Cond.methodLink RX2 112 yX2_versionIn, Cond.instanceMethod yX2_versionIn, Cond.selects RX2 yX2_versionIn yX2_versionIn, Cond.code yX2_versionIn cX2_versionIn 2 (some (.object "Releaseledger$Version")), Cond.fieldLink RX2 18 "Releaseledger" "slots" "[LReleaseledger$Version;", Cond.methodLink RX2 91 yX2_checkSlot, Cond.static yX2_checkSlot, Cond.code yX2_checkSlot cX2_checkSlot 1 none, Cond.classLink RX2 126 "java/lang/IndexOutOfBoundsException", Cond.initialized "java/lang/IndexOutOfBoundsException", Cond.methodLink RX2 156 yX1_hasRow]
def wsL_early_r2 : List Cond := [Cond.instanceMethod yX1_hasRow, Cond.selects RX1 yX1_hasRow yX1_hasRow, Cond.initialized RX1, Cond.code yX1_hasRow cX1_hasRow 2 (some .boolean), Cond.methodLink RX1 68 yX1_tokensIn, Cond.instanceMethod yX1_tokensIn, Cond.selects RX1 yX1_tokensIn yX1_tokensIn, Cond.code yX1_tokensIn cX1_tokensIn 2 (some .int), Cond.fieldLink RX1 26 "Releaseledger$Version" "counts" "[I", Cond.methodLink RX2 147 yX2_checkRoom, Cond.static yX2_checkRoom, Cond.code yX2_checkRoom cX2_checkRoom 2 none, Cond.methodLink RX2 53 yX0_length, Cond.instanceMethod yX0_length, Cond.selects RX0 yX0_length yX0_length, Cond.initialized RX0, Cond.code yX0_length cX0_length 1 (some .int), Cond.fieldLink RX0 15 "Releaseledger$Text" "count" "I", Cond.methodLink RX2 165 yX2_parseWithLetterBehind, Cond.instanceMethod yX2_parseWithLetterBehind, Cond.selects RX2 yX2_parseWithLetterBehind yX2_parseWithLetterBehind, Cond.code yX2_parseWithLetterBehind cX2_parseWithLetterBehind 3 none, Cond.methodLink RX2 96 yX1_tell, Cond.instanceMethod yX1_tell]
def wsL_early_r3 : List Cond := [Cond.selects RX1 yX1_tell yX1_tell, Cond.code yX1_tell cX1_tell 2 none, Cond.fieldLink RX1 12 "Releaseledger$Version" "told" "LReleaseledger$Text;", Cond.methodLink RX1 37 yX0_clear, Cond.instanceMethod yX0_clear, Cond.selects RX0 yX0_clear yX0_clear, Cond.code yX0_clear cX0_clear 1 none, Cond.methodLink RX1 40 yX0_putAll, Cond.instanceMethod yX0_putAll, Cond.selects RX0 yX0_putAll yX0_putAll, Cond.code yX0_putAll cX0_putAll 3 none, Cond.methodLink RX0 19 yX0_length, Cond.methodLink RX0 23 yX0_signAt, Cond.instanceMethod yX0_signAt, Cond.selects RX0 yX0_signAt yX0_signAt, Cond.code yX0_signAt cX0_signAt 2 (some .char), Cond.fieldLink RX0 9 "Releaseledger$Text" "signs" "[C", Cond.methodLink RX0 27 yX0_put, Cond.instanceMethod yX0_put, Cond.selects RX0 yX0_put yX0_put, Cond.code yX0_put cX0_put 2 none, Cond.methodLink RX2 109 yX0_put, Cond.methodLink RX2 100 yX1_readTokens, Cond.instanceMethod yX1_readTokens]
def wsL_early_r4 : List Cond := [Cond.selects RX1 yX1_readTokens yX1_readTokens, Cond.code yX1_readTokens cX1_readTokens 6 none, Cond.methodLink RX1 44 yX0_length, Cond.methodLink RX1 48 yX0_signAt, Cond.static yX2_kindOf, Cond.code yX2_kindOf cX2_kindOf 1 (some .int), Cond.methodLink RX1 56 yX1_rowBehind, Cond.static yX1_rowBehind, Cond.code yX1_rowBehind cX1_rowBehind 2 (some .int), Cond.methodLink RX1 60 yX1_openToken, Cond.instanceMethod yX1_openToken, Cond.selects RX1 yX1_openToken yX1_openToken, Cond.code yX1_openToken cX1_openToken 5 none, Cond.fieldLink RX1 20 "Releaseledger$Version" "starts" "[[I", Cond.fieldLink RX1 23 "Releaseledger$Version" "sizes" "[[I", Cond.methodLink RX1 64 yX1_growToken, Cond.instanceMethod yX1_growToken, Cond.selects RX1 yX1_growToken yX1_growToken, Cond.code yX1_growToken cX1_growToken 6 none, Cond.methodLink RX1 72 yX1_hasToken, Cond.instanceMethod yX1_hasToken, Cond.selects RX1 yX1_hasToken yX1_hasToken, Cond.code yX1_hasToken cX1_hasToken 3 (some .boolean), Cond.methodLink RX2 135 yX1_orderTo]
def wsL_early_r5 : List Cond := [Cond.instanceMethod yX1_orderTo, Cond.selects RX1 yX1_orderTo yX1_orderTo, Cond.code yX1_orderTo cX1_orderTo 4 (some .int), Cond.methodLink RX1 76 yX1_orderOfRow, Cond.instanceMethod yX1_orderOfRow, Cond.selects RX1 yX1_orderOfRow yX1_orderOfRow, Cond.code yX1_orderOfRow cX1_orderOfRow 8 (some .int), Cond.methodLink RX1 84 Lib.Math.max.name, Cond.static Lib.Math.max.name, Cond.initialized "java/lang/Math", Cond.code Lib.Math.max.name Lib.Math.max.code 2 (some .int), Cond.methodLink RX1 80 yX1_hasRow, Cond.methodLink RX1 90 yX1_sizeAt, Cond.instanceMethod yX1_sizeAt, Cond.selects RX1 yX1_sizeAt yX1_sizeAt, Cond.code yX1_sizeAt cX1_sizeAt 3 (some .int), Cond.methodLink RX1 93 yX1_orderOfWords, Cond.instanceMethod yX1_orderOfWords, Cond.selects RX1 yX1_orderOfWords yX1_orderOfWords, Cond.code yX1_orderOfWords cX1_orderOfWords 10 (some .int), Cond.methodLink RX1 103 yX1_startAt, Cond.instanceMethod yX1_startAt, Cond.selects RX1 yX1_startAt yX1_startAt, Cond.code yX1_startAt cX1_startAt 3 (some .int)]
def wsL_early_r6 : List Cond := [Cond.static yX2_orderOfNumbers, Cond.code yX2_orderOfNumbers cX2_orderOfNumbers 2 (some .int), Cond.methodLink RX1 97 yX1_orderOfSizes, Cond.static yX1_orderOfSizes, Cond.code yX1_orderOfSizes cX1_orderOfSizes 2 (some .int), Cond.methodLink RX2 103 yX2_exchangeSpare, Cond.instanceMethod yX2_exchangeSpare, Cond.selects RX2 yX2_exchangeSpare yX2_exchangeSpare, Cond.code yX2_exchangeSpare cX2_exchangeSpare 4 (some .int)]
def wsL_early : List Cond := .codeWith yL_early cL_early 6 (some .int) [(0, 19, 22, 28), (0, 19, 26, 13), (0, 19, 30, 19)] :: ((wsL_early_r1 ++ (wsL_early_r2 ++ (wsL_early_r3 ++ (wsL_early_r4 ++ (wsL_early_r5 ++ wsL_early_r6))))) ++ wsX10 ++ wsX20 ++ wsX00 ++ (vx_atS RX2 77 "java/lang/IllegalArgumentException" ["java/lang/RuntimeException", "java/lang/Exception"]).filter goodWord ++ (vx_atS RX2 164 "java/lang/IllegalStateException" ["java/lang/RuntimeException", "java/lang/Exception"]).filter goodWord ++ (vx_atS RX2 130 "java/lang/IndexOutOfBoundsException" ["java/lang/RuntimeException", "java/lang/Exception"]).filter goodWord)
def wsL_built_r1 : List Cond := [Cond.classLink RL 28 "java/lang/IndexOutOfBoundsException", Cond.classLink RL 13 "java/lang/IllegalArgumentException", Cond.classLink RL 19 "java/lang/IllegalStateException", Cond.methodLink RL 85 yX2_built, Cond.instanceMethod yX2_built, Cond.selects RX2 yX2_built yX2_built, Cond.initialized RX2, Cond.code yX2_built cX2_built 6 (some .int), Cond.classLink RX2 160 "java/lang/IllegalStateException", Cond.initialized "java/lang/IllegalStateException", Cond.fieldLink RX2 33 "Releaseledger" "spare" "LReleaseledger$Version;", Cond.methodLink RX2 112 yX2_versionIn, Cond.instanceMethod yX2_versionIn, Cond.selects RX2 yX2_versionIn yX2_versionIn, Cond.code yX2_versionIn cX2_versionIn 2 (some (.object "Releaseledger$Version")), Cond.fieldLink RX2 18 "Releaseledger" "slots" "[LReleaseledger$Version;", Cond.methodLink RX2 91 yX2_checkSlot, Cond.static yX2_checkSlot, Cond.code yX2_checkSlot cX2_checkSlot 1 none, Cond.classLink RX2 126 "java/lang/IndexOutOfBoundsException", Cond.initialized "java/lang/IndexOutOfBoundsException", Cond.methodLink RX2 38 yX2_checkNumber, Cond.static yX2_checkNumber, Cond.code yX2_checkNumber cX2_checkNumber 3 none]
def wsL_built_r2 : List Cond := [Cond.classLink RX2 73 "java/lang/IllegalArgumentException", Cond.initialized "java/lang/IllegalArgumentException", Cond.methodLink RX2 156 yX1_hasRow, Cond.instanceMethod yX1_hasRow, Cond.selects RX1 yX1_hasRow yX1_hasRow, Cond.initialized RX1, Cond.code yX1_hasRow cX1_hasRow 2 (some .boolean), Cond.methodLink RX1 68 yX1_tokensIn, Cond.instanceMethod yX1_tokensIn, Cond.selects RX1 yX1_tokensIn yX1_tokensIn, Cond.code yX1_tokensIn cX1_tokensIn 2 (some .int), Cond.fieldLink RX1 26 "Releaseledger$Version" "counts" "[I", Cond.methodLink RX2 62 yX2_digitsOf, Cond.static yX2_digitsOf, Cond.code yX2_digitsOf cX2_digitsOf 3 (some .int), Cond.methodLink RX2 147 yX2_checkRoom, Cond.static yX2_checkRoom, Cond.code yX2_checkRoom cX2_checkRoom 2 none, Cond.methodLink RX2 53 yX0_length, Cond.instanceMethod yX0_length, Cond.selects RX0 yX0_length yX0_length, Cond.initialized RX0, Cond.code yX0_length cX0_length 1 (some .int), Cond.fieldLink RX0 15 "Releaseledger$Text" "count" "I"]
def wsL_built_r3 : List Cond := [Cond.methodLink RX2 150 yX2_parseWithNumberBehind, Cond.instanceMethod yX2_parseWithNumberBehind, Cond.selects RX2 yX2_parseWithNumberBehind yX2_parseWithNumberBehind, Cond.code yX2_parseWithNumberBehind cX2_parseWithNumberBehind 4 none, Cond.methodLink RX2 96 yX1_tell, Cond.instanceMethod yX1_tell, Cond.selects RX1 yX1_tell yX1_tell, Cond.code yX1_tell cX1_tell 2 none, Cond.fieldLink RX1 12 "Releaseledger$Version" "told" "LReleaseledger$Text;", Cond.methodLink RX1 37 yX0_clear, Cond.instanceMethod yX0_clear, Cond.selects RX0 yX0_clear yX0_clear, Cond.code yX0_clear cX0_clear 1 none, Cond.methodLink RX1 40 yX0_putAll, Cond.instanceMethod yX0_putAll, Cond.selects RX0 yX0_putAll yX0_putAll, Cond.code yX0_putAll cX0_putAll 3 none, Cond.methodLink RX0 19 yX0_length, Cond.methodLink RX0 23 yX0_signAt, Cond.instanceMethod yX0_signAt, Cond.selects RX0 yX0_signAt yX0_signAt, Cond.code yX0_signAt cX0_signAt 2 (some .char), Cond.fieldLink RX0 9 "Releaseledger$Text" "signs" "[C", Cond.methodLink RX0 27 yX0_put]
def wsL_built_r4 : List Cond := [Cond.instanceMethod yX0_put, Cond.selects RX0 yX0_put yX0_put, Cond.code yX0_put cX0_put 2 none, Cond.methodLink RX2 109 yX0_put, Cond.methodLink RX2 49 yX0_putNumber, Cond.instanceMethod yX0_putNumber, Cond.selects RX0 yX0_putNumber yX0_putNumber, Cond.code yX0_putNumber cX0_putNumber 4 none, Cond.constant RX0 31 (100000000), Cond.methodLink RX2 100 yX1_readTokens, Cond.instanceMethod yX1_readTokens, Cond.selects RX1 yX1_readTokens yX1_readTokens, Cond.code yX1_readTokens cX1_readTokens 6 none, Cond.methodLink RX1 44 yX0_length, Cond.methodLink RX1 48 yX0_signAt, Cond.static yX2_kindOf, Cond.code yX2_kindOf cX2_kindOf 1 (some .int), Cond.methodLink RX1 56 yX1_rowBehind, Cond.static yX1_rowBehind, Cond.code yX1_rowBehind cX1_rowBehind 2 (some .int), Cond.methodLink RX1 60 yX1_openToken, Cond.instanceMethod yX1_openToken, Cond.selects RX1 yX1_openToken yX1_openToken, Cond.code yX1_openToken cX1_openToken 5 none]
def wsL_built_r5 : List Cond := [Cond.fieldLink RX1 20 "Releaseledger$Version" "starts" "[[I", Cond.fieldLink RX1 23 "Releaseledger$Version" "sizes" "[[I", Cond.methodLink RX1 64 yX1_growToken, Cond.instanceMethod yX1_growToken, Cond.selects RX1 yX1_growToken yX1_growToken, Cond.code yX1_growToken cX1_growToken 6 none, Cond.methodLink RX1 72 yX1_hasToken, Cond.instanceMethod yX1_hasToken, Cond.selects RX1 yX1_hasToken yX1_hasToken, Cond.code yX1_hasToken cX1_hasToken 3 (some .boolean), Cond.methodLink RX2 135 yX1_orderTo, Cond.instanceMethod yX1_orderTo, Cond.selects RX1 yX1_orderTo yX1_orderTo, Cond.code yX1_orderTo cX1_orderTo 4 (some .int), Cond.methodLink RX1 76 yX1_orderOfRow, Cond.instanceMethod yX1_orderOfRow, Cond.selects RX1 yX1_orderOfRow yX1_orderOfRow, Cond.code yX1_orderOfRow cX1_orderOfRow 8 (some .int), Cond.methodLink RX1 84 Lib.Math.max.name, Cond.static Lib.Math.max.name, Cond.initialized "java/lang/Math", Cond.code Lib.Math.max.name Lib.Math.max.code 2 (some .int), Cond.methodLink RX1 80 yX1_hasRow, Cond.methodLink RX1 90 yX1_sizeAt]
def wsL_built_r6 : List Cond := [Cond.instanceMethod yX1_sizeAt, Cond.selects RX1 yX1_sizeAt yX1_sizeAt, Cond.code yX1_sizeAt cX1_sizeAt 3 (some .int), Cond.methodLink RX1 93 yX1_orderOfWords, Cond.instanceMethod yX1_orderOfWords, Cond.selects RX1 yX1_orderOfWords yX1_orderOfWords, Cond.code yX1_orderOfWords cX1_orderOfWords 10 (some .int), Cond.methodLink RX1 103 yX1_startAt, Cond.instanceMethod yX1_startAt, Cond.selects RX1 yX1_startAt yX1_startAt, Cond.code yX1_startAt cX1_startAt 3 (some .int), Cond.static yX2_orderOfNumbers, Cond.code yX2_orderOfNumbers cX2_orderOfNumbers 2 (some .int), Cond.methodLink RX1 97 yX1_orderOfSizes, Cond.static yX1_orderOfSizes, Cond.code yX1_orderOfSizes cX1_orderOfSizes 2 (some .int), Cond.methodLink RX2 103 yX2_exchangeSpare, Cond.instanceMethod yX2_exchangeSpare, Cond.selects RX2 yX2_exchangeSpare yX2_exchangeSpare, Cond.code yX2_exchangeSpare cX2_exchangeSpare 4 (some .int)]
def wsL_built : List Cond := .codeWith yL_built cL_built 6 (some .int) [(0, 12, 15, 28), (0, 12, 19, 13), (0, 12, 23, 19)] :: ((wsL_built_r1 ++ (wsL_built_r2 ++ (wsL_built_r3 ++ (wsL_built_r4 ++ (wsL_built_r5 ++ wsL_built_r6))))) ++ wsX10 ++ wsX20 ++ wsX00 ++ (vx_atS RX2 164 "java/lang/IllegalStateException" ["java/lang/RuntimeException", "java/lang/Exception"]).filter goodWord ++ (vx_atS RX2 130 "java/lang/IndexOutOfBoundsException" ["java/lang/RuntimeException", "java/lang/Exception"]).filter goodWord ++ (vx_atS RX2 77 "java/lang/IllegalArgumentException" ["java/lang/RuntimeException", "java/lang/Exception"]).filter goodWord)
def wsL_isHashed_r1 : List Cond := [Cond.classLink RL 28 "java/lang/IndexOutOfBoundsException", Cond.methodLink RL 88 yX2_isHashed, Cond.instanceMethod yX2_isHashed, Cond.selects RX2 yX2_isHashed yX2_isHashed, Cond.initialized RX2, Cond.code yX2_isHashed cX2_isHashed 3 (some .boolean), Cond.fieldLink RX2 33 "Releaseledger" "spare" "LReleaseledger$Version;", Cond.methodLink RX2 112 yX2_versionIn, Cond.instanceMethod yX2_versionIn, Cond.selects RX2 yX2_versionIn yX2_versionIn, Cond.code yX2_versionIn cX2_versionIn 2 (some (.object "Releaseledger$Version")), Cond.fieldLink RX2 18 "Releaseledger" "slots" "[LReleaseledger$Version;", Cond.methodLink RX2 91 yX2_checkSlot, Cond.static yX2_checkSlot, Cond.code yX2_checkSlot cX2_checkSlot 1 none, Cond.classLink RX2 126 "java/lang/IndexOutOfBoundsException", Cond.initialized "java/lang/IndexOutOfBoundsException", Cond.methodLink RX2 116 yX2_parseAnew, Cond.instanceMethod yX2_parseAnew, Cond.selects RX2 yX2_parseAnew yX2_parseAnew, Cond.code yX2_parseAnew cX2_parseAnew 2 none, Cond.methodLink RX2 96 yX1_tell, Cond.instanceMethod yX1_tell, Cond.selects RX1 yX1_tell yX1_tell]
def wsL_isHashed_r2 : List Cond := [Cond.initialized RX1, Cond.code yX1_tell cX1_tell 2 none, Cond.fieldLink RX1 12 "Releaseledger$Version" "told" "LReleaseledger$Text;", Cond.methodLink RX1 37 yX0_clear, Cond.instanceMethod yX0_clear, Cond.selects RX0 yX0_clear yX0_clear, Cond.initialized RX0, Cond.code yX0_clear cX0_clear 1 none, Cond.fieldLink RX0 15 "Releaseledger$Text" "count" "I", Cond.methodLink RX1 40 yX0_putAll, Cond.instanceMethod yX0_putAll, Cond.selects RX0 yX0_putAll yX0_putAll, Cond.code yX0_putAll cX0_putAll 3 none, Cond.methodLink RX0 19 yX0_length, Cond.instanceMethod yX0_length, Cond.selects RX0 yX0_length yX0_length, Cond.code yX0_length cX0_length 1 (some .int), Cond.methodLink RX0 23 yX0_signAt, Cond.instanceMethod yX0_signAt, Cond.selects RX0 yX0_signAt yX0_signAt, Cond.code yX0_signAt cX0_signAt 2 (some .char), Cond.fieldLink RX0 9 "Releaseledger$Text" "signs" "[C", Cond.methodLink RX0 27 yX0_put, Cond.instanceMethod yX0_put]
def wsL_isHashed_r3 : List Cond := [Cond.selects RX0 yX0_put yX0_put, Cond.code yX0_put cX0_put 2 none, Cond.methodLink RX2 100 yX1_readTokens, Cond.instanceMethod yX1_readTokens, Cond.selects RX1 yX1_readTokens yX1_readTokens, Cond.code yX1_readTokens cX1_readTokens 6 none, Cond.fieldLink RX1 26 "Releaseledger$Version" "counts" "[I", Cond.methodLink RX1 44 yX0_length, Cond.methodLink RX1 48 yX0_signAt, Cond.static yX2_kindOf, Cond.code yX2_kindOf cX2_kindOf 1 (some .int), Cond.methodLink RX1 56 yX1_rowBehind, Cond.static yX1_rowBehind, Cond.code yX1_rowBehind cX1_rowBehind 2 (some .int), Cond.methodLink RX1 60 yX1_openToken, Cond.instanceMethod yX1_openToken, Cond.selects RX1 yX1_openToken yX1_openToken, Cond.code yX1_openToken cX1_openToken 5 none, Cond.fieldLink RX1 20 "Releaseledger$Version" "starts" "[[I", Cond.fieldLink RX1 23 "Releaseledger$Version" "sizes" "[[I", Cond.methodLink RX1 68 yX1_tokensIn, Cond.instanceMethod yX1_tokensIn, Cond.selects RX1 yX1_tokensIn yX1_tokensIn, Cond.code yX1_tokensIn cX1_tokensIn 2 (some .int)]
def wsL_isHashed_r4 : List Cond := [Cond.methodLink RX1 64 yX1_growToken, Cond.instanceMethod yX1_growToken, Cond.selects RX1 yX1_growToken yX1_growToken, Cond.code yX1_growToken cX1_growToken 6 none, Cond.methodLink RX1 72 yX1_hasToken, Cond.instanceMethod yX1_hasToken, Cond.selects RX1 yX1_hasToken yX1_hasToken, Cond.code yX1_hasToken cX1_hasToken 3 (some .boolean), Cond.methodLink RX2 171 yX0_hash, Cond.instanceMethod yX0_hash, Cond.selects RX0 yX0_hash yX0_hash, Cond.code yX0_hash cX0_hash 3 (some .int)]
def wsL_isHashed : List Cond := .codeWith yL_isHashed cL_isHashed 4 (some .int) [(0, 16, 19, 28)] :: ((wsL_isHashed_r1 ++ (wsL_isHashed_r2 ++ (wsL_isHashed_r3 ++ wsL_isHashed_r4))) ++ wsX20 ++ wsX10 ++ wsX00 ++ (vx_atS RX2 130 "java/lang/IndexOutOfBoundsException" ["java/lang/RuntimeException", "java/lang/Exception"]).filter goodWord)
def wsL_law0_r1 : List Cond := [Cond.classLink RL 8 RX2, Cond.instantiable RX2 6, Cond.initialized RX2, Cond.classLink RL 93 RX3, Cond.instantiable RX3 9, Cond.initialized RX3, Cond.arrayClass .long, Cond.methodLink RL 92 yX2_init, Cond.instanceMethod yX2_init, Cond.code yX2_init cX2_init 2 none, Cond.methodLink RX2 1 objectInit, Cond.instanceMethod objectInit, Cond.code objectInit ⟨#[0xb1]⟩ 1 none, Cond.classLink RX2 7 RX0, Cond.instantiable RX0 2, Cond.initialized RX0, Cond.fieldLink RX2 10 "Releaseledger" "draft" "LReleaseledger$Text;", Cond.classLink RX2 16 RX1, Cond.fieldLink RX2 18 "Releaseledger" "slots" "[LReleaseledger$Version;", Cond.fieldLink RX2 22 "Releaseledger" "sorted" "[LReleaseledger$Version;", Cond.arrayClass .int, Cond.fieldLink RX2 25 "Releaseledger" "slotsInOrder" "[I", Cond.fieldLink RX2 29 "Releaseledger" "orders" "[I", Cond.instantiable RX1 4]
def wsL_law0_r2 : List Cond := [Cond.initialized RX1, Cond.fieldLink RX2 33 "Releaseledger" "spare" "LReleaseledger$Version;", Cond.instanceMethod yX0_init, Cond.code yX0_init cX0_init 1 none, Cond.methodLink RX0 3 objectInit, Cond.arrayClass .char, Cond.fieldLink RX0 9 "Releaseledger$Text" "signs" "[C", Cond.fieldLink RX0 15 "Releaseledger$Text" "count" "I", Cond.methodLink RX2 32 yX1_init, Cond.instanceMethod yX1_init, Cond.code yX1_init cX1_init 1 none, Cond.methodLink RX1 3 objectInit, Cond.classLink RX1 9 RX0, Cond.fieldLink RX1 12 "Releaseledger$Version" "told" "LReleaseledger$Text;", Cond.classLink RX1 18 "[[I", Cond.fieldLink RX1 20 "Releaseledger$Version" "starts" "[[I", Cond.fieldLink RX1 23 "Releaseledger$Version" "sizes" "[[I", Cond.fieldLink RX1 26 "Releaseledger$Version" "counts" "[I", Cond.methodLink RX1 30 yX0_put, Cond.instanceMethod yX0_put, Cond.selects RX0 yX0_put yX0_put, Cond.code yX0_put cX0_put 2 none, Cond.methodLink RX1 34 yX1_readTokens, Cond.instanceMethod yX1_readTokens]
def wsL_law0_r3 : List Cond := [Cond.selects RX1 yX1_readTokens yX1_readTokens, Cond.code yX1_readTokens cX1_readTokens 6 none, Cond.methodLink RX1 44 yX0_length, Cond.instanceMethod yX0_length, Cond.selects RX0 yX0_length yX0_length, Cond.code yX0_length cX0_length 1 (some .int), Cond.methodLink RX1 48 yX0_signAt, Cond.instanceMethod yX0_signAt, Cond.selects RX0 yX0_signAt yX0_signAt, Cond.code yX0_signAt cX0_signAt 2 (some .char), Cond.static yX2_kindOf, Cond.code yX2_kindOf cX2_kindOf 1 (some .int), Cond.methodLink RX1 56 yX1_rowBehind, Cond.static yX1_rowBehind, Cond.code yX1_rowBehind cX1_rowBehind 2 (some .int), Cond.methodLink RX1 60 yX1_openToken, Cond.instanceMethod yX1_openToken, Cond.selects RX1 yX1_openToken yX1_openToken, Cond.code yX1_openToken cX1_openToken 5 none, Cond.methodLink RX1 68 yX1_tokensIn, Cond.instanceMethod yX1_tokensIn, Cond.selects RX1 yX1_tokensIn yX1_tokensIn, Cond.code yX1_tokensIn cX1_tokensIn 2 (some .int), Cond.methodLink RX1 64 yX1_growToken]
def wsL_law0_r4 : List Cond := [Cond.instanceMethod yX1_growToken, Cond.selects RX1 yX1_growToken yX1_growToken, Cond.code yX1_growToken cX1_growToken 6 none, Cond.methodLink RX1 72 yX1_hasToken, Cond.instanceMethod yX1_hasToken, Cond.selects RX1 yX1_hasToken yX1_hasToken, Cond.code yX1_hasToken cX1_hasToken 3 (some .boolean), Cond.methodLink RL 95 yX3_init, Cond.instanceMethod yX3_init, Cond.code yX3_init cX3_init 2 none, Cond.methodLink RX3 1 objectInit, Cond.fieldLink RX3 9 "ReleaseledgerModel" "draft" "[C", Cond.classLink RX3 13 "[[C", Cond.fieldLink RX3 15 "ReleaseledgerModel" "texts" "[[C", Cond.fieldLink RX3 18 "ReleaseledgerModel" "sizes" "[I", Cond.classLink RX3 22 "[C", Cond.fieldLink RX3 23 "ReleaseledgerModel" "seen" "[[C", Cond.classLink RX3 26 "[[I", Cond.fieldLink RX3 28 "ReleaseledgerModel" "many" "[[I", Cond.fieldLink RX3 33 "ReleaseledgerModel" "starts" "[[[I", Cond.fieldLink RX3 36 "ReleaseledgerModel" "ends" "[[[I", Cond.methodLink RL 96 yL_begin, Cond.static yL_begin, Cond.initialized RL]
def wsL_law0_r5 : List Cond := [Cond.codeWith yL_begin cL_begin 5 (some .int) [(0, 10, 13, 13)], Cond.classLink RL 13 "java/lang/IllegalArgumentException", Cond.methodLink RL 7 yX2_begin, Cond.instanceMethod yX2_begin, Cond.selects RX2 yX2_begin yX2_begin, Cond.code yX2_begin cX2_begin 3 (some .int), Cond.constant RX2 37 (999999), Cond.methodLink RX2 38 yX2_checkNumber, Cond.static yX2_checkNumber, Cond.code yX2_checkNumber cX2_checkNumber 3 none, Cond.classLink RX2 73 "java/lang/IllegalArgumentException", Cond.initialized "java/lang/IllegalArgumentException", Cond.methodLink RX2 42 yX2_checkZeros, Cond.static yX2_checkZeros, Cond.code yX2_checkZeros cX2_checkZeros 1 none, Cond.methodLink RX2 46 yX0_clear, Cond.instanceMethod yX0_clear, Cond.selects RX0 yX0_clear yX0_clear, Cond.code yX0_clear cX0_clear 1 none, Cond.methodLink RX2 49 yX0_putNumber, Cond.instanceMethod yX0_putNumber, Cond.selects RX0 yX0_putNumber yX0_putNumber, Cond.code yX0_putNumber cX0_putNumber 4 none, Cond.constant RX0 31 (100000000)]
def wsL_law0_r6 : List Cond := [Cond.methodLink RX0 27 yX0_put, Cond.methodLink RX2 53 yX0_length, Cond.methodLink RL 101 yX3_begin, Cond.instanceMethod yX3_begin, Cond.selects RX3 yX3_begin yX3_begin, Cond.code yX3_begin cX3_begin 3 (some .int), Cond.constant RX3 83 (999999), Cond.fieldLink RX3 92 "ReleaseledgerModel" "draftSize" "I", Cond.methodLink RX3 43 yX3_in, Cond.static yX3_in, Cond.code yX3_in cX3_in 3 (some .boolean), Cond.methodLink RX3 84 yX3_no, Cond.instanceMethod yX3_no, Cond.selects RX3 yX3_no yX3_no, Cond.code yX3_no cX3_no 3 (some .boolean), Cond.fieldLink RX3 39 "ReleaseledgerModel" "thrown" "I", Cond.methodLink RX3 88 yX3_digits, Cond.static yX3_digits, Cond.code yX3_digits cX3_digits 7 (some .int), Cond.methodLink RX3 80 yX3_length, Cond.static yX3_length, Cond.code yX3_length cX3_length 3 (some .int), Cond.methodLink RL 102 yX3_thrown, Cond.instanceMethod yX3_thrown]
def wsL_law0_r7 : List Cond := [Cond.selects RX3 yX3_thrown yX3_thrown, Cond.code yX3_thrown cX3_thrown 1 (some .int), Cond.methodLink RL 106 yL_add, Cond.static yL_add, Cond.codeWith yL_add cL_add 6 (some .int) [(0, 12, 15, 13), (0, 12, 19, 19)], Cond.classLink RL 19 "java/lang/IllegalStateException", Cond.methodLink RL 15 yX2_add, Cond.instanceMethod yX2_add, Cond.selects RX2 yX2_add yX2_add, Cond.code yX2_add cX2_add 4 (some .int), Cond.constant RX2 57 (999999999), Cond.methodLink RX2 58 yX2_checkWay, Cond.static yX2_checkWay, Cond.code yX2_checkWay cX2_checkWay 1 none, Cond.methodLink RX2 62 yX2_digitsOf, Cond.static yX2_digitsOf, Cond.code yX2_digitsOf cX2_digitsOf 3 (some .int), Cond.methodLink RX2 66 yX2_checkJoin, Cond.instanceMethod yX2_checkJoin, Cond.selects RX2 yX2_checkJoin yX2_checkJoin, Cond.code yX2_checkJoin cX2_checkJoin 4 none, Cond.classLink RX2 160 "java/lang/IllegalStateException", Cond.initialized "java/lang/IllegalStateException", Cond.methodLink RX2 210 yX0_lastKind]
def wsL_law0_r8 : List Cond := [Cond.instanceMethod yX0_lastKind, Cond.selects RX0 yX0_lastKind yX0_lastKind, Cond.code yX0_lastKind cX0_lastKind 1 (some .int), Cond.methodLink RX0 23 yX0_signAt, Cond.methodLink RX2 215 yX0_has, Cond.instanceMethod yX0_has, Cond.selects RX0 yX0_has yX0_has, Cond.code yX0_has cX0_has 3 (some .boolean), Cond.methodLink RX2 147 yX2_checkRoom, Cond.static yX2_checkRoom, Cond.code yX2_checkRoom cX2_checkRoom 2 none, Cond.methodLink RX2 70 yX2_putJoint, Cond.instanceMethod yX2_putJoint, Cond.selects RX2 yX2_putJoint yX2_putJoint, Cond.code yX2_putJoint cX2_putJoint 2 none, Cond.methodLink RX2 109 yX0_put, Cond.methodLink RL 109 yX3_add, Cond.instanceMethod yX3_add, Cond.selects RX3 yX3_add yX3_add, Cond.code yX3_add cX3_add 4 (some .int), Cond.constant RX3 95 (999999999), Cond.methodLink RX3 96 yX3_isWay, Cond.static yX3_isWay, Cond.code yX3_isWay cX3_isWay 1 (some .boolean)]
def wsL_law0_r9 : List Cond := [Cond.methodLink RX3 47 yX3_isPoint, Cond.static yX3_isPoint, Cond.code yX3_isPoint cX3_isPoint 1 (some .boolean), Cond.methodLink RX3 99 yX3_isJoined, Cond.instanceMethod yX3_isJoined, Cond.selects RX3 yX3_isJoined yX3_isJoined, Cond.code yX3_isJoined cX3_isJoined 6 (some .boolean), Cond.methodLink RX3 51 yX3_isDigit, Cond.static yX3_isDigit, Cond.code yX3_isDigit cX3_isDigit 1 (some .boolean), Cond.methodLink RX3 103 yX3_join, Cond.instanceMethod yX3_join, Cond.selects RX3 yX3_join yX3_join, Cond.code yX3_join cX3_join 2 none, Cond.methodLink RL 110 yL_word, Cond.static yL_word, Cond.codeWith yL_word cL_word 6 (some .int) [(0, 12, 15, 13), (0, 12, 19, 19)], Cond.methodLink RL 21 yX2_word, Cond.instanceMethod yX2_word, Cond.selects RX2 yX2_word yX2_word, Cond.code yX2_word cX2_word 4 (some .int), Cond.methodLink RX2 80 yX0_putWord, Cond.instanceMethod yX0_putWord, Cond.selects RX0 yX0_putWord yX0_putWord]
def wsL_law0_r10 : List Cond := [Cond.code yX0_putWord cX0_putWord 5 none, Cond.constant RX0 32 (2147483647), Cond.static yX2_letterOf, Cond.code yX2_letterOf cX2_letterOf 1 (some .char), Cond.methodLink RL 112 yX3_word, Cond.instanceMethod yX3_word, Cond.selects RX3 yX3_word yX3_word, Cond.code yX3_word cX3_word 7 (some .int), Cond.constant RX3 107 (2147483647), Cond.methodLink RL 113 yX2_drop, Cond.instanceMethod yX2_drop, Cond.selects RX2 yX2_drop yX2_drop, Cond.code yX2_drop cX2_drop 2 (some .int), Cond.methodLink RL 116 yX3_drop, Cond.instanceMethod yX3_drop, Cond.selects RX3 yX3_drop yX3_drop, Cond.code yX3_drop cX3_drop 2 (some .int), Cond.methodLink RL 117 yL_sign, Cond.static yL_sign, Cond.codeWith yL_sign cL_sign 4 (some .int) [(0, 9, 12, 28)], Cond.classLink RL 28 "java/lang/IndexOutOfBoundsException", Cond.methodLink RL 24 yX2_sign, Cond.instanceMethod yX2_sign, Cond.selects RX2 yX2_sign yX2_sign]
def wsL_law0_r11 : List Cond := [Cond.code yX2_sign cX2_sign 2 (some .char), Cond.methodLink RX2 83 yX2_checkPlace, Cond.static yX2_checkPlace, Cond.code yX2_checkPlace cX2_checkPlace 2 none, Cond.classLink RX2 126 "java/lang/IndexOutOfBoundsException", Cond.initialized "java/lang/IndexOutOfBoundsException", Cond.methodLink RX2 87 yX0_signAt, Cond.methodLink RL 120 yX3_sign, Cond.instanceMethod yX3_sign, Cond.selects RX3 yX3_sign yX3_sign, Cond.code yX3_sign cX3_sign 2 (some .char), Cond.methodLink RL 121 yL_parse, Cond.static yL_parse, Cond.codeWith yL_parse cL_parse 4 (some .int) [(0, 9, 12, 28), (0, 9, 15, 13)], Cond.methodLink RL 30 yX2_parse, Cond.instanceMethod yX2_parse, Cond.selects RX2 yX2_parse yX2_parse, Cond.code yX2_parse cX2_parse 2 (some .int), Cond.methodLink RX2 91 yX2_checkSlot, Cond.static yX2_checkSlot, Cond.code yX2_checkSlot cX2_checkSlot 1 none, Cond.methodLink RX2 96 yX1_tell, Cond.instanceMethod yX1_tell, Cond.selects RX1 yX1_tell yX1_tell]
def wsL_law0_r12 : List Cond := [Cond.code yX1_tell cX1_tell 2 none, Cond.methodLink RX1 37 yX0_clear, Cond.methodLink RX1 40 yX0_putAll, Cond.instanceMethod yX0_putAll, Cond.selects RX0 yX0_putAll yX0_putAll, Cond.code yX0_putAll cX0_putAll 3 none, Cond.methodLink RX0 19 yX0_length, Cond.methodLink RX2 100 yX1_readTokens, Cond.methodLink RX2 103 yX2_exchangeSpare, Cond.instanceMethod yX2_exchangeSpare, Cond.selects RX2 yX2_exchangeSpare yX2_exchangeSpare, Cond.code yX2_exchangeSpare cX2_exchangeSpare 4 (some .int), Cond.methodLink RX2 112 yX2_versionIn, Cond.instanceMethod yX2_versionIn, Cond.selects RX2 yX2_versionIn yX2_versionIn, Cond.code yX2_versionIn cX2_versionIn 2 (some (.object "Releaseledger$Version")), Cond.methodLink RX2 135 yX1_orderTo, Cond.instanceMethod yX1_orderTo, Cond.selects RX1 yX1_orderTo yX1_orderTo, Cond.code yX1_orderTo cX1_orderTo 4 (some .int), Cond.methodLink RX1 76 yX1_orderOfRow, Cond.instanceMethod yX1_orderOfRow, Cond.selects RX1 yX1_orderOfRow yX1_orderOfRow, Cond.code yX1_orderOfRow cX1_orderOfRow 8 (some .int)]
def wsL_law0_r13 : List Cond := [Cond.methodLink RX1 84 Lib.Math.max.name, Cond.static Lib.Math.max.name, Cond.initialized "java/lang/Math", Cond.code Lib.Math.max.name Lib.Math.max.code 2 (some .int), Cond.methodLink RX1 80 yX1_hasRow, Cond.instanceMethod yX1_hasRow, Cond.selects RX1 yX1_hasRow yX1_hasRow, Cond.code yX1_hasRow cX1_hasRow 2 (some .boolean), Cond.methodLink RX1 90 yX1_sizeAt, Cond.instanceMethod yX1_sizeAt, Cond.selects RX1 yX1_sizeAt yX1_sizeAt, Cond.code yX1_sizeAt cX1_sizeAt 3 (some .int), Cond.methodLink RX1 93 yX1_orderOfWords, Cond.instanceMethod yX1_orderOfWords, Cond.selects RX1 yX1_orderOfWords yX1_orderOfWords, Cond.code yX1_orderOfWords cX1_orderOfWords 10 (some .int), Cond.methodLink RX1 103 yX1_startAt, Cond.instanceMethod yX1_startAt, Cond.selects RX1 yX1_startAt yX1_startAt, Cond.code yX1_startAt cX1_startAt 3 (some .int), Cond.static yX2_orderOfNumbers, Cond.code yX2_orderOfNumbers cX2_orderOfNumbers 2 (some .int), Cond.methodLink RX1 97 yX1_orderOfSizes, Cond.static yX1_orderOfSizes]
def wsL_law0_r14 : List Cond := [Cond.code yX1_orderOfSizes cX1_orderOfSizes 2 (some .int), Cond.methodLink RL 123 yX3_parse, Cond.instanceMethod yX3_parse, Cond.selects RX3 yX3_parse yX3_parse, Cond.code yX3_parse cX3_parse 2 (some .int), Cond.methodLink RX3 108 yX3_isSlot, Cond.static yX3_isSlot, Cond.code yX3_isSlot cX3_isSlot 1 (some .boolean), Cond.methodLink RX3 112 yX3_lay, Cond.instanceMethod yX3_lay, Cond.selects RX3 yX3_lay yX3_lay, Cond.code yX3_lay cX3_lay 7 (some .int), Cond.methodLink RX3 54 yX3_look, Cond.instanceMethod yX3_look, Cond.selects RX3 yX3_look yX3_look, Cond.code yX3_look cX3_look 8 none, Cond.methodLink RX3 73 yX3_look_, Cond.instanceMethod yX3_look_, Cond.selects RX3 yX3_look_ yX3_look_, Cond.code yX3_look_ cX3_look_ 3 none, Cond.methodLink RX3 76 yX3_judged, Cond.instanceMethod yX3_judged, Cond.selects RX3 yX3_judged yX3_judged, Cond.code yX3_judged cX3_judged 2 (some (.array .int))]
def wsL_law0_r15 : List Cond := [Cond.methodLink RX3 69 yX3_rows, Cond.instanceMethod yX3_rows, Cond.selects RX3 yX3_rows yX3_rows, Cond.code yX3_rows cX3_rows 7 (some .int), Cond.methodLink RX3 58 yX3_isNumber, Cond.instanceMethod yX3_isNumber, Cond.selects RX3 yX3_isNumber yX3_isNumber, Cond.code yX3_isNumber cX3_isNumber 4 (some .boolean), Cond.methodLink RX3 61 yX3_number, Cond.instanceMethod yX3_number, Cond.selects RX3 yX3_number yX3_number, Cond.code yX3_number cX3_number 6 (some .int), Cond.methodLink RX3 65 yX3_words, Cond.instanceMethod yX3_words, Cond.selects RX3 yX3_words yX3_words, Cond.code yX3_words cX3_words 8 (some .int), Cond.methodLink RL 124 yL_triple, Cond.static yL_triple, Cond.codeWith yL_triple cL_triple 7 (some .int) [(0, 14, 17, 28), (0, 14, 21, 13)], Cond.methodLink RL 34 yX2_triple, Cond.instanceMethod yX2_triple, Cond.selects RX2 yX2_triple yX2_triple, Cond.code yX2_triple cX2_triple 5 (some .int), Cond.methodLink RL 127 yX3_triple]
def wsL_law0_r16 : List Cond := [Cond.instanceMethod yX3_triple, Cond.selects RX3 yX3_triple yX3_triple, Cond.code yX3_triple cX3_triple 7 (some .int), Cond.methodLink RL 128 yL_copy, Cond.static yL_copy, Cond.codeWith yL_copy cL_copy 5 (some .int) [(0, 10, 13, 28)], Cond.methodLink RL 38 yX2_copy, Cond.instanceMethod yX2_copy, Cond.selects RX2 yX2_copy yX2_copy, Cond.code yX2_copy cX2_copy 4 (some .int), Cond.methodLink RX2 116 yX2_parseAnew, Cond.instanceMethod yX2_parseAnew, Cond.selects RX2 yX2_parseAnew yX2_parseAnew, Cond.code yX2_parseAnew cX2_parseAnew 2 none, Cond.methodLink RL 130 yX3_copy, Cond.instanceMethod yX3_copy, Cond.selects RX3 yX3_copy yX3_copy, Cond.code yX3_copy cX3_copy 3 (some .int), Cond.methodLink RL 131 yL_size, Cond.static yL_size, Cond.codeWith yL_size cL_size 4 (some .int) [(0, 9, 12, 28)], Cond.methodLink RL 41 yX2_size, Cond.instanceMethod yX2_size, Cond.selects RX2 yX2_size yX2_size]
def wsL_law0_r17 : List Cond := [Cond.code yX2_size cX2_size 2 (some .int), Cond.methodLink RL 133 yX3_size, Cond.instanceMethod yX3_size, Cond.selects RX3 yX3_size yX3_size, Cond.code yX3_size cX3_size 2 (some .int), Cond.methodLink RL 134 yL_text, Cond.static yL_text, Cond.codeWith yL_text cL_text 5 (some .int) [(0, 10, 13, 28)], Cond.methodLink RL 44 yX2_text, Cond.instanceMethod yX2_text, Cond.selects RX2 yX2_text yX2_text, Cond.code yX2_text cX2_text 4 (some .char), Cond.methodLink RL 136 yX3_text, Cond.instanceMethod yX3_text, Cond.selects RX3 yX3_text yX3_text, Cond.code yX3_text cX3_text 3 (some .char), Cond.methodLink RL 137 yL_tokens, Cond.static yL_tokens, Cond.codeWith yL_tokens cL_tokens 5 (some .int) [(0, 10, 13, 28), (0, 10, 17, 13)], Cond.methodLink RL 48 yX2_tokens, Cond.instanceMethod yX2_tokens, Cond.selects RX2 yX2_tokens yX2_tokens, Cond.code yX2_tokens cX2_tokens 4 (some .int), Cond.methodLink RX2 120 yX2_checkRow]
def wsL_law0_r18 : List Cond := [Cond.static yX2_checkRow, Cond.code yX2_checkRow cX2_checkRow 1 none, Cond.methodLink RX2 123 yX1_tokensIn, Cond.methodLink RL 139 yX3_tokens, Cond.instanceMethod yX3_tokens, Cond.selects RX3 yX3_tokens yX3_tokens, Cond.code yX3_tokens cX3_tokens 3 (some .int), Cond.methodLink RL 140 yL_token, Cond.static yL_token, Cond.codeWith yL_token cL_token 6 (some .int) [(0, 12, 15, 28), (0, 12, 19, 13)], Cond.methodLink RL 51 yX2_token, Cond.instanceMethod yX2_token, Cond.selects RX2 yX2_token yX2_token, Cond.code yX2_token cX2_token 5 (some .int), Cond.methodLink RX2 131 yX1_sizeAt, Cond.methodLink RL 143 yX3_token, Cond.instanceMethod yX3_token, Cond.selects RX3 yX3_token yX3_token, Cond.code yX3_token cX3_token 4 (some .int), Cond.methodLink RL 144 yL_compare, Cond.static yL_compare, Cond.codeWith yL_compare cL_compare 5 (some .int) [(0, 10, 13, 28)], Cond.methodLink RL 55 yX2_compare, Cond.instanceMethod yX2_compare]
def wsL_law0_r19 : List Cond := [Cond.selects RX2 yX2_compare yX2_compare, Cond.code yX2_compare cX2_compare 3 (some .int), Cond.methodLink RL 146 yX3_compare, Cond.instanceMethod yX3_compare, Cond.selects RX3 yX3_compare yX3_compare, Cond.code yX3_compare cX3_compare 3 (some .int), Cond.methodLink RX3 116 yX3_order, Cond.instanceMethod yX3_order, Cond.selects RX3 yX3_order yX3_order, Cond.code yX3_order cX3_order 3 (some .int), Cond.methodLink RL 147 yL_isSame, Cond.static yL_isSame, Cond.codeWith yL_isSame cL_isSame 5 (some .int) [(0, 17, 20, 28)], Cond.methodLink RL 58 yX2_isSame, Cond.instanceMethod yX2_isSame, Cond.selects RX2 yX2_isSame yX2_isSame, Cond.code yX2_isSame cX2_isSame 3 (some .boolean), Cond.methodLink RL 149 yX3_isSame, Cond.instanceMethod yX3_isSame, Cond.selects RX3 yX3_isSame yX3_isSame, Cond.code yX3_isSame cX3_isSame 3 (some .boolean), Cond.methodLink RL 150 yL_apart, Cond.static yL_apart, Cond.codeWith yL_apart cL_apart 5 (some .int) [(0, 10, 13, 28)]]
def wsL_law0_r20 : List Cond := [Cond.methodLink RL 62 yX2_apart, Cond.instanceMethod yX2_apart, Cond.selects RX2 yX2_apart yX2_apart, Cond.code yX2_apart cX2_apart 3 (some .int), Cond.methodLink RX2 139 yX1_tellingRow, Cond.instanceMethod yX1_tellingRow, Cond.selects RX1 yX1_tellingRow yX1_tellingRow, Cond.code yX1_tellingRow cX1_tellingRow 3 (some .int), Cond.methodLink RL 152 yX3_apart, Cond.instanceMethod yX3_apart, Cond.selects RX3 yX3_apart yX3_apart, Cond.code yX3_apart cX3_apart 3 (some .int), Cond.methodLink RL 153 yL_rank, Cond.static yL_rank, Cond.codeWith yL_rank cL_rank 4 (some .int) [(0, 9, 12, 28)], Cond.methodLink RL 65 yX2_rank, Cond.instanceMethod yX2_rank, Cond.selects RX2 yX2_rank yX2_rank, Cond.code yX2_rank cX2_rank 5 (some .int), Cond.methodLink RL 155 yX3_rank, Cond.instanceMethod yX3_rank, Cond.selects RX3 yX3_rank yX3_rank, Cond.code yX3_rank cX3_rank 4 (some .int), Cond.methodLink RL 156 yL_at]
def wsL_law0_r21 : List Cond := [Cond.static yL_at, Cond.codeWith yL_at cL_at 4 (some .int) [(0, 9, 12, 28)], Cond.methodLink RL 68 yX2_at, Cond.instanceMethod yX2_at, Cond.selects RX2 yX2_at yX2_at, Cond.code yX2_at cX2_at 2 (some .int), Cond.methodLink RX2 144 yX2_orderSlots, Cond.instanceMethod yX2_orderSlots, Cond.selects RX2 yX2_orderSlots yX2_orderSlots, Cond.code yX2_orderSlots cX2_orderSlots 3 none, Cond.methodLink RL 158 yX3_at, Cond.instanceMethod yX3_at, Cond.selects RX3 yX3_at yX3_at, Cond.code yX3_at cX3_at 3 (some .int), Cond.methodLink RX3 119 yX3_place, Cond.instanceMethod yX3_place, Cond.selects RX3 yX3_place yX3_place, Cond.code yX3_place cX3_place 5 (some .int), Cond.methodLink RL 159 yX2_sort, Cond.instanceMethod yX2_sort, Cond.selects RX2 yX2_sort yX2_sort, Cond.code yX2_sort cX2_sort 3 (some .int), Cond.methodLink RL 162 yX3_sort, Cond.instanceMethod yX3_sort]
def wsL_law0_r22 : List Cond := [Cond.selects RX3 yX3_sort yX3_sort, Cond.code yX3_sort cX3_sort 6 (some .int), Cond.methodLink RL 163 yL_between, Cond.static yL_between, Cond.codeWith yL_between cL_between 5 (some .int) [(0, 10, 13, 28)], Cond.methodLink RL 71 yX2_between, Cond.instanceMethod yX2_between, Cond.selects RX2 yX2_between yX2_between, Cond.code yX2_between cX2_between 7 (some .int), Cond.methodLink RL 165 yX3_between, Cond.instanceMethod yX3_between, Cond.selects RX3 yX3_between yX3_between, Cond.code yX3_between cX3_between 5 (some .int), Cond.methodLink RL 166 yL_zero, Cond.static yL_zero, Cond.codeWith yL_zero cL_zero 5 (some .int) [(0, 17, 20, 28), (0, 17, 24, 19)], Cond.methodLink RL 74 yX2_zero, Cond.instanceMethod yX2_zero, Cond.selects RX2 yX2_zero yX2_zero, Cond.code yX2_zero cX2_zero 5 (some .boolean), Cond.methodLink RX2 150 yX2_parseWithNumberBehind, Cond.instanceMethod yX2_parseWithNumberBehind, Cond.selects RX2 yX2_parseWithNumberBehind yX2_parseWithNumberBehind, Cond.code yX2_parseWithNumberBehind cX2_parseWithNumberBehind 4 none]
def wsL_law0_r23 : List Cond := [Cond.methodLink RL 168 yX3_zero, Cond.instanceMethod yX3_zero, Cond.selects RX3 yX3_zero yX3_zero, Cond.code yX3_zero cX3_zero 3 (some .boolean), Cond.methodLink RX3 130 yX3_hasRoom, Cond.instanceMethod yX3_hasRoom, Cond.selects RX3 yX3_hasRoom yX3_hasRoom, Cond.code yX3_hasRoom cX3_hasRoom 3 (some .boolean), Cond.methodLink RX3 134 yX3_behind, Cond.instanceMethod yX3_behind, Cond.selects RX3 yX3_behind yX3_behind, Cond.code yX3_behind cX3_behind 6 (some .int), Cond.methodLink RX3 122 yX3_longer, Cond.instanceMethod yX3_longer, Cond.selects RX3 yX3_longer yX3_longer, Cond.code yX3_longer cX3_longer 4 (some (.array .char)), Cond.methodLink RX3 126 yX3_put, Cond.instanceMethod yX3_put, Cond.selects RX3 yX3_put yX3_put, Cond.code yX3_put cX3_put 6 (some .int), Cond.methodLink RL 169 yL_longer, Cond.static yL_longer, Cond.codeWith yL_longer cL_longer 6 (some .int) [(0, 19, 22, 28), (0, 19, 26, 13), (0, 19, 30, 19)], Cond.methodLink RL 77 yX2_longer]
def wsL_law0_r24 : List Cond := [Cond.instanceMethod yX2_longer, Cond.selects RX2 yX2_longer yX2_longer, Cond.code yX2_longer cX2_longer 6 (some .boolean), Cond.methodLink RL 171 yX3_longer_, Cond.instanceMethod yX3_longer_, Cond.selects RX3 yX3_longer_ yX3_longer_, Cond.code yX3_longer_ cX3_longer_ 4 (some .boolean), Cond.methodLink RL 172 yL_early, Cond.static yL_early, Cond.codeWith yL_early cL_early 6 (some .int) [(0, 19, 22, 28), (0, 19, 26, 13), (0, 19, 30, 19)], Cond.methodLink RL 81 yX2_early, Cond.instanceMethod yX2_early, Cond.selects RX2 yX2_early yX2_early, Cond.code yX2_early cX2_early 6 (some .boolean), Cond.methodLink RX2 156 yX1_hasRow, Cond.methodLink RX2 165 yX2_parseWithLetterBehind, Cond.instanceMethod yX2_parseWithLetterBehind, Cond.selects RX2 yX2_parseWithLetterBehind yX2_parseWithLetterBehind, Cond.code yX2_parseWithLetterBehind cX2_parseWithLetterBehind 3 none, Cond.methodLink RL 175 yX3_early, Cond.instanceMethod yX3_early, Cond.selects RX3 yX3_early yX3_early, Cond.code yX3_early cX3_early 5 (some .boolean), Cond.methodLink RL 176 yL_built]
def wsL_law0_r25 : List Cond := [Cond.static yL_built, Cond.codeWith yL_built cL_built 6 (some .int) [(0, 12, 15, 28), (0, 12, 19, 13), (0, 12, 23, 19)], Cond.methodLink RL 85 yX2_built, Cond.instanceMethod yX2_built, Cond.selects RX2 yX2_built yX2_built, Cond.code yX2_built cX2_built 6 (some .int), Cond.methodLink RL 178 yX3_built, Cond.instanceMethod yX3_built, Cond.selects RX3 yX3_built yX3_built, Cond.code yX3_built cX3_built 4 (some .int), Cond.methodLink RL 179 yL_isHashed, Cond.static yL_isHashed, Cond.codeWith yL_isHashed cL_isHashed 4 (some .int) [(0, 16, 19, 28)], Cond.methodLink RL 88 yX2_isHashed, Cond.instanceMethod yX2_isHashed, Cond.selects RX2 yX2_isHashed yX2_isHashed, Cond.code yX2_isHashed cX2_isHashed 3 (some .boolean), Cond.methodLink RX2 171 yX0_hash, Cond.instanceMethod yX0_hash, Cond.selects RX0 yX0_hash yX0_hash, Cond.code yX0_hash cX0_hash 3 (some .int), Cond.methodLink RL 181 yX3_isHashed, Cond.instanceMethod yX3_isHashed, Cond.selects RX3 yX3_isHashed yX3_isHashed]
def wsL_law0_r26 : List Cond := [Cond.code yX3_isHashed cX3_isHashed 2 (some .boolean), Cond.methodLink RL 182 yX2_wordShare, Cond.instanceMethod yX2_wordShare, Cond.selects RX2 yX2_wordShare yX2_wordShare, Cond.code yX2_wordShare cX2_wordShare 4 (some .float), Cond.methodLink RX2 174 yX1_words, Cond.instanceMethod yX1_words, Cond.selects RX1 yX1_words yX1_words, Cond.code yX1_words cX1_words 4 (some .int), Cond.methodLink RX2 177 yX1_allTokens, Cond.instanceMethod yX1_allTokens, Cond.selects RX1 yX1_allTokens yX1_allTokens, Cond.code yX1_allTokens cX1_allTokens 3 (some .int), Cond.methodLink RL 186 yX3_wordShare, Cond.instanceMethod yX3_wordShare, Cond.selects RX3 yX3_wordShare yX3_wordShare, Cond.code yX3_wordShare cX3_wordShare 6 (some .float), Cond.methodLink RL 187 yX2_checksum, Cond.instanceMethod yX2_checksum, Cond.selects RX2 yX2_checksum yX2_checksum, Cond.code yX2_checksum cX2_checksum 4 (some .long), Cond.constantLong RX2 180 (23), Cond.methodLink RX2 182 yX0_addTo, Cond.instanceMethod yX0_addTo]
def wsL_law0_r27 : List Cond := [Cond.selects RX0 yX0_addTo yX0_addTo, Cond.code yX0_addTo cX0_addTo 6 (some .long), Cond.constantLong RX0 40 (31), Cond.methodLink RL 191 yX3_checksum, Cond.instanceMethod yX3_checksum, Cond.selects RX3 yX3_checksum yX3_checksum, Cond.code yX3_checksum cX3_checksum 5 (some .long), Cond.constantLong RX3 138 (23), Cond.constantLong RX3 140 (31), Cond.methodLink RL 192 yX2_isTrue, Cond.instanceMethod yX2_isTrue, Cond.selects RX2 yX2_isTrue yX2_isTrue, Cond.code yX2_isTrue cX2_isTrue 4 (some .boolean), Cond.methodLink RX2 186 yX2_fillOrders, Cond.instanceMethod yX2_fillOrders, Cond.selects RX2 yX2_fillOrders yX2_fillOrders, Cond.code yX2_fillOrders cX2_fillOrders 3 none, Cond.methodLink RX2 189 yX2_isTrueOfOne, Cond.instanceMethod yX2_isTrueOfOne, Cond.selects RX2 yX2_isTrueOfOne yX2_isTrueOfOne, Cond.code yX2_isTrueOfOne cX2_isTrueOfOne 4 (some .boolean), Cond.methodLink RX2 229 yX0_isLike, Cond.instanceMethod yX0_isLike, Cond.selects RX0 yX0_isLike yX0_isLike]
def wsL_law0_r28 : List Cond := [Cond.code yX0_isLike cX0_isLike 3 (some .boolean), Cond.methodLink RX2 193 yX2_isTrueOfTwo, Cond.instanceMethod yX2_isTrueOfTwo, Cond.selects RX2 yX2_isTrueOfTwo yX2_isTrueOfTwo, Cond.code yX2_isTrueOfTwo cX2_isTrueOfTwo 5 (some .boolean), Cond.methodLink RX2 197 yX2_orderOf, Cond.instanceMethod yX2_orderOf, Cond.selects RX2 yX2_orderOf yX2_orderOf, Cond.code yX2_orderOf cX2_orderOf 3 (some .int), Cond.methodLink RX2 200 yX2_isTrueOfThree, Cond.static yX2_isTrueOfThree, Cond.code yX2_isTrueOfThree cX2_isTrueOfThree 3 (some .boolean), Cond.methodLink RL 196 yX3_isTrue, Cond.instanceMethod yX3_isTrue, Cond.selects RX3 yX3_isTrue yX3_isTrue, Cond.code yX3_isTrue cX3_isTrue 1 (some .boolean)]
def wsL_law0 : List Cond := (wsL_law0_r1 ++ (wsL_law0_r2 ++ (wsL_law0_r3 ++ (wsL_law0_r4 ++ (wsL_law0_r5 ++ (wsL_law0_r6 ++ (wsL_law0_r7 ++ (wsL_law0_r8 ++ (wsL_law0_r9 ++ (wsL_law0_r10 ++ (wsL_law0_r11 ++ (wsL_law0_r12 ++ (wsL_law0_r13 ++ (wsL_law0_r14 ++ (wsL_law0_r15 ++ (wsL_law0_r16 ++ (wsL_law0_r17 ++ (wsL_law0_r18 ++ (wsL_law0_r19 ++ (wsL_law0_r20 ++ (wsL_law0_r21 ++ (wsL_law0_r22 ++ (wsL_law0_r23 ++ (wsL_law0_r24 ++ (wsL_law0_r25 ++ (wsL_law0_r26 ++ (wsL_law0_r27 ++ wsL_law0_r28))))))))))))))))))))))))))) ++ wsX20 ++ wsX30 ++ wsX00 ++ wsX10 ++ ([] : List Cond)
def wsL_law : List Cond := wsL_law0 ++ (vx_atS RX2 77 "java/lang/IllegalArgumentException" ["java/lang/RuntimeException", "java/lang/Exception"]).filter goodWord ++ (vx_atS RX2 164 "java/lang/IllegalStateException" ["java/lang/RuntimeException", "java/lang/Exception"]).filter goodWord ++ (vx_atS RX2 130 "java/lang/IndexOutOfBoundsException" ["java/lang/RuntimeException", "java/lang/Exception"]).filter goodWord
abbrev vwCl : List vw_C := [(RX0, TX0, 2), (RX1, TX1, 4), (RX2, TX2, 6), (RX3, TX3, 9)]
end
section
theorem dX0_init_0 : decode cX0_init 0 = .ok (.aload_n 0, 1) := by decide +kernel
theorem dX0_init_1 : decode cX0_init 1 = .ok (.invokespecial 3, 3) := by decide +kernel
theorem dX0_init_4 : decode cX0_init 4 = .ok (.aload_n 0, 1) := by decide +kernel
theorem dX0_init_5 : decode cX0_init 5 = .ok (.bipush 60, 2) := by decide +kernel
theorem dX0_init_7 : decode cX0_init 7 = .ok (.newarray .char, 2) := by decide +kernel
theorem dX0_init_9 : decode cX0_init 9 = .ok (.putfield 9, 3) := by decide +kernel
theorem dX0_init_12 : decode cX0_init 12 = .ok (.aload_n 0, 1) := by decide +kernel
theorem dX0_init_13 : decode cX0_init 13 = .ok (.iconst 0, 1) := by decide +kernel
theorem dX0_init_14 : decode cX0_init 14 = .ok (.putfield 15, 3) := by decide +kernel
theorem dX0_init_17 : decode cX0_init 17 = .ok (.return_, 1) := by decide +kernel
theorem dX0_length_0 : decode cX0_length 0 = .ok (.aload_n 0, 1) := by decide +kernel
theorem dX0_length_1 : decode cX0_length 1 = .ok (.getfield 15, 3) := by decide +kernel
theorem dX0_length_4 : decode cX0_length 4 = .ok (.ireturn, 1) := by decide +kernel
theorem dX0_signAt_0 : decode cX0_signAt 0 = .ok (.iload_n 1, 1) := by decide +kernel
theorem dX0_signAt_1 : decode cX0_signAt 1 = .ok (.ifCond .lt 20, 3) := by decide +kernel
theorem dX0_signAt_4 : decode cX0_signAt 4 = .ok (.iload_n 1, 1) := by decide +kernel
theorem dX0_signAt_5 : decode cX0_signAt 5 = .ok (.aload_n 0, 1) := by decide +kernel
theorem dX0_signAt_6 : decode cX0_signAt 6 = .ok (.getfield 15, 3) := by decide +kernel
theorem dX0_signAt_9 : decode cX0_signAt 9 = .ok (.if_icmp .ge 12, 3) := by decide +kernel
theorem dX0_signAt_12 : decode cX0_signAt 12 = .ok (.aload_n 0, 1) := by decide +kernel
theorem dX0_signAt_13 : decode cX0_signAt 13 = .ok (.getfield 9, 3) := by decide +kernel
theorem dX0_signAt_16 : decode cX0_signAt 16 = .ok (.iload_n 1, 1) := by decide +kernel
theorem dX0_signAt_17 : decode cX0_signAt 17 = .ok (.caload, 1) := by decide +kernel
theorem dX0_signAt_18 : decode cX0_signAt 18 = .ok (.goto 5, 3) := by decide +kernel
theorem dX0_signAt_21 : decode cX0_signAt 21 = .ok (.bipush 32, 2) := by decide +kernel
theorem dX0_signAt_23 : decode cX0_signAt 23 = .ok (.ireturn, 1) := by decide +kernel
theorem dX0_clear_0 : decode cX0_clear 0 = .ok (.aload_n 0, 1) := by decide +kernel
theorem dX0_clear_1 : decode cX0_clear 1 = .ok (.iconst 0, 1) := by decide +kernel
theorem dX0_clear_2 : decode cX0_clear 2 = .ok (.putfield 15, 3) := by decide +kernel
theorem dX0_clear_5 : decode cX0_clear 5 = .ok (.return_, 1) := by decide +kernel
theorem dX0_put_0 : decode cX0_put 0 = .ok (.aload_n 0, 1) := by decide +kernel
theorem dX0_put_1 : decode cX0_put 1 = .ok (.getfield 15, 3) := by decide +kernel
theorem dX0_put_4 : decode cX0_put 4 = .ok (.bipush 60, 2) := by decide +kernel
theorem dX0_put_6 : decode cX0_put 6 = .ok (.if_icmp .ge 23, 3) := by decide +kernel
theorem dX0_put_9 : decode cX0_put 9 = .ok (.aload_n 0, 1) := by decide +kernel
theorem dX0_put_10 : decode cX0_put 10 = .ok (.getfield 9, 3) := by decide +kernel
theorem dX0_put_13 : decode cX0_put 13 = .ok (.aload_n 0, 1) := by decide +kernel
theorem dX0_put_14 : decode cX0_put 14 = .ok (.getfield 15, 3) := by decide +kernel
theorem dX0_put_17 : decode cX0_put 17 = .ok (.iload_n 1, 1) := by decide +kernel
theorem dX0_put_18 : decode cX0_put 18 = .ok (.castore, 1) := by decide +kernel
theorem dX0_put_19 : decode cX0_put 19 = .ok (.aload_n 0, 1) := by decide +kernel
theorem dX0_put_20 : decode cX0_put 20 = .ok (.dup, 1) := by decide +kernel
theorem dX0_put_21 : decode cX0_put 21 = .ok (.getfield 15, 3) := by decide +kernel
theorem dX0_put_24 : decode cX0_put 24 = .ok (.iconst 1, 1) := by decide +kernel
theorem dX0_put_25 : decode cX0_put 25 = .ok (.iadd, 1) := by decide +kernel
theorem dX0_put_26 : decode cX0_put 26 = .ok (.putfield 15, 3) := by decide +kernel
theorem dX0_put_29 : decode cX0_put 29 = .ok (.return_, 1) := by decide +kernel
set_option maxRecDepth 20000 in
theorem ggX0_putAll_X0_length : GoodIn wsX0_putAll wsX0_length := goodIn_r _ [5, 6, 16, 17] (by decide +kernel) (by decide +kernel)
set_option maxRecDepth 20000 in
theorem gX0_putAll_X0_length : GoodIn wsX0_putAll (wsV RX0 19 RX0 yX0_length wsX0_length) := goodIn_app (goodIn_of _ (by decide +kernel)) ggX0_putAll_X0_length
set_option maxRecDepth 20000 in
theorem ggX0_putAll_X0_signAt : GoodIn wsX0_putAll wsX0_signAt := goodIn_r _ [10, 6, 11, 16, 17] (by decide +kernel) (by decide +kernel)
set_option maxRecDepth 20000 in
theorem gX0_putAll_X0_signAt : GoodIn wsX0_putAll (wsV RX0 23 RX0 yX0_signAt wsX0_signAt) := goodIn_app (goodIn_of _ (by decide +kernel)) ggX0_putAll_X0_signAt
set_option maxRecDepth 20000 in
theorem ggX0_putAll_X0_put : GoodIn wsX0_putAll wsX0_put := goodIn_r _ [15, 6, 11, 16, 17] (by decide +kernel) (by decide +kernel)
set_option maxRecDepth 20000 in
theorem gX0_putAll_X0_put : GoodIn wsX0_putAll (wsV RX0 27 RX0 yX0_put wsX0_put) := goodIn_app (goodIn_of _ (by decide +kernel)) ggX0_putAll_X0_put
theorem dX0_putAll_0 : decode cX0_putAll 0 = .ok (.iconst 0, 1) := by decide +kernel
theorem dX0_putAll_1 : decode cX0_putAll 1 = .ok (.istore_n 2, 1) := by decide +kernel
theorem dX0_putAll_2 : decode cX0_putAll 2 = .ok (.iload_n 2, 1) := by decide +kernel
theorem dX0_putAll_3 : decode cX0_putAll 3 = .ok (.aload_n 1, 1) := by decide +kernel
theorem dX0_putAll_4 : decode cX0_putAll 4 = .ok (.invokevirtual 19, 3) := by decide +kernel
theorem dX0_putAll_7 : decode cX0_putAll 7 = .ok (.if_icmp .ge 18, 3) := by decide +kernel
theorem dX0_putAll_10 : decode cX0_putAll 10 = .ok (.aload_n 0, 1) := by decide +kernel
theorem dX0_putAll_11 : decode cX0_putAll 11 = .ok (.aload_n 1, 1) := by decide +kernel
theorem dX0_putAll_12 : decode cX0_putAll 12 = .ok (.iload_n 2, 1) := by decide +kernel
theorem dX0_putAll_13 : decode cX0_putAll 13 = .ok (.invokevirtual 23, 3) := by decide +kernel
theorem dX0_putAll_16 : decode cX0_putAll 16 = .ok (.invokevirtual 27, 3) := by decide +kernel
theorem dX0_putAll_19 : decode cX0_putAll 19 = .ok (.iinc 2 1, 3) := by decide +kernel
theorem dX0_putAll_22 : decode cX0_putAll 22 = .ok (.goto (-20), 3) := by decide +kernel
theorem dX0_putAll_25 : decode cX0_putAll 25 = .ok (.return_, 1) := by decide +kernel
set_option maxRecDepth 20000 in
theorem ggX0_putNumber_X0_put : GoodIn wsX0_putNumber wsX0_put := goodIn_r _ [6, 7, 8, 9, 10] (by decide +kernel) (by decide +kernel)
set_option maxRecDepth 20000 in
theorem gX0_putNumber_X0_put : GoodIn wsX0_putNumber (wsV RX0 27 RX0 yX0_put wsX0_put) := goodIn_app (goodIn_of _ (by decide +kernel)) ggX0_putNumber_X0_put
theorem dX0_putNumber_0 : decode cX0_putNumber 0 = .ok (.iconst 0, 1) := by decide +kernel
theorem dX0_putNumber_1 : decode cX0_putNumber 1 = .ok (.istore_n 3, 1) := by decide +kernel
theorem dX0_putNumber_2 : decode cX0_putNumber 2 = .ok (.iload_n 3, 1) := by decide +kernel
theorem dX0_putNumber_3 : decode cX0_putNumber 3 = .ok (.iload_n 2, 1) := by decide +kernel
theorem dX0_putNumber_4 : decode cX0_putNumber 4 = .ok (.if_icmp .ge 15, 3) := by decide +kernel
theorem dX0_putNumber_7 : decode cX0_putNumber 7 = .ok (.aload_n 0, 1) := by decide +kernel
theorem dX0_putNumber_8 : decode cX0_putNumber 8 = .ok (.bipush 48, 2) := by decide +kernel
theorem dX0_putNumber_10 : decode cX0_putNumber 10 = .ok (.invokevirtual 27, 3) := by decide +kernel
theorem dX0_putNumber_13 : decode cX0_putNumber 13 = .ok (.iinc 3 1, 3) := by decide +kernel
theorem dX0_putNumber_16 : decode cX0_putNumber 16 = .ok (.goto (-14), 3) := by decide +kernel
theorem dX0_putNumber_19 : decode cX0_putNumber 19 = .ok (.ldc 31, 2) := by decide +kernel
theorem dX0_putNumber_21 : decode cX0_putNumber 21 = .ok (.istore_n 3, 1) := by decide +kernel
theorem dX0_putNumber_22 : decode cX0_putNumber 22 = .ok (.iload_n 3, 1) := by decide +kernel
theorem dX0_putNumber_23 : decode cX0_putNumber 23 = .ok (.ifCond .le 35, 3) := by decide +kernel
theorem dX0_putNumber_26 : decode cX0_putNumber 26 = .ok (.iload_n 1, 1) := by decide +kernel
theorem dX0_putNumber_27 : decode cX0_putNumber 27 = .ok (.iload_n 3, 1) := by decide +kernel
theorem dX0_putNumber_28 : decode cX0_putNumber 28 = .ok (.if_icmp .ge 8, 3) := by decide +kernel
theorem dX0_putNumber_31 : decode cX0_putNumber 31 = .ok (.iload_n 3, 1) := by decide +kernel
theorem dX0_putNumber_32 : decode cX0_putNumber 32 = .ok (.iconst 1, 1) := by decide +kernel
theorem dX0_putNumber_33 : decode cX0_putNumber 33 = .ok (.if_icmp .ne 17, 3) := by decide +kernel
theorem dX0_putNumber_36 : decode cX0_putNumber 36 = .ok (.aload_n 0, 1) := by decide +kernel
theorem dX0_putNumber_37 : decode cX0_putNumber 37 = .ok (.bipush 48, 2) := by decide +kernel
theorem dX0_putNumber_39 : decode cX0_putNumber 39 = .ok (.iload_n 1, 1) := by decide +kernel
theorem dX0_putNumber_40 : decode cX0_putNumber 40 = .ok (.iload_n 3, 1) := by decide +kernel
theorem dX0_putNumber_41 : decode cX0_putNumber 41 = .ok (.idiv, 1) := by decide +kernel
theorem dX0_putNumber_42 : decode cX0_putNumber 42 = .ok (.bipush 10, 2) := by decide +kernel
theorem dX0_putNumber_44 : decode cX0_putNumber 44 = .ok (.irem, 1) := by decide +kernel
theorem dX0_putNumber_45 : decode cX0_putNumber 45 = .ok (.iadd, 1) := by decide +kernel
theorem dX0_putNumber_46 : decode cX0_putNumber 46 = .ok (.i2c, 1) := by decide +kernel
theorem dX0_putNumber_47 : decode cX0_putNumber 47 = .ok (.invokevirtual 27, 3) := by decide +kernel
theorem dX0_putNumber_50 : decode cX0_putNumber 50 = .ok (.iload_n 3, 1) := by decide +kernel
theorem dX0_putNumber_51 : decode cX0_putNumber 51 = .ok (.bipush 10, 2) := by decide +kernel
theorem dX0_putNumber_53 : decode cX0_putNumber 53 = .ok (.idiv, 1) := by decide +kernel
theorem dX0_putNumber_54 : decode cX0_putNumber 54 = .ok (.istore_n 3, 1) := by decide +kernel
theorem dX0_putNumber_55 : decode cX0_putNumber 55 = .ok (.goto (-33), 3) := by decide +kernel
theorem dX0_putNumber_58 : decode cX0_putNumber 58 = .ok (.return_, 1) := by decide +kernel
set_option maxRecDepth 20000 in
theorem ggX0_putWord_X2_letterOf : GoodIn wsX0_putWord wsX2_letterOf := goodIn_r _ [4] (by decide +kernel) (by decide +kernel)
set_option maxRecDepth 20000 in
theorem gX0_putWord_X2_letterOf_n33 : GoodIn wsX0_putWord (wsX2_letterOf) := ggX0_putWord_X2_letterOf
set_option maxRecDepth 20000 in
theorem ggX0_putWord_X0_put : GoodIn wsX0_putWord wsX0_put := goodIn_r _ [9, 10, 11, 12, 13] (by decide +kernel) (by decide +kernel)
set_option maxRecDepth 20000 in
theorem gX0_putWord_X0_put : GoodIn wsX0_putWord (wsV RX0 27 RX0 yX0_put wsX0_put) := goodIn_app (goodIn_of _ (by decide +kernel)) ggX0_putWord_X0_put
theorem dX0_putWord_0 : decode cX0_putWord 0 = .ok (.iload_n 1, 1) := by decide +kernel
theorem dX0_putWord_1 : decode cX0_putWord 1 = .ok (.ldc 32, 2) := by decide +kernel
theorem dX0_putWord_3 : decode cX0_putWord 3 = .ok (.iand, 1) := by decide +kernel
theorem dX0_putWord_4 : decode cX0_putWord 4 = .ok (.istore_n 3, 1) := by decide +kernel
theorem dX0_putWord_5 : decode cX0_putWord 5 = .ok (.iconst 0, 1) := by decide +kernel
theorem dX0_putWord_6 : decode cX0_putWord 6 = .ok (.istore 4, 2) := by decide +kernel
theorem dX0_putWord_8 : decode cX0_putWord 8 = .ok (.iload 4, 2) := by decide +kernel
theorem dX0_putWord_10 : decode cX0_putWord 10 = .ok (.iload_n 2, 1) := by decide +kernel
theorem dX0_putWord_11 : decode cX0_putWord 11 = .ok (.if_icmp .ge 25, 3) := by decide +kernel
theorem dX0_putWord_14 : decode cX0_putWord 14 = .ok (.aload_n 0, 1) := by decide +kernel
theorem dX0_putWord_15 : decode cX0_putWord 15 = .ok (.iload_n 3, 1) := by decide +kernel
theorem dX0_putWord_16 : decode cX0_putWord 16 = .ok (.bipush 52, 2) := by decide +kernel
theorem dX0_putWord_18 : decode cX0_putWord 18 = .ok (.irem, 1) := by decide +kernel
theorem dX0_putWord_19 : decode cX0_putWord 19 = .ok (.invokestatic 33, 3) := by decide +kernel
theorem dX0_putWord_22 : decode cX0_putWord 22 = .ok (.invokevirtual 27, 3) := by decide +kernel
theorem dX0_putWord_25 : decode cX0_putWord 25 = .ok (.iload_n 3, 1) := by decide +kernel
theorem dX0_putWord_26 : decode cX0_putWord 26 = .ok (.bipush 52, 2) := by decide +kernel
theorem dX0_putWord_28 : decode cX0_putWord 28 = .ok (.idiv, 1) := by decide +kernel
theorem dX0_putWord_29 : decode cX0_putWord 29 = .ok (.istore_n 3, 1) := by decide +kernel
theorem dX0_putWord_30 : decode cX0_putWord 30 = .ok (.iinc 4 1, 3) := by decide +kernel
theorem dX0_putWord_33 : decode cX0_putWord 33 = .ok (.goto (-25), 3) := by decide +kernel
theorem dX0_putWord_36 : decode cX0_putWord 36 = .ok (.return_, 1) := by decide +kernel
set_option maxRecDepth 20000 in
theorem ggX0_lastKind_X0_signAt : GoodIn wsX0_lastKind wsX0_signAt := goodIn_r _ [6, 1, 7, 11, 12] (by decide +kernel) (by decide +kernel)
set_option maxRecDepth 20000 in
theorem gX0_lastKind_X0_signAt : GoodIn wsX0_lastKind (wsV RX0 23 RX0 yX0_signAt wsX0_signAt) := goodIn_app (goodIn_of _ (by decide +kernel)) ggX0_lastKind_X0_signAt
set_option maxRecDepth 20000 in
theorem ggX0_lastKind_X2_kindOf : GoodIn wsX0_lastKind wsX2_kindOf := goodIn_r _ [10] (by decide +kernel) (by decide +kernel)
set_option maxRecDepth 20000 in
theorem gX0_lastKind_X2_kindOf_n36 : GoodIn wsX0_lastKind (wsX2_kindOf) := ggX0_lastKind_X2_kindOf
theorem dX0_lastKind_0 : decode cX0_lastKind 0 = .ok (.aload_n 0, 1) := by decide +kernel
theorem dX0_lastKind_1 : decode cX0_lastKind 1 = .ok (.aload_n 0, 1) := by decide +kernel
theorem dX0_lastKind_2 : decode cX0_lastKind 2 = .ok (.getfield 15, 3) := by decide +kernel
theorem dX0_lastKind_5 : decode cX0_lastKind 5 = .ok (.iconst 1, 1) := by decide +kernel
theorem dX0_lastKind_6 : decode cX0_lastKind 6 = .ok (.isub, 1) := by decide +kernel
theorem dX0_lastKind_7 : decode cX0_lastKind 7 = .ok (.invokevirtual 23, 3) := by decide +kernel
theorem dX0_lastKind_10 : decode cX0_lastKind 10 = .ok (.invokestatic 36, 3) := by decide +kernel
theorem dX0_lastKind_13 : decode cX0_lastKind 13 = .ok (.ireturn, 1) := by decide +kernel
set_option maxRecDepth 20000 in
theorem ggX0_has_X0_signAt : GoodIn wsX0_has wsX0_signAt := goodIn_r _ [6, 1, 7, 8, 9] (by decide +kernel) (by decide +kernel)
set_option maxRecDepth 20000 in
theorem gX0_has_X0_signAt : GoodIn wsX0_has (wsV RX0 23 RX0 yX0_signAt wsX0_signAt) := goodIn_app (goodIn_of _ (by decide +kernel)) ggX0_has_X0_signAt
theorem dX0_has_0 : decode cX0_has 0 = .ok (.iconst 0, 1) := by decide +kernel
theorem dX0_has_1 : decode cX0_has 1 = .ok (.istore_n 2, 1) := by decide +kernel
theorem dX0_has_2 : decode cX0_has 2 = .ok (.iload_n 2, 1) := by decide +kernel
theorem dX0_has_3 : decode cX0_has 3 = .ok (.aload_n 0, 1) := by decide +kernel
theorem dX0_has_4 : decode cX0_has 4 = .ok (.getfield 15, 3) := by decide +kernel
theorem dX0_has_7 : decode cX0_has 7 = .ok (.if_icmp .ge 20, 3) := by decide +kernel
theorem dX0_has_10 : decode cX0_has 10 = .ok (.aload_n 0, 1) := by decide +kernel
theorem dX0_has_11 : decode cX0_has 11 = .ok (.iload_n 2, 1) := by decide +kernel
theorem dX0_has_12 : decode cX0_has 12 = .ok (.invokevirtual 23, 3) := by decide +kernel
theorem dX0_has_15 : decode cX0_has 15 = .ok (.iload_n 1, 1) := by decide +kernel
theorem dX0_has_16 : decode cX0_has 16 = .ok (.if_icmp .ne 5, 3) := by decide +kernel
theorem dX0_has_19 : decode cX0_has 19 = .ok (.iconst 1, 1) := by decide +kernel
theorem dX0_has_20 : decode cX0_has 20 = .ok (.ireturn, 1) := by decide +kernel
theorem dX0_has_21 : decode cX0_has 21 = .ok (.iinc 2 1, 3) := by decide +kernel
theorem dX0_has_24 : decode cX0_has 24 = .ok (.goto (-22), 3) := by decide +kernel
theorem dX0_has_27 : decode cX0_has 27 = .ok (.iconst 0, 1) := by decide +kernel
theorem dX0_has_28 : decode cX0_has 28 = .ok (.ireturn, 1) := by decide +kernel
set_option maxRecDepth 20000 in
theorem ggX0_isLike_X0_length : GoodIn wsX0_isLike wsX0_length := goodIn_r _ [6, 1, 12, 13] (by decide +kernel) (by decide +kernel)
set_option maxRecDepth 20000 in
theorem gX0_isLike_X0_length : GoodIn wsX0_isLike (wsV RX0 19 RX0 yX0_length wsX0_length) := goodIn_app (goodIn_of _ (by decide +kernel)) ggX0_isLike_X0_length
set_option maxRecDepth 20000 in
theorem ggX0_isLike_X0_signAt : GoodIn wsX0_isLike wsX0_signAt := goodIn_r _ [10, 1, 11, 12, 13] (by decide +kernel) (by decide +kernel)
set_option maxRecDepth 20000 in
theorem gX0_isLike_X0_signAt : GoodIn wsX0_isLike (wsV RX0 23 RX0 yX0_signAt wsX0_signAt) := goodIn_app (goodIn_of _ (by decide +kernel)) ggX0_isLike_X0_signAt
theorem dX0_isLike_0 : decode cX0_isLike 0 = .ok (.aload_n 0, 1) := by decide +kernel
theorem dX0_isLike_1 : decode cX0_isLike 1 = .ok (.getfield 15, 3) := by decide +kernel
theorem dX0_isLike_4 : decode cX0_isLike 4 = .ok (.aload_n 1, 1) := by decide +kernel
theorem dX0_isLike_5 : decode cX0_isLike 5 = .ok (.invokevirtual 19, 3) := by decide +kernel
theorem dX0_isLike_8 : decode cX0_isLike 8 = .ok (.if_icmp .eq 5, 3) := by decide +kernel
theorem dX0_isLike_11 : decode cX0_isLike 11 = .ok (.iconst 0, 1) := by decide +kernel
theorem dX0_isLike_12 : decode cX0_isLike 12 = .ok (.ireturn, 1) := by decide +kernel
theorem dX0_isLike_13 : decode cX0_isLike 13 = .ok (.iconst 0, 1) := by decide +kernel
theorem dX0_isLike_14 : decode cX0_isLike 14 = .ok (.istore_n 2, 1) := by decide +kernel
theorem dX0_isLike_15 : decode cX0_isLike 15 = .ok (.iload_n 2, 1) := by decide +kernel
theorem dX0_isLike_16 : decode cX0_isLike 16 = .ok (.aload_n 0, 1) := by decide +kernel
theorem dX0_isLike_17 : decode cX0_isLike 17 = .ok (.getfield 15, 3) := by decide +kernel
theorem dX0_isLike_20 : decode cX0_isLike 20 = .ok (.if_icmp .ge 24, 3) := by decide +kernel
theorem dX0_isLike_23 : decode cX0_isLike 23 = .ok (.aload_n 0, 1) := by decide +kernel
theorem dX0_isLike_24 : decode cX0_isLike 24 = .ok (.iload_n 2, 1) := by decide +kernel
theorem dX0_isLike_25 : decode cX0_isLike 25 = .ok (.invokevirtual 23, 3) := by decide +kernel
theorem dX0_isLike_28 : decode cX0_isLike 28 = .ok (.aload_n 1, 1) := by decide +kernel
theorem dX0_isLike_29 : decode cX0_isLike 29 = .ok (.iload_n 2, 1) := by decide +kernel
theorem dX0_isLike_30 : decode cX0_isLike 30 = .ok (.invokevirtual 23, 3) := by decide +kernel
theorem dX0_isLike_33 : decode cX0_isLike 33 = .ok (.if_icmp .eq 5, 3) := by decide +kernel
theorem dX0_isLike_36 : decode cX0_isLike 36 = .ok (.iconst 0, 1) := by decide +kernel
theorem dX0_isLike_37 : decode cX0_isLike 37 = .ok (.ireturn, 1) := by decide +kernel
theorem dX0_isLike_38 : decode cX0_isLike 38 = .ok (.iinc 2 1, 3) := by decide +kernel
theorem dX0_isLike_41 : decode cX0_isLike 41 = .ok (.goto (-26), 3) := by decide +kernel
theorem dX0_isLike_44 : decode cX0_isLike 44 = .ok (.iconst 1, 1) := by decide +kernel
theorem dX0_isLike_45 : decode cX0_isLike 45 = .ok (.ireturn, 1) := by decide +kernel
set_option maxRecDepth 20000 in
theorem ggX0_hash_X0_signAt : GoodIn wsX0_hash wsX0_signAt := goodIn_r _ [6, 1, 7, 8, 9] (by decide +kernel) (by decide +kernel)
set_option maxRecDepth 20000 in
theorem gX0_hash_X0_signAt : GoodIn wsX0_hash (wsV RX0 23 RX0 yX0_signAt wsX0_signAt) := goodIn_app (goodIn_of _ (by decide +kernel)) ggX0_hash_X0_signAt
theorem dX0_hash_0 : decode cX0_hash 0 = .ok (.iconst 0, 1) := by decide +kernel
theorem dX0_hash_1 : decode cX0_hash 1 = .ok (.istore_n 1, 1) := by decide +kernel
theorem dX0_hash_2 : decode cX0_hash 2 = .ok (.iconst 0, 1) := by decide +kernel
theorem dX0_hash_3 : decode cX0_hash 3 = .ok (.istore_n 2, 1) := by decide +kernel
theorem dX0_hash_4 : decode cX0_hash 4 = .ok (.iload_n 2, 1) := by decide +kernel
theorem dX0_hash_5 : decode cX0_hash 5 = .ok (.aload_n 0, 1) := by decide +kernel
theorem dX0_hash_6 : decode cX0_hash 6 = .ok (.getfield 15, 3) := by decide +kernel
theorem dX0_hash_9 : decode cX0_hash 9 = .ok (.if_icmp .ge 20, 3) := by decide +kernel
theorem dX0_hash_12 : decode cX0_hash 12 = .ok (.bipush 31, 2) := by decide +kernel
theorem dX0_hash_14 : decode cX0_hash 14 = .ok (.iload_n 1, 1) := by decide +kernel
theorem dX0_hash_15 : decode cX0_hash 15 = .ok (.imul, 1) := by decide +kernel
theorem dX0_hash_16 : decode cX0_hash 16 = .ok (.aload_n 0, 1) := by decide +kernel
theorem dX0_hash_17 : decode cX0_hash 17 = .ok (.iload_n 2, 1) := by decide +kernel
theorem dX0_hash_18 : decode cX0_hash 18 = .ok (.invokevirtual 23, 3) := by decide +kernel
theorem dX0_hash_21 : decode cX0_hash 21 = .ok (.iadd, 1) := by decide +kernel
theorem dX0_hash_22 : decode cX0_hash 22 = .ok (.istore_n 1, 1) := by decide +kernel
theorem dX0_hash_23 : decode cX0_hash 23 = .ok (.iinc 2 1, 3) := by decide +kernel
theorem dX0_hash_26 : decode cX0_hash 26 = .ok (.goto (-22), 3) := by decide +kernel
theorem dX0_hash_29 : decode cX0_hash 29 = .ok (.iload_n 1, 1) := by decide +kernel
theorem dX0_hash_30 : decode cX0_hash 30 = .ok (.ireturn, 1) := by decide +kernel
set_option maxRecDepth 20000 in
theorem ggX0_addTo_X0_signAt : GoodIn wsX0_addTo wsX0_signAt := goodIn_r _ [7, 2, 8, 9, 10] (by decide +kernel) (by decide +kernel)
set_option maxRecDepth 20000 in
theorem gX0_addTo_X0_signAt : GoodIn wsX0_addTo (wsV RX0 23 RX0 yX0_signAt wsX0_signAt) := goodIn_app (goodIn_of _ (by decide +kernel)) ggX0_addTo_X0_signAt
theorem dX0_addTo_0 : decode cX0_addTo 0 = .ok (.ldc2_w 40, 3) := by decide +kernel
theorem dX0_addTo_3 : decode cX0_addTo 3 = .ok (.lload_n 1, 1) := by decide +kernel
theorem dX0_addTo_4 : decode cX0_addTo 4 = .ok (.lmul, 1) := by decide +kernel
theorem dX0_addTo_5 : decode cX0_addTo 5 = .ok (.aload_n 0, 1) := by decide +kernel
theorem dX0_addTo_6 : decode cX0_addTo 6 = .ok (.getfield 15, 3) := by decide +kernel
theorem dX0_addTo_9 : decode cX0_addTo 9 = .ok (.i2l, 1) := by decide +kernel
theorem dX0_addTo_10 : decode cX0_addTo 10 = .ok (.ladd, 1) := by decide +kernel
theorem dX0_addTo_11 : decode cX0_addTo 11 = .ok (.lstore_n 3, 1) := by decide +kernel
theorem dX0_addTo_12 : decode cX0_addTo 12 = .ok (.iconst 0, 1) := by decide +kernel
theorem dX0_addTo_13 : decode cX0_addTo 13 = .ok (.istore 5, 2) := by decide +kernel
theorem dX0_addTo_15 : decode cX0_addTo 15 = .ok (.iload 5, 2) := by decide +kernel
theorem dX0_addTo_17 : decode cX0_addTo 17 = .ok (.aload_n 0, 1) := by decide +kernel
theorem dX0_addTo_18 : decode cX0_addTo 18 = .ok (.getfield 15, 3) := by decide +kernel
theorem dX0_addTo_21 : decode cX0_addTo 21 = .ok (.if_icmp .ge 23, 3) := by decide +kernel
theorem dX0_addTo_24 : decode cX0_addTo 24 = .ok (.ldc2_w 40, 3) := by decide +kernel
theorem dX0_addTo_27 : decode cX0_addTo 27 = .ok (.lload_n 3, 1) := by decide +kernel
theorem dX0_addTo_28 : decode cX0_addTo 28 = .ok (.lmul, 1) := by decide +kernel
theorem dX0_addTo_29 : decode cX0_addTo 29 = .ok (.aload_n 0, 1) := by decide +kernel
theorem dX0_addTo_30 : decode cX0_addTo 30 = .ok (.iload 5, 2) := by decide +kernel
theorem dX0_addTo_32 : decode cX0_addTo 32 = .ok (.invokevirtual 23, 3) := by decide +kernel
theorem dX0_addTo_35 : decode cX0_addTo 35 = .ok (.i2l, 1) := by decide +kernel
theorem dX0_addTo_36 : decode cX0_addTo 36 = .ok (.ladd, 1) := by decide +kernel
theorem dX0_addTo_37 : decode cX0_addTo 37 = .ok (.lstore_n 3, 1) := by decide +kernel
theorem dX0_addTo_38 : decode cX0_addTo 38 = .ok (.iinc 5 1, 3) := by decide +kernel
theorem dX0_addTo_41 : decode cX0_addTo 41 = .ok (.goto (-26), 3) := by decide +kernel
theorem dX0_addTo_44 : decode cX0_addTo 44 = .ok (.lload_n 3, 1) := by decide +kernel
theorem dX0_addTo_45 : decode cX0_addTo 45 = .ok (.lreturn, 1) := by decide +kernel
set_option maxRecDepth 20000 in
theorem ggX1_init_X0_init : GoodIn wsX1_init wsX0_init := goodIn_r _ [14, 15, 2, 3, 16, 17, 18, 58, 59] (by decide +kernel) (by decide +kernel)
set_option maxRecDepth 20000 in
theorem gX1_init_X0_init_n11 : GoodIn wsX1_init (wsX0_init) := ggX1_init_X0_init
set_option maxRecDepth 20000 in
theorem ggX1_init_X0_put : GoodIn wsX1_init wsX0_put := goodIn_r _ [22, 18, 17, 58, 59] (by decide +kernel) (by decide +kernel)
set_option maxRecDepth 20000 in
theorem gX1_init_X0_put : GoodIn wsX1_init (wsV RX1 30 RX0 yX0_put wsX0_put) := goodIn_app (goodIn_of _ (by decide +kernel)) ggX1_init_X0_put
set_option maxRecDepth 20000 in
theorem ggX1_init_X1_readTokens : GoodIn wsX1_init wsX1_readTokens := goodIn_r _ [27, 12, 7, 28, 29, 30, 6, 31, 18, 32, 33, 34, 35, 17, 36, 37, 38, 39, 40, 26, 41, 42, 43, 44, 45, 10, 11, 46, 47, 48, 49, 50, 51, 52, 53, 54, 55, 56, 57, 60, 61, 62, 63, 58, 59] (by decide +kernel) (by decide +kernel)
set_option maxRecDepth 20000 in
theorem gX1_init_X1_readTokens : GoodIn wsX1_init (wsV RX1 34 RX1 yX1_readTokens wsX1_readTokens) := goodIn_app (goodIn_of _ (by decide +kernel)) ggX1_init_X1_readTokens
theorem dX1_init_0 : decode cX1_init 0 = .ok (.aload_n 0, 1) := by decide +kernel
theorem dX1_init_1 : decode cX1_init 1 = .ok (.invokespecial 3, 3) := by decide +kernel
theorem dX1_init_4 : decode cX1_init 4 = .ok (.aload_n 0, 1) := by decide +kernel
theorem dX1_init_5 : decode cX1_init 5 = .ok (.new 9, 3) := by decide +kernel
theorem dX1_init_8 : decode cX1_init 8 = .ok (.dup, 1) := by decide +kernel
theorem dX1_init_9 : decode cX1_init 9 = .ok (.invokespecial 11, 3) := by decide +kernel
theorem dX1_init_12 : decode cX1_init 12 = .ok (.putfield 12, 3) := by decide +kernel
theorem dX1_init_15 : decode cX1_init 15 = .ok (.aload_n 0, 1) := by decide +kernel
theorem dX1_init_16 : decode cX1_init 16 = .ok (.iconst 3, 1) := by decide +kernel
theorem dX1_init_17 : decode cX1_init 17 = .ok (.bipush 60, 2) := by decide +kernel
theorem dX1_init_19 : decode cX1_init 19 = .ok (.multianewarray 18 2, 4) := by decide +kernel
theorem dX1_init_23 : decode cX1_init 23 = .ok (.putfield 20, 3) := by decide +kernel
theorem dX1_init_26 : decode cX1_init 26 = .ok (.aload_n 0, 1) := by decide +kernel
theorem dX1_init_27 : decode cX1_init 27 = .ok (.iconst 3, 1) := by decide +kernel
theorem dX1_init_28 : decode cX1_init 28 = .ok (.bipush 60, 2) := by decide +kernel
theorem dX1_init_30 : decode cX1_init 30 = .ok (.multianewarray 18 2, 4) := by decide +kernel
theorem dX1_init_34 : decode cX1_init 34 = .ok (.putfield 23, 3) := by decide +kernel
theorem dX1_init_37 : decode cX1_init 37 = .ok (.aload_n 0, 1) := by decide +kernel
theorem dX1_init_38 : decode cX1_init 38 = .ok (.iconst 3, 1) := by decide +kernel
theorem dX1_init_39 : decode cX1_init 39 = .ok (.newarray .int, 2) := by decide +kernel
theorem dX1_init_41 : decode cX1_init 41 = .ok (.putfield 26, 3) := by decide +kernel
theorem dX1_init_44 : decode cX1_init 44 = .ok (.aload_n 0, 1) := by decide +kernel
theorem dX1_init_45 : decode cX1_init 45 = .ok (.getfield 12, 3) := by decide +kernel
theorem dX1_init_48 : decode cX1_init 48 = .ok (.bipush 48, 2) := by decide +kernel
theorem dX1_init_50 : decode cX1_init 50 = .ok (.invokevirtual 30, 3) := by decide +kernel
theorem dX1_init_53 : decode cX1_init 53 = .ok (.aload_n 0, 1) := by decide +kernel
theorem dX1_init_54 : decode cX1_init 54 = .ok (.invokevirtual 34, 3) := by decide +kernel
theorem dX1_init_57 : decode cX1_init 57 = .ok (.return_, 1) := by decide +kernel
set_option maxRecDepth 20000 in
theorem ggX1_tell_X0_clear : GoodIn wsX1_tell wsX0_clear := goodIn_r _ [6, 7, 29, 30] (by decide +kernel) (by decide +kernel)
set_option maxRecDepth 20000 in
theorem gX1_tell_X0_clear : GoodIn wsX1_tell (wsV RX1 37 RX0 yX0_clear wsX0_clear) := goodIn_app (goodIn_of _ (by decide +kernel)) ggX1_tell_X0_clear
set_option maxRecDepth 20000 in
theorem ggX1_tell_X0_putAll : GoodIn wsX1_tell wsX0_putAll := goodIn_r _ [11, 12, 13, 14, 5, 15, 7, 16, 17, 18, 19, 20, 21, 22, 23, 24, 29, 30] (by decide +kernel) (by decide +kernel)
set_option maxRecDepth 20000 in
theorem gX1_tell_X0_putAll : GoodIn wsX1_tell (wsV RX1 40 RX0 yX0_putAll wsX0_putAll) := goodIn_app (goodIn_of _ (by decide +kernel)) ggX1_tell_X0_putAll
theorem dX1_tell_0 : decode cX1_tell 0 = .ok (.aload_n 0, 1) := by decide +kernel
theorem dX1_tell_1 : decode cX1_tell 1 = .ok (.getfield 12, 3) := by decide +kernel
theorem dX1_tell_4 : decode cX1_tell 4 = .ok (.invokevirtual 37, 3) := by decide +kernel
theorem dX1_tell_7 : decode cX1_tell 7 = .ok (.aload_n 0, 1) := by decide +kernel
theorem dX1_tell_8 : decode cX1_tell 8 = .ok (.getfield 12, 3) := by decide +kernel
theorem dX1_tell_11 : decode cX1_tell 11 = .ok (.aload_n 1, 1) := by decide +kernel
theorem dX1_tell_12 : decode cX1_tell 12 = .ok (.invokevirtual 40, 3) := by decide +kernel
theorem dX1_tell_15 : decode cX1_tell 15 = .ok (.return_, 1) := by decide +kernel
set_option maxRecDepth 20000 in
theorem ggX1_readTokens_X0_length : GoodIn wsX1_readTokens wsX0_length := goodIn_r _ [7, 8, 43, 44] (by decide +kernel) (by decide +kernel)
set_option maxRecDepth 20000 in
theorem gX1_readTokens_X0_length : GoodIn wsX1_readTokens (wsV RX1 44 RX0 yX0_length wsX0_length) := goodIn_app (goodIn_of _ (by decide +kernel)) ggX1_readTokens_X0_length
set_option maxRecDepth 20000 in
theorem ggX1_readTokens_X0_signAt : GoodIn wsX1_readTokens wsX0_signAt := goodIn_r _ [12, 8, 13, 43, 44] (by decide +kernel) (by decide +kernel)
set_option maxRecDepth 20000 in
theorem gX1_readTokens_X0_signAt : GoodIn wsX1_readTokens (wsV RX1 48 RX0 yX0_signAt wsX0_signAt) := goodIn_app (goodIn_of _ (by decide +kernel)) ggX1_readTokens_X0_signAt
set_option maxRecDepth 20000 in
theorem ggX1_readTokens_X2_kindOf : GoodIn wsX1_readTokens wsX2_kindOf := goodIn_r _ [16] (by decide +kernel) (by decide +kernel)
set_option maxRecDepth 20000 in
theorem gX1_readTokens_X2_kindOf_n52 : GoodIn wsX1_readTokens (wsX2_kindOf) := ggX1_readTokens_X2_kindOf
set_option maxRecDepth 20000 in
theorem ggX1_readTokens_X1_rowBehind : GoodIn wsX1_readTokens wsX1_rowBehind := goodIn_r _ [20] (by decide +kernel) (by decide +kernel)
set_option maxRecDepth 20000 in
theorem gX1_readTokens_X1_rowBehind : GoodIn wsX1_readTokens (va_wsS RX1 56 yX1_rowBehind wsX1_rowBehind) := goodIn_app (goodIn_of _ (by decide +kernel)) ggX1_readTokens_X1_rowBehind
set_option maxRecDepth 20000 in
theorem ggX1_readTokens_X1_openToken : GoodIn wsX1_readTokens wsX1_openToken := goodIn_r _ [24, 25, 26, 1, 27, 28, 29, 19, 30, 39, 40, 41, 42] (by decide +kernel) (by decide +kernel)
set_option maxRecDepth 20000 in
theorem gX1_readTokens_X1_openToken : GoodIn wsX1_readTokens (wsV RX1 60 RX1 yX1_openToken wsX1_openToken) := goodIn_app (goodIn_of _ (by decide +kernel)) ggX1_readTokens_X1_openToken
set_option maxRecDepth 20000 in
theorem ggX1_readTokens_X1_growToken : GoodIn wsX1_readTokens wsX1_growToken := goodIn_r _ [34, 26, 27, 28, 29, 19, 30, 1, 35, 36, 37, 38, 39, 40, 41, 42] (by decide +kernel) (by decide +kernel)
set_option maxRecDepth 20000 in
theorem gX1_readTokens_X1_growToken : GoodIn wsX1_readTokens (wsV RX1 64 RX1 yX1_growToken wsX1_growToken) := goodIn_app (goodIn_of _ (by decide +kernel)) ggX1_readTokens_X1_growToken
theorem dX1_readTokens_0 : decode cX1_readTokens 0 = .ok (.iconst 0, 1) := by decide +kernel
theorem dX1_readTokens_1 : decode cX1_readTokens 1 = .ok (.istore_n 1, 1) := by decide +kernel
theorem dX1_readTokens_2 : decode cX1_readTokens 2 = .ok (.iload_n 1, 1) := by decide +kernel
theorem dX1_readTokens_3 : decode cX1_readTokens 3 = .ok (.iconst 3, 1) := by decide +kernel
theorem dX1_readTokens_4 : decode cX1_readTokens 4 = .ok (.if_icmp .ge 16, 3) := by decide +kernel
theorem dX1_readTokens_7 : decode cX1_readTokens 7 = .ok (.aload_n 0, 1) := by decide +kernel
theorem dX1_readTokens_8 : decode cX1_readTokens 8 = .ok (.getfield 26, 3) := by decide +kernel
theorem dX1_readTokens_11 : decode cX1_readTokens 11 = .ok (.iload_n 1, 1) := by decide +kernel
theorem dX1_readTokens_12 : decode cX1_readTokens 12 = .ok (.iconst 0, 1) := by decide +kernel
theorem dX1_readTokens_13 : decode cX1_readTokens 13 = .ok (.iastore, 1) := by decide +kernel
theorem dX1_readTokens_14 : decode cX1_readTokens 14 = .ok (.iinc 1 1, 3) := by decide +kernel
theorem dX1_readTokens_17 : decode cX1_readTokens 17 = .ok (.goto (-15), 3) := by decide +kernel
theorem dX1_readTokens_20 : decode cX1_readTokens 20 = .ok (.iconst 0, 1) := by decide +kernel
theorem dX1_readTokens_21 : decode cX1_readTokens 21 = .ok (.istore_n 1, 1) := by decide +kernel
theorem dX1_readTokens_22 : decode cX1_readTokens 22 = .ok (.iconst 0, 1) := by decide +kernel
theorem dX1_readTokens_23 : decode cX1_readTokens 23 = .ok (.istore_n 2, 1) := by decide +kernel
theorem dX1_readTokens_24 : decode cX1_readTokens 24 = .ok (.iconst 0, 1) := by decide +kernel
theorem dX1_readTokens_25 : decode cX1_readTokens 25 = .ok (.istore_n 3, 1) := by decide +kernel
theorem dX1_readTokens_26 : decode cX1_readTokens 26 = .ok (.iload_n 3, 1) := by decide +kernel
theorem dX1_readTokens_27 : decode cX1_readTokens 27 = .ok (.aload_n 0, 1) := by decide +kernel
theorem dX1_readTokens_28 : decode cX1_readTokens 28 = .ok (.getfield 12, 3) := by decide +kernel
theorem dX1_readTokens_31 : decode cX1_readTokens 31 = .ok (.invokevirtual 44, 3) := by decide +kernel
theorem dX1_readTokens_34 : decode cX1_readTokens 34 = .ok (.if_icmp .ge 67, 3) := by decide +kernel
theorem dX1_readTokens_37 : decode cX1_readTokens 37 = .ok (.aload_n 0, 1) := by decide +kernel
theorem dX1_readTokens_38 : decode cX1_readTokens 38 = .ok (.getfield 12, 3) := by decide +kernel
theorem dX1_readTokens_41 : decode cX1_readTokens 41 = .ok (.iload_n 3, 1) := by decide +kernel
theorem dX1_readTokens_42 : decode cX1_readTokens 42 = .ok (.invokevirtual 48, 3) := by decide +kernel
theorem dX1_readTokens_45 : decode cX1_readTokens 45 = .ok (.istore 4, 2) := by decide +kernel
theorem dX1_readTokens_47 : decode cX1_readTokens 47 = .ok (.iload 4, 2) := by decide +kernel
theorem dX1_readTokens_49 : decode cX1_readTokens 49 = .ok (.invokestatic 52, 3) := by decide +kernel
theorem dX1_readTokens_52 : decode cX1_readTokens 52 = .ok (.istore 5, 2) := by decide +kernel
theorem dX1_readTokens_54 : decode cX1_readTokens 54 = .ok (.iload 5, 2) := by decide +kernel
theorem dX1_readTokens_56 : decode cX1_readTokens 56 = .ok (.ifCond .ne 13, 3) := by decide +kernel
theorem dX1_readTokens_59 : decode cX1_readTokens 59 = .ok (.iload_n 1, 1) := by decide +kernel
theorem dX1_readTokens_60 : decode cX1_readTokens 60 = .ok (.iload 4, 2) := by decide +kernel
theorem dX1_readTokens_62 : decode cX1_readTokens 62 = .ok (.invokestatic 56, 3) := by decide +kernel
theorem dX1_readTokens_65 : decode cX1_readTokens 65 = .ok (.istore_n 1, 1) := by decide +kernel
theorem dX1_readTokens_66 : decode cX1_readTokens 66 = .ok (.goto 26, 3) := by decide +kernel
theorem dX1_readTokens_69 : decode cX1_readTokens 69 = .ok (.iload 5, 2) := by decide +kernel
theorem dX1_readTokens_71 : decode cX1_readTokens 71 = .ok (.iload_n 2, 1) := by decide +kernel
theorem dX1_readTokens_72 : decode cX1_readTokens 72 = .ok (.if_icmp .eq 11, 3) := by decide +kernel
theorem dX1_readTokens_75 : decode cX1_readTokens 75 = .ok (.aload_n 0, 1) := by decide +kernel
theorem dX1_readTokens_76 : decode cX1_readTokens 76 = .ok (.iload_n 1, 1) := by decide +kernel
theorem dX1_readTokens_77 : decode cX1_readTokens 77 = .ok (.iload 5, 2) := by decide +kernel
theorem dX1_readTokens_79 : decode cX1_readTokens 79 = .ok (.iload_n 3, 1) := by decide +kernel
theorem dX1_readTokens_80 : decode cX1_readTokens 80 = .ok (.invokevirtual 60, 3) := by decide +kernel
theorem dX1_readTokens_83 : decode cX1_readTokens 83 = .ok (.aload_n 0, 1) := by decide +kernel
theorem dX1_readTokens_84 : decode cX1_readTokens 84 = .ok (.iload_n 1, 1) := by decide +kernel
theorem dX1_readTokens_85 : decode cX1_readTokens 85 = .ok (.iload 5, 2) := by decide +kernel
theorem dX1_readTokens_87 : decode cX1_readTokens 87 = .ok (.iload 4, 2) := by decide +kernel
theorem dX1_readTokens_89 : decode cX1_readTokens 89 = .ok (.invokevirtual 64, 3) := by decide +kernel
theorem dX1_readTokens_92 : decode cX1_readTokens 92 = .ok (.iload 5, 2) := by decide +kernel
theorem dX1_readTokens_94 : decode cX1_readTokens 94 = .ok (.istore_n 2, 1) := by decide +kernel
theorem dX1_readTokens_95 : decode cX1_readTokens 95 = .ok (.iinc 3 1, 3) := by decide +kernel
theorem dX1_readTokens_98 : decode cX1_readTokens 98 = .ok (.goto (-72), 3) := by decide +kernel
theorem dX1_readTokens_101 : decode cX1_readTokens 101 = .ok (.return_, 1) := by decide +kernel
theorem dX1_rowBehind_0 : decode cX1_rowBehind 0 = .ok (.iload_n 0, 1) := by decide +kernel
theorem dX1_rowBehind_1 : decode cX1_rowBehind 1 = .ok (.ifCond .ne 11, 3) := by decide +kernel
theorem dX1_rowBehind_4 : decode cX1_rowBehind 4 = .ok (.iload_n 1, 1) := by decide +kernel
theorem dX1_rowBehind_5 : decode cX1_rowBehind 5 = .ok (.bipush 45, 2) := by decide +kernel
theorem dX1_rowBehind_7 : decode cX1_rowBehind 7 = .ok (.if_icmp .ne 5, 3) := by decide +kernel
theorem dX1_rowBehind_10 : decode cX1_rowBehind 10 = .ok (.iconst 1, 1) := by decide +kernel
theorem dX1_rowBehind_11 : decode cX1_rowBehind 11 = .ok (.ireturn, 1) := by decide +kernel
theorem dX1_rowBehind_12 : decode cX1_rowBehind 12 = .ok (.iload_n 0, 1) := by decide +kernel
theorem dX1_rowBehind_13 : decode cX1_rowBehind 13 = .ok (.iconst 1, 1) := by decide +kernel
theorem dX1_rowBehind_14 : decode cX1_rowBehind 14 = .ok (.if_icmp .ne 11, 3) := by decide +kernel
theorem dX1_rowBehind_17 : decode cX1_rowBehind 17 = .ok (.iload_n 1, 1) := by decide +kernel
theorem dX1_rowBehind_18 : decode cX1_rowBehind 18 = .ok (.bipush 43, 2) := by decide +kernel
theorem dX1_rowBehind_20 : decode cX1_rowBehind 20 = .ok (.if_icmp .ne 5, 3) := by decide +kernel
theorem dX1_rowBehind_23 : decode cX1_rowBehind 23 = .ok (.iconst 2, 1) := by decide +kernel
theorem dX1_rowBehind_24 : decode cX1_rowBehind 24 = .ok (.ireturn, 1) := by decide +kernel
theorem dX1_rowBehind_25 : decode cX1_rowBehind 25 = .ok (.iload_n 0, 1) := by decide +kernel
theorem dX1_rowBehind_26 : decode cX1_rowBehind 26 = .ok (.ireturn, 1) := by decide +kernel
set_option maxRecDepth 20000 in
theorem ggX1_openToken_X1_tokensIn : GoodIn wsX1_openToken wsX1_tokensIn := goodIn_r _ [8, 3, 9, 10, 11, 12] (by decide +kernel) (by decide +kernel)
set_option maxRecDepth 20000 in
theorem gX1_openToken_X1_tokensIn : GoodIn wsX1_openToken (wsV RX1 68 RX1 yX1_tokensIn wsX1_tokensIn) := goodIn_app (goodIn_of _ (by decide +kernel)) ggX1_openToken_X1_tokensIn
theorem dX1_openToken_0 : decode cX1_openToken 0 = .ok (.aload_n 0, 1) := by decide +kernel
theorem dX1_openToken_1 : decode cX1_openToken 1 = .ok (.iload_n 1, 1) := by decide +kernel
theorem dX1_openToken_2 : decode cX1_openToken 2 = .ok (.invokevirtual 68, 3) := by decide +kernel
theorem dX1_openToken_5 : decode cX1_openToken 5 = .ok (.istore 4, 2) := by decide +kernel
theorem dX1_openToken_7 : decode cX1_openToken 7 = .ok (.iload_n 1, 1) := by decide +kernel
theorem dX1_openToken_8 : decode cX1_openToken 8 = .ok (.ifCond .lt 54, 3) := by decide +kernel
theorem dX1_openToken_11 : decode cX1_openToken 11 = .ok (.iload_n 1, 1) := by decide +kernel
theorem dX1_openToken_12 : decode cX1_openToken 12 = .ok (.iconst 3, 1) := by decide +kernel
theorem dX1_openToken_13 : decode cX1_openToken 13 = .ok (.if_icmp .ge 49, 3) := by decide +kernel
theorem dX1_openToken_16 : decode cX1_openToken 16 = .ok (.iload 4, 2) := by decide +kernel
theorem dX1_openToken_18 : decode cX1_openToken 18 = .ok (.bipush 60, 2) := by decide +kernel
theorem dX1_openToken_20 : decode cX1_openToken 20 = .ok (.if_icmp .ge 42, 3) := by decide +kernel
theorem dX1_openToken_23 : decode cX1_openToken 23 = .ok (.aload_n 0, 1) := by decide +kernel
theorem dX1_openToken_24 : decode cX1_openToken 24 = .ok (.getfield 20, 3) := by decide +kernel
theorem dX1_openToken_27 : decode cX1_openToken 27 = .ok (.iload_n 1, 1) := by decide +kernel
theorem dX1_openToken_28 : decode cX1_openToken 28 = .ok (.aaload, 1) := by decide +kernel
theorem dX1_openToken_29 : decode cX1_openToken 29 = .ok (.iload 4, 2) := by decide +kernel
theorem dX1_openToken_31 : decode cX1_openToken 31 = .ok (.iload_n 3, 1) := by decide +kernel
theorem dX1_openToken_32 : decode cX1_openToken 32 = .ok (.iastore, 1) := by decide +kernel
theorem dX1_openToken_33 : decode cX1_openToken 33 = .ok (.aload_n 0, 1) := by decide +kernel
theorem dX1_openToken_34 : decode cX1_openToken 34 = .ok (.getfield 23, 3) := by decide +kernel
theorem dX1_openToken_37 : decode cX1_openToken 37 = .ok (.iload_n 1, 1) := by decide +kernel
theorem dX1_openToken_38 : decode cX1_openToken 38 = .ok (.aaload, 1) := by decide +kernel
theorem dX1_openToken_39 : decode cX1_openToken 39 = .ok (.iload 4, 2) := by decide +kernel
theorem dX1_openToken_41 : decode cX1_openToken 41 = .ok (.iload_n 2, 1) := by decide +kernel
theorem dX1_openToken_42 : decode cX1_openToken 42 = .ok (.iconst 1, 1) := by decide +kernel
theorem dX1_openToken_43 : decode cX1_openToken 43 = .ok (.if_icmp .ne 7, 3) := by decide +kernel
theorem dX1_openToken_46 : decode cX1_openToken 46 = .ok (.iconst 0, 1) := by decide +kernel
theorem dX1_openToken_47 : decode cX1_openToken 47 = .ok (.goto 4, 3) := by decide +kernel
theorem dX1_openToken_50 : decode cX1_openToken 50 = .ok (.iconst (-1), 1) := by decide +kernel
theorem dX1_openToken_51 : decode cX1_openToken 51 = .ok (.iastore, 1) := by decide +kernel
theorem dX1_openToken_52 : decode cX1_openToken 52 = .ok (.aload_n 0, 1) := by decide +kernel
theorem dX1_openToken_53 : decode cX1_openToken 53 = .ok (.getfield 26, 3) := by decide +kernel
theorem dX1_openToken_56 : decode cX1_openToken 56 = .ok (.iload_n 1, 1) := by decide +kernel
theorem dX1_openToken_57 : decode cX1_openToken 57 = .ok (.dup2, 1) := by decide +kernel
theorem dX1_openToken_58 : decode cX1_openToken 58 = .ok (.iaload, 1) := by decide +kernel
theorem dX1_openToken_59 : decode cX1_openToken 59 = .ok (.iconst 1, 1) := by decide +kernel
theorem dX1_openToken_60 : decode cX1_openToken 60 = .ok (.iadd, 1) := by decide +kernel
theorem dX1_openToken_61 : decode cX1_openToken 61 = .ok (.iastore, 1) := by decide +kernel
theorem dX1_openToken_62 : decode cX1_openToken 62 = .ok (.return_, 1) := by decide +kernel
set_option maxRecDepth 20000 in
theorem ggX1_growToken_X1_tokensIn : GoodIn wsX1_growToken wsX1_tokensIn := goodIn_r _ [6, 7, 12, 13, 14, 15] (by decide +kernel) (by decide +kernel)
set_option maxRecDepth 20000 in
theorem gX1_growToken_X1_tokensIn : GoodIn wsX1_growToken (wsV RX1 68 RX1 yX1_tokensIn wsX1_tokensIn) := goodIn_app (goodIn_of _ (by decide +kernel)) ggX1_growToken_X1_tokensIn
set_option maxRecDepth 20000 in
theorem ggX1_growToken_X1_hasToken : GoodIn wsX1_growToken wsX1_hasToken := goodIn_r _ [11, 7, 12, 13, 14, 15] (by decide +kernel) (by decide +kernel)
set_option maxRecDepth 20000 in
theorem gX1_growToken_X1_hasToken : GoodIn wsX1_growToken (wsV RX1 72 RX1 yX1_hasToken wsX1_hasToken) := goodIn_app (goodIn_of _ (by decide +kernel)) ggX1_growToken_X1_hasToken
theorem dX1_growToken_0 : decode cX1_growToken 0 = .ok (.aload_n 0, 1) := by decide +kernel
theorem dX1_growToken_1 : decode cX1_growToken 1 = .ok (.iload_n 1, 1) := by decide +kernel
theorem dX1_growToken_2 : decode cX1_growToken 2 = .ok (.invokevirtual 68, 3) := by decide +kernel
theorem dX1_growToken_5 : decode cX1_growToken 5 = .ok (.iconst 1, 1) := by decide +kernel
theorem dX1_growToken_6 : decode cX1_growToken 6 = .ok (.isub, 1) := by decide +kernel
theorem dX1_growToken_7 : decode cX1_growToken 7 = .ok (.istore 4, 2) := by decide +kernel
theorem dX1_growToken_9 : decode cX1_growToken 9 = .ok (.aload_n 0, 1) := by decide +kernel
theorem dX1_growToken_10 : decode cX1_growToken 10 = .ok (.iload_n 1, 1) := by decide +kernel
theorem dX1_growToken_11 : decode cX1_growToken 11 = .ok (.iload 4, 2) := by decide +kernel
theorem dX1_growToken_13 : decode cX1_growToken 13 = .ok (.invokevirtual 72, 3) := by decide +kernel
theorem dX1_growToken_16 : decode cX1_growToken 16 = .ok (.ifCond .eq 45, 3) := by decide +kernel
theorem dX1_growToken_19 : decode cX1_growToken 19 = .ok (.aload_n 0, 1) := by decide +kernel
theorem dX1_growToken_20 : decode cX1_growToken 20 = .ok (.getfield 23, 3) := by decide +kernel
theorem dX1_growToken_23 : decode cX1_growToken 23 = .ok (.iload_n 1, 1) := by decide +kernel
theorem dX1_growToken_24 : decode cX1_growToken 24 = .ok (.aaload, 1) := by decide +kernel
theorem dX1_growToken_25 : decode cX1_growToken 25 = .ok (.iload 4, 2) := by decide +kernel
theorem dX1_growToken_27 : decode cX1_growToken 27 = .ok (.iaload, 1) := by decide +kernel
theorem dX1_growToken_28 : decode cX1_growToken 28 = .ok (.istore 5, 2) := by decide +kernel
theorem dX1_growToken_30 : decode cX1_growToken 30 = .ok (.aload_n 0, 1) := by decide +kernel
theorem dX1_growToken_31 : decode cX1_growToken 31 = .ok (.getfield 23, 3) := by decide +kernel
theorem dX1_growToken_34 : decode cX1_growToken 34 = .ok (.iload_n 1, 1) := by decide +kernel
theorem dX1_growToken_35 : decode cX1_growToken 35 = .ok (.aaload, 1) := by decide +kernel
theorem dX1_growToken_36 : decode cX1_growToken 36 = .ok (.iload 4, 2) := by decide +kernel
theorem dX1_growToken_38 : decode cX1_growToken 38 = .ok (.iload_n 2, 1) := by decide +kernel
theorem dX1_growToken_39 : decode cX1_growToken 39 = .ok (.iconst 1, 1) := by decide +kernel
theorem dX1_growToken_40 : decode cX1_growToken 40 = .ok (.if_icmp .ne 16, 3) := by decide +kernel
theorem dX1_growToken_43 : decode cX1_growToken 43 = .ok (.bipush 10, 2) := by decide +kernel
theorem dX1_growToken_45 : decode cX1_growToken 45 = .ok (.iload 5, 2) := by decide +kernel
theorem dX1_growToken_47 : decode cX1_growToken 47 = .ok (.imul, 1) := by decide +kernel
theorem dX1_growToken_48 : decode cX1_growToken 48 = .ok (.iload_n 3, 1) := by decide +kernel
theorem dX1_growToken_49 : decode cX1_growToken 49 = .ok (.bipush 48, 2) := by decide +kernel
theorem dX1_growToken_51 : decode cX1_growToken 51 = .ok (.isub, 1) := by decide +kernel
theorem dX1_growToken_52 : decode cX1_growToken 52 = .ok (.iadd, 1) := by decide +kernel
theorem dX1_growToken_53 : decode cX1_growToken 53 = .ok (.goto 7, 3) := by decide +kernel
theorem dX1_growToken_56 : decode cX1_growToken 56 = .ok (.iload 5, 2) := by decide +kernel
theorem dX1_growToken_58 : decode cX1_growToken 58 = .ok (.iconst 1, 1) := by decide +kernel
theorem dX1_growToken_59 : decode cX1_growToken 59 = .ok (.isub, 1) := by decide +kernel
theorem dX1_growToken_60 : decode cX1_growToken 60 = .ok (.iastore, 1) := by decide +kernel
theorem dX1_growToken_61 : decode cX1_growToken 61 = .ok (.return_, 1) := by decide +kernel
theorem dX1_tokensIn_0 : decode cX1_tokensIn 0 = .ok (.iload_n 1, 1) := by decide +kernel
theorem dX1_tokensIn_1 : decode cX1_tokensIn 1 = .ok (.ifCond .lt 17, 3) := by decide +kernel
theorem dX1_tokensIn_4 : decode cX1_tokensIn 4 = .ok (.iload_n 1, 1) := by decide +kernel
theorem dX1_tokensIn_5 : decode cX1_tokensIn 5 = .ok (.iconst 3, 1) := by decide +kernel
theorem dX1_tokensIn_6 : decode cX1_tokensIn 6 = .ok (.if_icmp .ge 12, 3) := by decide +kernel
theorem dX1_tokensIn_9 : decode cX1_tokensIn 9 = .ok (.aload_n 0, 1) := by decide +kernel
theorem dX1_tokensIn_10 : decode cX1_tokensIn 10 = .ok (.getfield 26, 3) := by decide +kernel
theorem dX1_tokensIn_13 : decode cX1_tokensIn 13 = .ok (.iload_n 1, 1) := by decide +kernel
theorem dX1_tokensIn_14 : decode cX1_tokensIn 14 = .ok (.iaload, 1) := by decide +kernel
theorem dX1_tokensIn_15 : decode cX1_tokensIn 15 = .ok (.goto 4, 3) := by decide +kernel
theorem dX1_tokensIn_18 : decode cX1_tokensIn 18 = .ok (.iconst 0, 1) := by decide +kernel
theorem dX1_tokensIn_19 : decode cX1_tokensIn 19 = .ok (.ireturn, 1) := by decide +kernel
set_option maxRecDepth 20000 in
theorem ggX1_hasRow_X1_tokensIn : GoodIn wsX1_hasRow wsX1_tokensIn := goodIn_r _ [5, 6, 7, 8, 9, 10] (by decide +kernel) (by decide +kernel)
set_option maxRecDepth 20000 in
theorem gX1_hasRow_X1_tokensIn : GoodIn wsX1_hasRow (wsV RX1 68 RX1 yX1_tokensIn wsX1_tokensIn) := goodIn_app (goodIn_of _ (by decide +kernel)) ggX1_hasRow_X1_tokensIn
theorem dX1_hasRow_0 : decode cX1_hasRow 0 = .ok (.aload_n 0, 1) := by decide +kernel
theorem dX1_hasRow_1 : decode cX1_hasRow 1 = .ok (.iload_n 1, 1) := by decide +kernel
theorem dX1_hasRow_2 : decode cX1_hasRow 2 = .ok (.invokevirtual 68, 3) := by decide +kernel
theorem dX1_hasRow_5 : decode cX1_hasRow 5 = .ok (.ifCond .le 7, 3) := by decide +kernel
theorem dX1_hasRow_8 : decode cX1_hasRow 8 = .ok (.iconst 1, 1) := by decide +kernel
theorem dX1_hasRow_9 : decode cX1_hasRow 9 = .ok (.goto 4, 3) := by decide +kernel
theorem dX1_hasRow_12 : decode cX1_hasRow 12 = .ok (.iconst 0, 1) := by decide +kernel
theorem dX1_hasRow_13 : decode cX1_hasRow 13 = .ok (.ireturn, 1) := by decide +kernel
theorem dX1_hasToken_0 : decode cX1_hasToken 0 = .ok (.iload_n 1, 1) := by decide +kernel
theorem dX1_hasToken_1 : decode cX1_hasToken 1 = .ok (.ifCond .lt 26, 3) := by decide +kernel
theorem dX1_hasToken_4 : decode cX1_hasToken 4 = .ok (.iload_n 1, 1) := by decide +kernel
theorem dX1_hasToken_5 : decode cX1_hasToken 5 = .ok (.iconst 3, 1) := by decide +kernel
theorem dX1_hasToken_6 : decode cX1_hasToken 6 = .ok (.if_icmp .ge 21, 3) := by decide +kernel
theorem dX1_hasToken_9 : decode cX1_hasToken 9 = .ok (.iload_n 2, 1) := by decide +kernel
theorem dX1_hasToken_10 : decode cX1_hasToken 10 = .ok (.ifCond .lt 17, 3) := by decide +kernel
theorem dX1_hasToken_13 : decode cX1_hasToken 13 = .ok (.iload_n 2, 1) := by decide +kernel
theorem dX1_hasToken_14 : decode cX1_hasToken 14 = .ok (.aload_n 0, 1) := by decide +kernel
theorem dX1_hasToken_15 : decode cX1_hasToken 15 = .ok (.getfield 26, 3) := by decide +kernel
theorem dX1_hasToken_18 : decode cX1_hasToken 18 = .ok (.iload_n 1, 1) := by decide +kernel
theorem dX1_hasToken_19 : decode cX1_hasToken 19 = .ok (.iaload, 1) := by decide +kernel
theorem dX1_hasToken_20 : decode cX1_hasToken 20 = .ok (.if_icmp .ge 7, 3) := by decide +kernel
theorem dX1_hasToken_23 : decode cX1_hasToken 23 = .ok (.iconst 1, 1) := by decide +kernel
theorem dX1_hasToken_24 : decode cX1_hasToken 24 = .ok (.goto 4, 3) := by decide +kernel
theorem dX1_hasToken_27 : decode cX1_hasToken 27 = .ok (.iconst 0, 1) := by decide +kernel
theorem dX1_hasToken_28 : decode cX1_hasToken 28 = .ok (.ireturn, 1) := by decide +kernel
theorem dX1_allTokens_0 : decode cX1_allTokens 0 = .ok (.iconst 0, 1) := by decide +kernel
theorem dX1_allTokens_1 : decode cX1_allTokens 1 = .ok (.istore_n 1, 1) := by decide +kernel
theorem dX1_allTokens_2 : decode cX1_allTokens 2 = .ok (.iconst 0, 1) := by decide +kernel
theorem dX1_allTokens_3 : decode cX1_allTokens 3 = .ok (.istore_n 2, 1) := by decide +kernel
theorem dX1_allTokens_4 : decode cX1_allTokens 4 = .ok (.iload_n 2, 1) := by decide +kernel
theorem dX1_allTokens_5 : decode cX1_allTokens 5 = .ok (.iconst 3, 1) := by decide +kernel
theorem dX1_allTokens_6 : decode cX1_allTokens 6 = .ok (.if_icmp .ge 18, 3) := by decide +kernel
theorem dX1_allTokens_9 : decode cX1_allTokens 9 = .ok (.iload_n 1, 1) := by decide +kernel
theorem dX1_allTokens_10 : decode cX1_allTokens 10 = .ok (.aload_n 0, 1) := by decide +kernel
theorem dX1_allTokens_11 : decode cX1_allTokens 11 = .ok (.getfield 26, 3) := by decide +kernel
theorem dX1_allTokens_14 : decode cX1_allTokens 14 = .ok (.iload_n 2, 1) := by decide +kernel
theorem dX1_allTokens_15 : decode cX1_allTokens 15 = .ok (.iaload, 1) := by decide +kernel
theorem dX1_allTokens_16 : decode cX1_allTokens 16 = .ok (.iadd, 1) := by decide +kernel
theorem dX1_allTokens_17 : decode cX1_allTokens 17 = .ok (.istore_n 1, 1) := by decide +kernel
theorem dX1_allTokens_18 : decode cX1_allTokens 18 = .ok (.iinc 2 1, 3) := by decide +kernel
theorem dX1_allTokens_21 : decode cX1_allTokens 21 = .ok (.goto (-17), 3) := by decide +kernel
theorem dX1_allTokens_24 : decode cX1_allTokens 24 = .ok (.iload_n 1, 1) := by decide +kernel
theorem dX1_allTokens_25 : decode cX1_allTokens 25 = .ok (.ireturn, 1) := by decide +kernel
theorem dX1_words_0 : decode cX1_words 0 = .ok (.iconst 0, 1) := by decide +kernel
theorem dX1_words_1 : decode cX1_words 1 = .ok (.istore_n 1, 1) := by decide +kernel
theorem dX1_words_2 : decode cX1_words 2 = .ok (.iconst 0, 1) := by decide +kernel
theorem dX1_words_3 : decode cX1_words 3 = .ok (.istore_n 2, 1) := by decide +kernel
theorem dX1_words_4 : decode cX1_words 4 = .ok (.iload_n 2, 1) := by decide +kernel
theorem dX1_words_5 : decode cX1_words 5 = .ok (.iconst 3, 1) := by decide +kernel
theorem dX1_words_6 : decode cX1_words 6 = .ok (.if_icmp .ge 41, 3) := by decide +kernel
theorem dX1_words_9 : decode cX1_words 9 = .ok (.iconst 0, 1) := by decide +kernel
theorem dX1_words_10 : decode cX1_words 10 = .ok (.istore_n 3, 1) := by decide +kernel
theorem dX1_words_11 : decode cX1_words 11 = .ok (.iload_n 3, 1) := by decide +kernel
theorem dX1_words_12 : decode cX1_words 12 = .ok (.aload_n 0, 1) := by decide +kernel
theorem dX1_words_13 : decode cX1_words 13 = .ok (.getfield 26, 3) := by decide +kernel
theorem dX1_words_16 : decode cX1_words 16 = .ok (.iload_n 2, 1) := by decide +kernel
theorem dX1_words_17 : decode cX1_words 17 = .ok (.iaload, 1) := by decide +kernel
theorem dX1_words_18 : decode cX1_words 18 = .ok (.if_icmp .ge 23, 3) := by decide +kernel
theorem dX1_words_21 : decode cX1_words 21 = .ok (.aload_n 0, 1) := by decide +kernel
theorem dX1_words_22 : decode cX1_words 22 = .ok (.getfield 23, 3) := by decide +kernel
theorem dX1_words_25 : decode cX1_words 25 = .ok (.iload_n 2, 1) := by decide +kernel
theorem dX1_words_26 : decode cX1_words 26 = .ok (.aaload, 1) := by decide +kernel
theorem dX1_words_27 : decode cX1_words 27 = .ok (.iload_n 3, 1) := by decide +kernel
theorem dX1_words_28 : decode cX1_words 28 = .ok (.iaload, 1) := by decide +kernel
theorem dX1_words_29 : decode cX1_words 29 = .ok (.ifCond .ge 6, 3) := by decide +kernel
theorem dX1_words_32 : decode cX1_words 32 = .ok (.iinc 1 1, 3) := by decide +kernel
theorem dX1_words_35 : decode cX1_words 35 = .ok (.iinc 3 1, 3) := by decide +kernel
theorem dX1_words_38 : decode cX1_words 38 = .ok (.goto (-27), 3) := by decide +kernel
theorem dX1_words_41 : decode cX1_words 41 = .ok (.iinc 2 1, 3) := by decide +kernel
theorem dX1_words_44 : decode cX1_words 44 = .ok (.goto (-40), 3) := by decide +kernel
theorem dX1_words_47 : decode cX1_words 47 = .ok (.iload_n 1, 1) := by decide +kernel
theorem dX1_words_48 : decode cX1_words 48 = .ok (.ireturn, 1) := by decide +kernel
set_option maxRecDepth 20000 in
theorem ggX1_sizeAt_X1_hasToken : GoodIn wsX1_sizeAt wsX1_hasToken := goodIn_r _ [6, 7, 8, 9, 10, 11] (by decide +kernel) (by decide +kernel)
set_option maxRecDepth 20000 in
theorem gX1_sizeAt_X1_hasToken : GoodIn wsX1_sizeAt (wsV RX1 72 RX1 yX1_hasToken wsX1_hasToken) := goodIn_app (goodIn_of _ (by decide +kernel)) ggX1_sizeAt_X1_hasToken
theorem dX1_sizeAt_0 : decode cX1_sizeAt 0 = .ok (.aload_n 0, 1) := by decide +kernel
theorem dX1_sizeAt_1 : decode cX1_sizeAt 1 = .ok (.iload_n 1, 1) := by decide +kernel
theorem dX1_sizeAt_2 : decode cX1_sizeAt 2 = .ok (.iload_n 2, 1) := by decide +kernel
theorem dX1_sizeAt_3 : decode cX1_sizeAt 3 = .ok (.invokevirtual 72, 3) := by decide +kernel
theorem dX1_sizeAt_6 : decode cX1_sizeAt 6 = .ok (.ifCond .eq 14, 3) := by decide +kernel
theorem dX1_sizeAt_9 : decode cX1_sizeAt 9 = .ok (.aload_n 0, 1) := by decide +kernel
theorem dX1_sizeAt_10 : decode cX1_sizeAt 10 = .ok (.getfield 23, 3) := by decide +kernel
theorem dX1_sizeAt_13 : decode cX1_sizeAt 13 = .ok (.iload_n 1, 1) := by decide +kernel
theorem dX1_sizeAt_14 : decode cX1_sizeAt 14 = .ok (.aaload, 1) := by decide +kernel
theorem dX1_sizeAt_15 : decode cX1_sizeAt 15 = .ok (.iload_n 2, 1) := by decide +kernel
theorem dX1_sizeAt_16 : decode cX1_sizeAt 16 = .ok (.iaload, 1) := by decide +kernel
theorem dX1_sizeAt_17 : decode cX1_sizeAt 17 = .ok (.goto 4, 3) := by decide +kernel
theorem dX1_sizeAt_20 : decode cX1_sizeAt 20 = .ok (.iconst 0, 1) := by decide +kernel
theorem dX1_sizeAt_21 : decode cX1_sizeAt 21 = .ok (.ireturn, 1) := by decide +kernel
set_option maxRecDepth 20000 in
theorem ggX1_startAt_X1_hasToken : GoodIn wsX1_startAt wsX1_hasToken := goodIn_r _ [6, 7, 8, 9, 10, 11] (by decide +kernel) (by decide +kernel)
set_option maxRecDepth 20000 in
theorem gX1_startAt_X1_hasToken : GoodIn wsX1_startAt (wsV RX1 72 RX1 yX1_hasToken wsX1_hasToken) := goodIn_app (goodIn_of _ (by decide +kernel)) ggX1_startAt_X1_hasToken
theorem dX1_startAt_0 : decode cX1_startAt 0 = .ok (.aload_n 0, 1) := by decide +kernel
theorem dX1_startAt_1 : decode cX1_startAt 1 = .ok (.iload_n 1, 1) := by decide +kernel
theorem dX1_startAt_2 : decode cX1_startAt 2 = .ok (.iload_n 2, 1) := by decide +kernel
theorem dX1_startAt_3 : decode cX1_startAt 3 = .ok (.invokevirtual 72, 3) := by decide +kernel
theorem dX1_startAt_6 : decode cX1_startAt 6 = .ok (.ifCond .eq 14, 3) := by decide +kernel
theorem dX1_startAt_9 : decode cX1_startAt 9 = .ok (.aload_n 0, 1) := by decide +kernel
theorem dX1_startAt_10 : decode cX1_startAt 10 = .ok (.getfield 20, 3) := by decide +kernel
theorem dX1_startAt_13 : decode cX1_startAt 13 = .ok (.iload_n 1, 1) := by decide +kernel
theorem dX1_startAt_14 : decode cX1_startAt 14 = .ok (.aaload, 1) := by decide +kernel
theorem dX1_startAt_15 : decode cX1_startAt 15 = .ok (.iload_n 2, 1) := by decide +kernel
theorem dX1_startAt_16 : decode cX1_startAt 16 = .ok (.iaload, 1) := by decide +kernel
theorem dX1_startAt_17 : decode cX1_startAt 17 = .ok (.goto 4, 3) := by decide +kernel
theorem dX1_startAt_20 : decode cX1_startAt 20 = .ok (.iconst 0, 1) := by decide +kernel
theorem dX1_startAt_21 : decode cX1_startAt 21 = .ok (.ireturn, 1) := by decide +kernel
set_option maxRecDepth 20000 in
theorem ggX1_orderTo_X1_orderOfRow : GoodIn wsX1_orderTo wsX1_orderOfRow := goodIn_r _ [5, 6, 7, 8, 9, 10, 11, 12, 4, 13, 14, 15, 16, 17, 18, 19, 20, 21, 22, 23, 24, 25, 26, 27, 28, 29, 30, 31, 32, 33, 34, 35, 36, 37, 38, 39, 40, 41, 42, 43, 44, 45, 46, 47, 48, 49, 50, 51, 52, 53, 54, 55, 56] (by decide +kernel) (by decide +kernel)
set_option maxRecDepth 20000 in
theorem gX1_orderTo_X1_orderOfRow : GoodIn wsX1_orderTo (wsV RX1 76 RX1 yX1_orderOfRow wsX1_orderOfRow) := goodIn_app (goodIn_of _ (by decide +kernel)) ggX1_orderTo_X1_orderOfRow
theorem dX1_orderTo_0 : decode cX1_orderTo 0 = .ok (.iconst 0, 1) := by decide +kernel
theorem dX1_orderTo_1 : decode cX1_orderTo 1 = .ok (.istore_n 2, 1) := by decide +kernel
theorem dX1_orderTo_2 : decode cX1_orderTo 2 = .ok (.iload_n 2, 1) := by decide +kernel
theorem dX1_orderTo_3 : decode cX1_orderTo 3 = .ok (.iconst 3, 1) := by decide +kernel
theorem dX1_orderTo_4 : decode cX1_orderTo 4 = .ok (.if_icmp .ge 22, 3) := by decide +kernel
theorem dX1_orderTo_7 : decode cX1_orderTo 7 = .ok (.aload_n 0, 1) := by decide +kernel
theorem dX1_orderTo_8 : decode cX1_orderTo 8 = .ok (.iload_n 2, 1) := by decide +kernel
theorem dX1_orderTo_9 : decode cX1_orderTo 9 = .ok (.aload_n 1, 1) := by decide +kernel
theorem dX1_orderTo_10 : decode cX1_orderTo 10 = .ok (.invokevirtual 76, 3) := by decide +kernel
theorem dX1_orderTo_13 : decode cX1_orderTo 13 = .ok (.istore_n 3, 1) := by decide +kernel
theorem dX1_orderTo_14 : decode cX1_orderTo 14 = .ok (.iload_n 3, 1) := by decide +kernel
theorem dX1_orderTo_15 : decode cX1_orderTo 15 = .ok (.ifCond .eq 5, 3) := by decide +kernel
theorem dX1_orderTo_18 : decode cX1_orderTo 18 = .ok (.iload_n 3, 1) := by decide +kernel
theorem dX1_orderTo_19 : decode cX1_orderTo 19 = .ok (.ireturn, 1) := by decide +kernel
theorem dX1_orderTo_20 : decode cX1_orderTo 20 = .ok (.iinc 2 1, 3) := by decide +kernel
theorem dX1_orderTo_23 : decode cX1_orderTo 23 = .ok (.goto (-21), 3) := by decide +kernel
theorem dX1_orderTo_26 : decode cX1_orderTo 26 = .ok (.iconst 0, 1) := by decide +kernel
theorem dX1_orderTo_27 : decode cX1_orderTo 27 = .ok (.ireturn, 1) := by decide +kernel
set_option maxRecDepth 20000 in
theorem ggX1_tellingRow_X1_orderOfRow : GoodIn wsX1_tellingRow wsX1_orderOfRow := goodIn_r _ [5, 6, 7, 8, 9, 10, 11, 12, 4, 13, 14, 15, 16, 17, 18, 19, 20, 21, 22, 23, 24, 25, 26, 27, 28, 29, 30, 31, 32, 33, 34, 35, 36, 37, 38, 39, 40, 41, 42, 43, 44, 45, 46, 47, 48, 49, 50, 51, 52, 53, 54, 55, 56] (by decide +kernel) (by decide +kernel)
set_option maxRecDepth 20000 in
theorem gX1_tellingRow_X1_orderOfRow : GoodIn wsX1_tellingRow (wsV RX1 76 RX1 yX1_orderOfRow wsX1_orderOfRow) := goodIn_app (goodIn_of _ (by decide +kernel)) ggX1_tellingRow_X1_orderOfRow
theorem dX1_tellingRow_0 : decode cX1_tellingRow 0 = .ok (.iconst 0, 1) := by decide +kernel
theorem dX1_tellingRow_1 : decode cX1_tellingRow 1 = .ok (.istore_n 2, 1) := by decide +kernel
theorem dX1_tellingRow_2 : decode cX1_tellingRow 2 = .ok (.iload_n 2, 1) := by decide +kernel
theorem dX1_tellingRow_3 : decode cX1_tellingRow 3 = .ok (.iconst 3, 1) := by decide +kernel
theorem dX1_tellingRow_4 : decode cX1_tellingRow 4 = .ok (.if_icmp .ge 20, 3) := by decide +kernel
theorem dX1_tellingRow_7 : decode cX1_tellingRow 7 = .ok (.aload_n 0, 1) := by decide +kernel
theorem dX1_tellingRow_8 : decode cX1_tellingRow 8 = .ok (.iload_n 2, 1) := by decide +kernel
theorem dX1_tellingRow_9 : decode cX1_tellingRow 9 = .ok (.aload_n 1, 1) := by decide +kernel
theorem dX1_tellingRow_10 : decode cX1_tellingRow 10 = .ok (.invokevirtual 76, 3) := by decide +kernel
theorem dX1_tellingRow_13 : decode cX1_tellingRow 13 = .ok (.ifCond .eq 5, 3) := by decide +kernel
theorem dX1_tellingRow_16 : decode cX1_tellingRow 16 = .ok (.iload_n 2, 1) := by decide +kernel
theorem dX1_tellingRow_17 : decode cX1_tellingRow 17 = .ok (.ireturn, 1) := by decide +kernel
theorem dX1_tellingRow_18 : decode cX1_tellingRow 18 = .ok (.iinc 2 1, 3) := by decide +kernel
theorem dX1_tellingRow_21 : decode cX1_tellingRow 21 = .ok (.goto (-19), 3) := by decide +kernel
theorem dX1_tellingRow_24 : decode cX1_tellingRow 24 = .ok (.iconst (-1), 1) := by decide +kernel
theorem dX1_tellingRow_25 : decode cX1_tellingRow 25 = .ok (.ireturn, 1) := by decide +kernel
set_option maxRecDepth 20000 in
theorem ggX1_orderOfRow_X1_hasRow : GoodIn wsX1_orderOfRow wsX1_hasRow := goodIn_r _ [9, 10, 11, 12, 8, 13, 14, 47, 48, 49, 50] (by decide +kernel) (by decide +kernel)
set_option maxRecDepth 20000 in
theorem gX1_orderOfRow_X1_hasRow : GoodIn wsX1_orderOfRow (wsV RX1 80 RX1 yX1_hasRow wsX1_hasRow) := goodIn_app (goodIn_of _ (by decide +kernel)) ggX1_orderOfRow_X1_hasRow
set_option maxRecDepth 20000 in
theorem ggX1_orderOfRow_X1_tokensIn : GoodIn wsX1_orderOfRow wsX1_tokensIn := goodIn_r _ [13, 14, 47, 48, 49, 50] (by decide +kernel) (by decide +kernel)
set_option maxRecDepth 20000 in
theorem gX1_orderOfRow_X1_tokensIn : GoodIn wsX1_orderOfRow (wsV RX1 68 RX1 yX1_tokensIn wsX1_tokensIn) := goodIn_app (goodIn_of _ (by decide +kernel)) ggX1_orderOfRow_X1_tokensIn
set_option maxRecDepth 20000 in
theorem ggX1_orderOfRow_X1_sizeAt : GoodIn wsX1_orderOfRow wsX1_sizeAt := goodIn_r _ [18, 19, 20, 21, 22, 8, 23, 14, 47, 48, 49, 50] (by decide +kernel) (by decide +kernel)
set_option maxRecDepth 20000 in
theorem gX1_orderOfRow_X1_sizeAt : GoodIn wsX1_orderOfRow (wsV RX1 90 RX1 yX1_sizeAt wsX1_sizeAt) := goodIn_app (goodIn_of _ (by decide +kernel)) ggX1_orderOfRow_X1_sizeAt
set_option maxRecDepth 20000 in
theorem ggX1_orderOfRow_X1_orderOfWords : GoodIn wsX1_orderOfRow wsX1_orderOfWords := goodIn_r _ [27, 28, 15, 16, 17, 8, 18, 19, 20, 21, 22, 23, 14, 29, 30, 31, 32, 33, 34, 35, 36, 37, 38, 39, 40, 41, 42, 43, 47, 48, 49, 50, 51, 52] (by decide +kernel) (by decide +kernel)
set_option maxRecDepth 20000 in
theorem gX1_orderOfRow_X1_orderOfWords : GoodIn wsX1_orderOfRow (wsV RX1 93 RX1 yX1_orderOfWords wsX1_orderOfWords) := goodIn_app (goodIn_of _ (by decide +kernel)) ggX1_orderOfRow_X1_orderOfWords
set_option maxRecDepth 20000 in
theorem ggX1_orderOfRow_X1_orderOfSizes : GoodIn wsX1_orderOfRow wsX1_orderOfSizes := goodIn_r _ [46, 41, 42, 43] (by decide +kernel) (by decide +kernel)
set_option maxRecDepth 20000 in
theorem gX1_orderOfRow_X1_orderOfSizes : GoodIn wsX1_orderOfRow (va_wsS RX1 97 yX1_orderOfSizes wsX1_orderOfSizes) := goodIn_app (goodIn_of _ (by decide +kernel)) ggX1_orderOfRow_X1_orderOfSizes
theorem dX1_orderOfRow_0 : decode cX1_orderOfRow 0 = .ok (.iload_n 1, 1) := by decide +kernel
theorem dX1_orderOfRow_1 : decode cX1_orderOfRow 1 = .ok (.iconst 1, 1) := by decide +kernel
theorem dX1_orderOfRow_2 : decode cX1_orderOfRow 2 = .ok (.if_icmp .ne 30, 3) := by decide +kernel
theorem dX1_orderOfRow_5 : decode cX1_orderOfRow 5 = .ok (.aload_n 0, 1) := by decide +kernel
theorem dX1_orderOfRow_6 : decode cX1_orderOfRow 6 = .ok (.iload_n 1, 1) := by decide +kernel
theorem dX1_orderOfRow_7 : decode cX1_orderOfRow 7 = .ok (.invokevirtual 80, 3) := by decide +kernel
theorem dX1_orderOfRow_10 : decode cX1_orderOfRow 10 = .ok (.aload_n 2, 1) := by decide +kernel
theorem dX1_orderOfRow_11 : decode cX1_orderOfRow 11 = .ok (.iload_n 1, 1) := by decide +kernel
theorem dX1_orderOfRow_12 : decode cX1_orderOfRow 12 = .ok (.invokevirtual 80, 3) := by decide +kernel
theorem dX1_orderOfRow_15 : decode cX1_orderOfRow 15 = .ok (.if_icmp .eq 17, 3) := by decide +kernel
theorem dX1_orderOfRow_18 : decode cX1_orderOfRow 18 = .ok (.aload_n 0, 1) := by decide +kernel
theorem dX1_orderOfRow_19 : decode cX1_orderOfRow 19 = .ok (.iload_n 1, 1) := by decide +kernel
theorem dX1_orderOfRow_20 : decode cX1_orderOfRow 20 = .ok (.invokevirtual 80, 3) := by decide +kernel
theorem dX1_orderOfRow_23 : decode cX1_orderOfRow 23 = .ok (.ifCond .eq 7, 3) := by decide +kernel
theorem dX1_orderOfRow_26 : decode cX1_orderOfRow 26 = .ok (.iconst (-1), 1) := by decide +kernel
theorem dX1_orderOfRow_27 : decode cX1_orderOfRow 27 = .ok (.goto 4, 3) := by decide +kernel
theorem dX1_orderOfRow_30 : decode cX1_orderOfRow 30 = .ok (.iconst 1, 1) := by decide +kernel
theorem dX1_orderOfRow_31 : decode cX1_orderOfRow 31 = .ok (.ireturn, 1) := by decide +kernel
theorem dX1_orderOfRow_32 : decode cX1_orderOfRow 32 = .ok (.aload_n 0, 1) := by decide +kernel
theorem dX1_orderOfRow_33 : decode cX1_orderOfRow 33 = .ok (.iload_n 1, 1) := by decide +kernel
theorem dX1_orderOfRow_34 : decode cX1_orderOfRow 34 = .ok (.invokevirtual 68, 3) := by decide +kernel
theorem dX1_orderOfRow_37 : decode cX1_orderOfRow 37 = .ok (.aload_n 2, 1) := by decide +kernel
theorem dX1_orderOfRow_38 : decode cX1_orderOfRow 38 = .ok (.iload_n 1, 1) := by decide +kernel
theorem dX1_orderOfRow_39 : decode cX1_orderOfRow 39 = .ok (.invokevirtual 68, 3) := by decide +kernel
theorem dX1_orderOfRow_42 : decode cX1_orderOfRow 42 = .ok (.invokestatic 84, 3) := by decide +kernel
theorem dX1_orderOfRow_45 : decode cX1_orderOfRow 45 = .ok (.istore_n 3, 1) := by decide +kernel
theorem dX1_orderOfRow_46 : decode cX1_orderOfRow 46 = .ok (.iconst 0, 1) := by decide +kernel
theorem dX1_orderOfRow_47 : decode cX1_orderOfRow 47 = .ok (.istore 4, 2) := by decide +kernel
theorem dX1_orderOfRow_49 : decode cX1_orderOfRow 49 = .ok (.iload 4, 2) := by decide +kernel
theorem dX1_orderOfRow_51 : decode cX1_orderOfRow 51 = .ok (.iload_n 3, 1) := by decide +kernel
theorem dX1_orderOfRow_52 : decode cX1_orderOfRow 52 = .ok (.if_icmp .ge 65, 3) := by decide +kernel
theorem dX1_orderOfRow_55 : decode cX1_orderOfRow 55 = .ok (.aload_n 0, 1) := by decide +kernel
theorem dX1_orderOfRow_56 : decode cX1_orderOfRow 56 = .ok (.iload_n 1, 1) := by decide +kernel
theorem dX1_orderOfRow_57 : decode cX1_orderOfRow 57 = .ok (.iload 4, 2) := by decide +kernel
theorem dX1_orderOfRow_59 : decode cX1_orderOfRow 59 = .ok (.invokevirtual 90, 3) := by decide +kernel
theorem dX1_orderOfRow_62 : decode cX1_orderOfRow 62 = .ok (.istore 5, 2) := by decide +kernel
theorem dX1_orderOfRow_64 : decode cX1_orderOfRow 64 = .ok (.aload_n 2, 1) := by decide +kernel
theorem dX1_orderOfRow_65 : decode cX1_orderOfRow 65 = .ok (.iload_n 1, 1) := by decide +kernel
theorem dX1_orderOfRow_66 : decode cX1_orderOfRow 66 = .ok (.iload 4, 2) := by decide +kernel
theorem dX1_orderOfRow_68 : decode cX1_orderOfRow 68 = .ok (.invokevirtual 90, 3) := by decide +kernel
theorem dX1_orderOfRow_71 : decode cX1_orderOfRow 71 = .ok (.istore 6, 2) := by decide +kernel
theorem dX1_orderOfRow_73 : decode cX1_orderOfRow 73 = .ok (.iload 5, 2) := by decide +kernel
theorem dX1_orderOfRow_75 : decode cX1_orderOfRow 75 = .ok (.ifCond .ge 19, 3) := by decide +kernel
theorem dX1_orderOfRow_78 : decode cX1_orderOfRow 78 = .ok (.iload 6, 2) := by decide +kernel
theorem dX1_orderOfRow_80 : decode cX1_orderOfRow 80 = .ok (.ifCond .ge 14, 3) := by decide +kernel
theorem dX1_orderOfRow_83 : decode cX1_orderOfRow 83 = .ok (.aload_n 0, 1) := by decide +kernel
theorem dX1_orderOfRow_84 : decode cX1_orderOfRow 84 = .ok (.iload_n 1, 1) := by decide +kernel
theorem dX1_orderOfRow_85 : decode cX1_orderOfRow 85 = .ok (.iload 4, 2) := by decide +kernel
theorem dX1_orderOfRow_87 : decode cX1_orderOfRow 87 = .ok (.aload_n 2, 1) := by decide +kernel
theorem dX1_orderOfRow_88 : decode cX1_orderOfRow 88 = .ok (.invokevirtual 93, 3) := by decide +kernel
theorem dX1_orderOfRow_91 : decode cX1_orderOfRow 91 = .ok (.goto 10, 3) := by decide +kernel
theorem dX1_orderOfRow_94 : decode cX1_orderOfRow 94 = .ok (.iload 5, 2) := by decide +kernel
theorem dX1_orderOfRow_96 : decode cX1_orderOfRow 96 = .ok (.iload 6, 2) := by decide +kernel
theorem dX1_orderOfRow_98 : decode cX1_orderOfRow 98 = .ok (.invokestatic 97, 3) := by decide +kernel
theorem dX1_orderOfRow_101 : decode cX1_orderOfRow 101 = .ok (.istore 7, 2) := by decide +kernel
theorem dX1_orderOfRow_103 : decode cX1_orderOfRow 103 = .ok (.iload 7, 2) := by decide +kernel
theorem dX1_orderOfRow_105 : decode cX1_orderOfRow 105 = .ok (.ifCond .eq 6, 3) := by decide +kernel
theorem dX1_orderOfRow_108 : decode cX1_orderOfRow 108 = .ok (.iload 7, 2) := by decide +kernel
theorem dX1_orderOfRow_110 : decode cX1_orderOfRow 110 = .ok (.ireturn, 1) := by decide +kernel
theorem dX1_orderOfRow_111 : decode cX1_orderOfRow 111 = .ok (.iinc 4 1, 3) := by decide +kernel
theorem dX1_orderOfRow_114 : decode cX1_orderOfRow 114 = .ok (.goto (-65), 3) := by decide +kernel
theorem dX1_orderOfRow_117 : decode cX1_orderOfRow 117 = .ok (.iconst 0, 1) := by decide +kernel
theorem dX1_orderOfRow_118 : decode cX1_orderOfRow 118 = .ok (.ireturn, 1) := by decide +kernel
set_option maxRecDepth 20000 in
theorem ggX1_orderOfSizes_X2_orderOfNumbers : GoodIn wsX1_orderOfSizes wsX2_orderOfNumbers := goodIn_r _ [3] (by decide +kernel) (by decide +kernel)
set_option maxRecDepth 20000 in
theorem gX1_orderOfSizes_X2_orderOfNumbers_n100 : GoodIn wsX1_orderOfSizes (wsX2_orderOfNumbers) := ggX1_orderOfSizes_X2_orderOfNumbers
theorem dX1_orderOfSizes_0 : decode cX1_orderOfSizes 0 = .ok (.iload_n 0, 1) := by decide +kernel
theorem dX1_orderOfSizes_1 : decode cX1_orderOfSizes 1 = .ok (.ifCond .ge 5, 3) := by decide +kernel
theorem dX1_orderOfSizes_4 : decode cX1_orderOfSizes 4 = .ok (.iconst 1, 1) := by decide +kernel
theorem dX1_orderOfSizes_5 : decode cX1_orderOfSizes 5 = .ok (.ireturn, 1) := by decide +kernel
theorem dX1_orderOfSizes_6 : decode cX1_orderOfSizes 6 = .ok (.iload_n 1, 1) := by decide +kernel
theorem dX1_orderOfSizes_7 : decode cX1_orderOfSizes 7 = .ok (.ifCond .ge 7, 3) := by decide +kernel
theorem dX1_orderOfSizes_10 : decode cX1_orderOfSizes 10 = .ok (.iconst (-1), 1) := by decide +kernel
theorem dX1_orderOfSizes_11 : decode cX1_orderOfSizes 11 = .ok (.goto 8, 3) := by decide +kernel
theorem dX1_orderOfSizes_14 : decode cX1_orderOfSizes 14 = .ok (.iload_n 0, 1) := by decide +kernel
theorem dX1_orderOfSizes_15 : decode cX1_orderOfSizes 15 = .ok (.iload_n 1, 1) := by decide +kernel
theorem dX1_orderOfSizes_16 : decode cX1_orderOfSizes 16 = .ok (.invokestatic 100, 3) := by decide +kernel
theorem dX1_orderOfSizes_19 : decode cX1_orderOfSizes 19 = .ok (.ireturn, 1) := by decide +kernel
set_option maxRecDepth 20000 in
theorem ggX1_orderOfWords_X1_sizeAt : GoodIn wsX1_orderOfWords wsX1_sizeAt := goodIn_r _ [6, 7, 8, 9, 10, 5, 11, 12, 28, 29, 30, 31] (by decide +kernel) (by decide +kernel)
set_option maxRecDepth 20000 in
theorem gX1_orderOfWords_X1_sizeAt : GoodIn wsX1_orderOfWords (wsV RX1 90 RX1 yX1_sizeAt wsX1_sizeAt) := goodIn_app (goodIn_of _ (by decide +kernel)) ggX1_orderOfWords_X1_sizeAt
set_option maxRecDepth 20000 in
theorem ggX1_orderOfWords_X1_startAt : GoodIn wsX1_orderOfWords wsX1_startAt := goodIn_r _ [16, 17, 8, 9, 10, 5, 11, 12, 28, 29, 30, 31] (by decide +kernel) (by decide +kernel)
set_option maxRecDepth 20000 in
theorem gX1_orderOfWords_X1_startAt : GoodIn wsX1_orderOfWords (wsV RX1 103 RX1 yX1_startAt wsX1_startAt) := goodIn_app (goodIn_of _ (by decide +kernel)) ggX1_orderOfWords_X1_startAt
set_option maxRecDepth 20000 in
theorem ggX1_orderOfWords_X0_signAt : GoodIn wsX1_orderOfWords wsX0_signAt := goodIn_r _ [22, 23, 24, 32, 33] (by decide +kernel) (by decide +kernel)
set_option maxRecDepth 20000 in
theorem gX1_orderOfWords_X0_signAt : GoodIn wsX1_orderOfWords (wsV RX1 48 RX0 yX0_signAt wsX0_signAt) := goodIn_app (goodIn_of _ (by decide +kernel)) ggX1_orderOfWords_X0_signAt
set_option maxRecDepth 20000 in
theorem ggX1_orderOfWords_X2_orderOfNumbers : GoodIn wsX1_orderOfWords wsX2_orderOfNumbers := goodIn_r _ [27] (by decide +kernel) (by decide +kernel)
set_option maxRecDepth 20000 in
theorem gX1_orderOfWords_X2_orderOfNumbers_n100 : GoodIn wsX1_orderOfWords (wsX2_orderOfNumbers) := ggX1_orderOfWords_X2_orderOfNumbers
theorem dX1_orderOfWords_0 : decode cX1_orderOfWords 0 = .ok (.iconst (-1), 1) := by decide +kernel
theorem dX1_orderOfWords_1 : decode cX1_orderOfWords 1 = .ok (.aload_n 0, 1) := by decide +kernel
theorem dX1_orderOfWords_2 : decode cX1_orderOfWords 2 = .ok (.iload_n 1, 1) := by decide +kernel
theorem dX1_orderOfWords_3 : decode cX1_orderOfWords 3 = .ok (.iload_n 2, 1) := by decide +kernel
theorem dX1_orderOfWords_4 : decode cX1_orderOfWords 4 = .ok (.invokevirtual 90, 3) := by decide +kernel
theorem dX1_orderOfWords_7 : decode cX1_orderOfWords 7 = .ok (.isub, 1) := by decide +kernel
theorem dX1_orderOfWords_8 : decode cX1_orderOfWords 8 = .ok (.istore 4, 2) := by decide +kernel
theorem dX1_orderOfWords_10 : decode cX1_orderOfWords 10 = .ok (.iconst (-1), 1) := by decide +kernel
theorem dX1_orderOfWords_11 : decode cX1_orderOfWords 11 = .ok (.aload_n 3, 1) := by decide +kernel
theorem dX1_orderOfWords_12 : decode cX1_orderOfWords 12 = .ok (.iload_n 1, 1) := by decide +kernel
theorem dX1_orderOfWords_13 : decode cX1_orderOfWords 13 = .ok (.iload_n 2, 1) := by decide +kernel
theorem dX1_orderOfWords_14 : decode cX1_orderOfWords 14 = .ok (.invokevirtual 90, 3) := by decide +kernel
theorem dX1_orderOfWords_17 : decode cX1_orderOfWords 17 = .ok (.isub, 1) := by decide +kernel
theorem dX1_orderOfWords_18 : decode cX1_orderOfWords 18 = .ok (.istore 5, 2) := by decide +kernel
theorem dX1_orderOfWords_20 : decode cX1_orderOfWords 20 = .ok (.aload_n 0, 1) := by decide +kernel
theorem dX1_orderOfWords_21 : decode cX1_orderOfWords 21 = .ok (.iload_n 1, 1) := by decide +kernel
theorem dX1_orderOfWords_22 : decode cX1_orderOfWords 22 = .ok (.iload_n 2, 1) := by decide +kernel
theorem dX1_orderOfWords_23 : decode cX1_orderOfWords 23 = .ok (.invokevirtual 103, 3) := by decide +kernel
theorem dX1_orderOfWords_26 : decode cX1_orderOfWords 26 = .ok (.istore 6, 2) := by decide +kernel
theorem dX1_orderOfWords_28 : decode cX1_orderOfWords 28 = .ok (.aload_n 3, 1) := by decide +kernel
theorem dX1_orderOfWords_29 : decode cX1_orderOfWords 29 = .ok (.iload_n 1, 1) := by decide +kernel
theorem dX1_orderOfWords_30 : decode cX1_orderOfWords 30 = .ok (.iload_n 2, 1) := by decide +kernel
theorem dX1_orderOfWords_31 : decode cX1_orderOfWords 31 = .ok (.invokevirtual 103, 3) := by decide +kernel
theorem dX1_orderOfWords_34 : decode cX1_orderOfWords 34 = .ok (.istore 7, 2) := by decide +kernel
theorem dX1_orderOfWords_36 : decode cX1_orderOfWords 36 = .ok (.iconst 0, 1) := by decide +kernel
theorem dX1_orderOfWords_37 : decode cX1_orderOfWords 37 = .ok (.istore 8, 2) := by decide +kernel
theorem dX1_orderOfWords_39 : decode cX1_orderOfWords 39 = .ok (.iload 8, 2) := by decide +kernel
theorem dX1_orderOfWords_41 : decode cX1_orderOfWords 41 = .ok (.iload 4, 2) := by decide +kernel
theorem dX1_orderOfWords_43 : decode cX1_orderOfWords 43 = .ok (.if_icmp .ge 53, 3) := by decide +kernel
theorem dX1_orderOfWords_46 : decode cX1_orderOfWords 46 = .ok (.iload 8, 2) := by decide +kernel
theorem dX1_orderOfWords_48 : decode cX1_orderOfWords 48 = .ok (.iload 5, 2) := by decide +kernel
theorem dX1_orderOfWords_50 : decode cX1_orderOfWords 50 = .ok (.if_icmp .ge 46, 3) := by decide +kernel
theorem dX1_orderOfWords_53 : decode cX1_orderOfWords 53 = .ok (.aload_n 0, 1) := by decide +kernel
theorem dX1_orderOfWords_54 : decode cX1_orderOfWords 54 = .ok (.getfield 12, 3) := by decide +kernel
theorem dX1_orderOfWords_57 : decode cX1_orderOfWords 57 = .ok (.iload 6, 2) := by decide +kernel
theorem dX1_orderOfWords_59 : decode cX1_orderOfWords 59 = .ok (.iload 8, 2) := by decide +kernel
theorem dX1_orderOfWords_61 : decode cX1_orderOfWords 61 = .ok (.iadd, 1) := by decide +kernel
theorem dX1_orderOfWords_62 : decode cX1_orderOfWords 62 = .ok (.invokevirtual 48, 3) := by decide +kernel
theorem dX1_orderOfWords_65 : decode cX1_orderOfWords 65 = .ok (.aload_n 3, 1) := by decide +kernel
theorem dX1_orderOfWords_66 : decode cX1_orderOfWords 66 = .ok (.getfield 12, 3) := by decide +kernel
theorem dX1_orderOfWords_69 : decode cX1_orderOfWords 69 = .ok (.iload 7, 2) := by decide +kernel
theorem dX1_orderOfWords_71 : decode cX1_orderOfWords 71 = .ok (.iload 8, 2) := by decide +kernel
theorem dX1_orderOfWords_73 : decode cX1_orderOfWords 73 = .ok (.iadd, 1) := by decide +kernel
theorem dX1_orderOfWords_74 : decode cX1_orderOfWords 74 = .ok (.invokevirtual 48, 3) := by decide +kernel
theorem dX1_orderOfWords_77 : decode cX1_orderOfWords 77 = .ok (.invokestatic 100, 3) := by decide +kernel
theorem dX1_orderOfWords_80 : decode cX1_orderOfWords 80 = .ok (.istore 9, 2) := by decide +kernel
theorem dX1_orderOfWords_82 : decode cX1_orderOfWords 82 = .ok (.iload 9, 2) := by decide +kernel
theorem dX1_orderOfWords_84 : decode cX1_orderOfWords 84 = .ok (.ifCond .eq 6, 3) := by decide +kernel
theorem dX1_orderOfWords_87 : decode cX1_orderOfWords 87 = .ok (.iload 9, 2) := by decide +kernel
theorem dX1_orderOfWords_89 : decode cX1_orderOfWords 89 = .ok (.ireturn, 1) := by decide +kernel
theorem dX1_orderOfWords_90 : decode cX1_orderOfWords 90 = .ok (.iinc 8 1, 3) := by decide +kernel
theorem dX1_orderOfWords_93 : decode cX1_orderOfWords 93 = .ok (.goto (-54), 3) := by decide +kernel
theorem dX1_orderOfWords_96 : decode cX1_orderOfWords 96 = .ok (.iload 4, 2) := by decide +kernel
theorem dX1_orderOfWords_98 : decode cX1_orderOfWords 98 = .ok (.iload 5, 2) := by decide +kernel
theorem dX1_orderOfWords_100 : decode cX1_orderOfWords 100 = .ok (.invokestatic 100, 3) := by decide +kernel
theorem dX1_orderOfWords_103 : decode cX1_orderOfWords 103 = .ok (.ireturn, 1) := by decide +kernel
set_option maxRecDepth 20000 in
theorem ggX2_init_X0_init : GoodIn wsX2_init wsX0_init := goodIn_r _ [18, 19, 2, 3, 20, 21, 22, 71, 72] (by decide +kernel) (by decide +kernel)
set_option maxRecDepth 20000 in
theorem gX2_init_X0_init_n9 : GoodIn wsX2_init (wsX0_init) := ggX2_init_X0_init
set_option maxRecDepth 20000 in
theorem ggX2_init_X1_init : GoodIn wsX2_init wsX1_init := goodIn_r _ [25, 26, 2, 3, 27, 5, 6, 28, 29, 11, 30, 31, 32, 17, 18, 19, 20, 21, 22, 33, 34, 35, 36, 37, 38, 39, 15, 40, 41, 42, 43, 44, 45, 46, 47, 48, 49, 50, 51, 52, 53, 54, 55, 56, 57, 58, 59, 60, 61, 62, 63, 64, 65, 66, 67, 68, 69, 70, 71, 72, 79, 80, 81, 82] (by decide +kernel) (by decide +kernel)
set_option maxRecDepth 20000 in
theorem gX2_init_X1_init : GoodIn wsX2_init (wsX1_init) := ggX2_init_X1_init
end
section
theorem dX2_init_0 : decode cX2_init 0 = .ok (.aload_n 0, 1) := by decide +kernel
theorem dX2_init_1 : decode cX2_init 1 = .ok (.invokespecial 1, 3) := by decide +kernel
theorem dX2_init_4 : decode cX2_init 4 = .ok (.aload_n 0, 1) := by decide +kernel
theorem dX2_init_5 : decode cX2_init 5 = .ok (.new 7, 3) := by decide +kernel
theorem dX2_init_8 : decode cX2_init 8 = .ok (.dup, 1) := by decide +kernel
theorem dX2_init_9 : decode cX2_init 9 = .ok (.invokespecial 9, 3) := by decide +kernel
theorem dX2_init_12 : decode cX2_init 12 = .ok (.putfield 10, 3) := by decide +kernel
theorem dX2_init_15 : decode cX2_init 15 = .ok (.aload_n 0, 1) := by decide +kernel
theorem dX2_init_16 : decode cX2_init 16 = .ok (.bipush 8, 2) := by decide +kernel
theorem dX2_init_18 : decode cX2_init 18 = .ok (.anewarray 16, 3) := by decide +kernel
theorem dX2_init_21 : decode cX2_init 21 = .ok (.putfield 18, 3) := by decide +kernel
theorem dX2_init_24 : decode cX2_init 24 = .ok (.aload_n 0, 1) := by decide +kernel
theorem dX2_init_25 : decode cX2_init 25 = .ok (.bipush 8, 2) := by decide +kernel
theorem dX2_init_27 : decode cX2_init 27 = .ok (.anewarray 16, 3) := by decide +kernel
theorem dX2_init_30 : decode cX2_init 30 = .ok (.putfield 22, 3) := by decide +kernel
theorem dX2_init_33 : decode cX2_init 33 = .ok (.aload_n 0, 1) := by decide +kernel
theorem dX2_init_34 : decode cX2_init 34 = .ok (.bipush 8, 2) := by decide +kernel
theorem dX2_init_36 : decode cX2_init 36 = .ok (.newarray .int, 2) := by decide +kernel
theorem dX2_init_38 : decode cX2_init 38 = .ok (.putfield 25, 3) := by decide +kernel
theorem dX2_init_41 : decode cX2_init 41 = .ok (.aload_n 0, 1) := by decide +kernel
theorem dX2_init_42 : decode cX2_init 42 = .ok (.bipush 64, 2) := by decide +kernel
theorem dX2_init_44 : decode cX2_init 44 = .ok (.newarray .int, 2) := by decide +kernel
theorem dX2_init_46 : decode cX2_init 46 = .ok (.putfield 29, 3) := by decide +kernel
theorem dX2_init_49 : decode cX2_init 49 = .ok (.aload_n 0, 1) := by decide +kernel
theorem dX2_init_50 : decode cX2_init 50 = .ok (.new 16, 3) := by decide +kernel
theorem dX2_init_53 : decode cX2_init 53 = .ok (.dup, 1) := by decide +kernel
theorem dX2_init_54 : decode cX2_init 54 = .ok (.invokespecial 32, 3) := by decide +kernel
theorem dX2_init_57 : decode cX2_init 57 = .ok (.putfield 33, 3) := by decide +kernel
theorem dX2_init_60 : decode cX2_init 60 = .ok (.iconst 0, 1) := by decide +kernel
theorem dX2_init_61 : decode cX2_init 61 = .ok (.istore_n 1, 1) := by decide +kernel
theorem dX2_init_62 : decode cX2_init 62 = .ok (.iload_n 1, 1) := by decide +kernel
theorem dX2_init_63 : decode cX2_init 63 = .ok (.bipush 8, 2) := by decide +kernel
theorem dX2_init_65 : decode cX2_init 65 = .ok (.if_icmp .ge 22, 3) := by decide +kernel
theorem dX2_init_68 : decode cX2_init 68 = .ok (.aload_n 0, 1) := by decide +kernel
theorem dX2_init_69 : decode cX2_init 69 = .ok (.getfield 18, 3) := by decide +kernel
theorem dX2_init_72 : decode cX2_init 72 = .ok (.iload_n 1, 1) := by decide +kernel
theorem dX2_init_73 : decode cX2_init 73 = .ok (.new 16, 3) := by decide +kernel
theorem dX2_init_76 : decode cX2_init 76 = .ok (.dup, 1) := by decide +kernel
theorem dX2_init_77 : decode cX2_init 77 = .ok (.invokespecial 32, 3) := by decide +kernel
theorem dX2_init_80 : decode cX2_init 80 = .ok (.aastore, 1) := by decide +kernel
theorem dX2_init_81 : decode cX2_init 81 = .ok (.iinc 1 1, 3) := by decide +kernel
theorem dX2_init_84 : decode cX2_init 84 = .ok (.goto (-22), 3) := by decide +kernel
theorem dX2_init_87 : decode cX2_init 87 = .ok (.return_, 1) := by decide +kernel
set_option maxRecDepth 20000 in
theorem ggX2_begin_X2_checkNumber : GoodIn wsX2_begin wsX2_checkNumber := goodIn_ca (goodIn_r _ [6, 7, 8] (by decide +kernel) (by decide +kernel)) (goodIn_sub (fun _ h => List.mem_cons_of_mem _ (List.mem_append_right _ h)) (by decide +kernel))
set_option maxRecDepth 20000 in
theorem gX2_begin_X2_checkNumber : GoodIn wsX2_begin (va_wsS RX2 38 yX2_checkNumber wsX2_checkNumber) := goodIn_app (goodIn_of _ (by decide +kernel)) ggX2_begin_X2_checkNumber
set_option maxRecDepth 20000 in
theorem ggX2_begin_X2_checkZeros : GoodIn wsX2_begin wsX2_checkZeros := goodIn_ca (goodIn_r _ [11, 7, 8] (by decide +kernel) (by decide +kernel)) (goodIn_sub (fun _ h => List.mem_cons_of_mem _ (List.mem_append_right _ h)) (by decide +kernel))
set_option maxRecDepth 20000 in
theorem gX2_begin_X2_checkZeros : GoodIn wsX2_begin (va_wsS RX2 42 yX2_checkZeros wsX2_checkZeros) := goodIn_app (goodIn_of _ (by decide +kernel)) ggX2_begin_X2_checkZeros
set_option maxRecDepth 20000 in
theorem ggX2_begin_X0_clear : GoodIn wsX2_begin wsX0_clear := goodIn_r _ [16, 17, 38, 39] (by decide +kernel) (by decide +kernel)
set_option maxRecDepth 20000 in
theorem gX2_begin_X0_clear : GoodIn wsX2_begin (wsV RX2 46 RX0 yX0_clear wsX0_clear) := goodIn_app (goodIn_of _ (by decide +kernel)) ggX2_begin_X0_clear
set_option maxRecDepth 20000 in
theorem ggX2_begin_X0_putNumber : GoodIn wsX2_begin wsX0_putNumber := goodIn_r _ [21, 22, 23, 24, 25, 15, 26, 17, 27, 38, 39] (by decide +kernel) (by decide +kernel)
set_option maxRecDepth 20000 in
theorem gX2_begin_X0_putNumber : GoodIn wsX2_begin (wsV RX2 49 RX0 yX0_putNumber wsX0_putNumber) := goodIn_app (goodIn_of _ (by decide +kernel)) ggX2_begin_X0_putNumber
set_option maxRecDepth 20000 in
theorem ggX2_begin_X0_length : GoodIn wsX2_begin wsX0_length := goodIn_r _ [31, 17, 38, 39] (by decide +kernel) (by decide +kernel)
set_option maxRecDepth 20000 in
theorem gX2_begin_X0_length : GoodIn wsX2_begin (wsV RX2 53 RX0 yX0_length wsX0_length) := goodIn_app (goodIn_of _ (by decide +kernel)) ggX2_begin_X0_length
theorem dX2_begin_0 : decode cX2_begin 0 = .ok (.iload_n 1, 1) := by decide +kernel
theorem dX2_begin_1 : decode cX2_begin 1 = .ok (.iconst 0, 1) := by decide +kernel
theorem dX2_begin_2 : decode cX2_begin 2 = .ok (.ldc 37, 2) := by decide +kernel
theorem dX2_begin_4 : decode cX2_begin 4 = .ok (.invokestatic 38, 3) := by decide +kernel
theorem dX2_begin_7 : decode cX2_begin 7 = .ok (.iload_n 2, 1) := by decide +kernel
theorem dX2_begin_8 : decode cX2_begin 8 = .ok (.invokestatic 42, 3) := by decide +kernel
theorem dX2_begin_11 : decode cX2_begin 11 = .ok (.aload_n 0, 1) := by decide +kernel
theorem dX2_begin_12 : decode cX2_begin 12 = .ok (.getfield 10, 3) := by decide +kernel
theorem dX2_begin_15 : decode cX2_begin 15 = .ok (.invokevirtual 46, 3) := by decide +kernel
theorem dX2_begin_18 : decode cX2_begin 18 = .ok (.aload_n 0, 1) := by decide +kernel
theorem dX2_begin_19 : decode cX2_begin 19 = .ok (.getfield 10, 3) := by decide +kernel
theorem dX2_begin_22 : decode cX2_begin 22 = .ok (.iload_n 1, 1) := by decide +kernel
theorem dX2_begin_23 : decode cX2_begin 23 = .ok (.iload_n 2, 1) := by decide +kernel
theorem dX2_begin_24 : decode cX2_begin 24 = .ok (.invokevirtual 49, 3) := by decide +kernel
theorem dX2_begin_27 : decode cX2_begin 27 = .ok (.aload_n 0, 1) := by decide +kernel
theorem dX2_begin_28 : decode cX2_begin 28 = .ok (.getfield 10, 3) := by decide +kernel
theorem dX2_begin_31 : decode cX2_begin 31 = .ok (.invokevirtual 53, 3) := by decide +kernel
theorem dX2_begin_34 : decode cX2_begin 34 = .ok (.ireturn, 1) := by decide +kernel
set_option maxRecDepth 20000 in
theorem ggX2_add_X2_checkNumber : GoodIn wsX2_add wsX2_checkNumber := goodIn_ca (goodIn_r _ [6, 7, 8] (by decide +kernel) (by decide +kernel)) (goodIn_sub (fun _ h => List.mem_cons_of_mem _ (List.mem_append_left _ (List.mem_append_right _ h))) (by decide +kernel))
set_option maxRecDepth 20000 in
theorem gX2_add_X2_checkNumber : GoodIn wsX2_add (va_wsS RX2 38 yX2_checkNumber wsX2_checkNumber) := goodIn_app (goodIn_of _ (by decide +kernel)) ggX2_add_X2_checkNumber
set_option maxRecDepth 20000 in
theorem ggX2_add_X2_checkZeros : GoodIn wsX2_add wsX2_checkZeros := goodIn_ca (goodIn_r _ [11, 7, 8] (by decide +kernel) (by decide +kernel)) (goodIn_sub (fun _ h => List.mem_cons_of_mem _ (List.mem_append_left _ (List.mem_append_right _ h))) (by decide +kernel))
set_option maxRecDepth 20000 in
theorem gX2_add_X2_checkZeros : GoodIn wsX2_add (va_wsS RX2 42 yX2_checkZeros wsX2_checkZeros) := goodIn_app (goodIn_of _ (by decide +kernel)) ggX2_add_X2_checkZeros
set_option maxRecDepth 20000 in
theorem ggX2_add_X2_checkWay : GoodIn wsX2_add wsX2_checkWay := goodIn_ca (goodIn_r _ [14, 7, 8] (by decide +kernel) (by decide +kernel)) (goodIn_sub (fun _ h => List.mem_cons_of_mem _ (List.mem_append_left _ (List.mem_append_right _ h))) (by decide +kernel))
set_option maxRecDepth 20000 in
theorem gX2_add_X2_checkWay : GoodIn wsX2_add (va_wsS RX2 58 yX2_checkWay wsX2_checkWay) := goodIn_app (goodIn_of _ (by decide +kernel)) ggX2_add_X2_checkWay
set_option maxRecDepth 20000 in
theorem ggX2_add_X2_digitsOf : GoodIn wsX2_add wsX2_digitsOf := goodIn_r _ [17] (by decide +kernel) (by decide +kernel)
set_option maxRecDepth 20000 in
theorem gX2_add_X2_digitsOf : GoodIn wsX2_add (va_wsS RX2 62 yX2_digitsOf wsX2_digitsOf) := goodIn_app (goodIn_of _ (by decide +kernel)) ggX2_add_X2_digitsOf
set_option maxRecDepth 20000 in
theorem ggX2_add_X2_checkJoin : GoodIn wsX2_add wsX2_checkJoin := goodIn_ca (goodIn_r _ [21, 22, 23, 2, 24, 25, 26, 27, 28, 29, 30, 31, 32, 33, 34, 35, 36, 37, 38, 39, 5, 40, 41, 42, 43, 44, 45, 46, 47, 62, 63, 64, 65, 66, 67, 68, 69] (by decide +kernel) (by decide +kernel)) (goodIn_sub (fun _ h => List.mem_cons_of_mem _ (List.mem_append_right _ h)) (by decide +kernel))
set_option maxRecDepth 20000 in
theorem gX2_add_X2_checkJoin : GoodIn wsX2_add (wsV RX2 66 RX2 yX2_checkJoin wsX2_checkJoin) := goodIn_app (goodIn_of _ (by decide +kernel)) ggX2_add_X2_checkJoin
set_option maxRecDepth 20000 in
theorem ggX2_add_X2_putJoint : GoodIn wsX2_add wsX2_putJoint := goodIn_r _ [51, 2, 52, 53, 54, 27, 55, 29, 38, 62, 63, 64, 65, 66, 67, 68, 69] (by decide +kernel) (by decide +kernel)
set_option maxRecDepth 20000 in
theorem gX2_add_X2_putJoint : GoodIn wsX2_add (wsV RX2 70 RX2 yX2_putJoint wsX2_putJoint) := goodIn_app (goodIn_of _ (by decide +kernel)) ggX2_add_X2_putJoint
set_option maxRecDepth 20000 in
theorem ggX2_add_X0_putNumber : GoodIn wsX2_add wsX0_putNumber := goodIn_r _ [59, 60, 61, 53, 54, 27, 55, 29, 38, 68, 69] (by decide +kernel) (by decide +kernel)
set_option maxRecDepth 20000 in
theorem gX2_add_X0_putNumber : GoodIn wsX2_add (wsV RX2 49 RX0 yX0_putNumber wsX0_putNumber) := goodIn_app (goodIn_of _ (by decide +kernel)) ggX2_add_X0_putNumber
set_option maxRecDepth 20000 in
theorem ggX2_add_X0_length : GoodIn wsX2_add wsX0_length := goodIn_r _ [28, 29, 68, 69] (by decide +kernel) (by decide +kernel)
set_option maxRecDepth 20000 in
theorem gX2_add_X0_length : GoodIn wsX2_add (wsV RX2 53 RX0 yX0_length wsX0_length) := goodIn_app (goodIn_of _ (by decide +kernel)) ggX2_add_X0_length
theorem dX2_add_0 : decode cX2_add 0 = .ok (.iload_n 1, 1) := by decide +kernel
theorem dX2_add_1 : decode cX2_add 1 = .ok (.iconst 0, 1) := by decide +kernel
theorem dX2_add_2 : decode cX2_add 2 = .ok (.ldc 57, 2) := by decide +kernel
theorem dX2_add_4 : decode cX2_add 4 = .ok (.invokestatic 38, 3) := by decide +kernel
theorem dX2_add_7 : decode cX2_add 7 = .ok (.iload_n 2, 1) := by decide +kernel
theorem dX2_add_8 : decode cX2_add 8 = .ok (.invokestatic 42, 3) := by decide +kernel
theorem dX2_add_11 : decode cX2_add 11 = .ok (.iload_n 3, 1) := by decide +kernel
theorem dX2_add_12 : decode cX2_add 12 = .ok (.invokestatic 58, 3) := by decide +kernel
theorem dX2_add_15 : decode cX2_add 15 = .ok (.aload_n 0, 1) := by decide +kernel
theorem dX2_add_16 : decode cX2_add 16 = .ok (.iload_n 3, 1) := by decide +kernel
theorem dX2_add_17 : decode cX2_add 17 = .ok (.iconst 1, 1) := by decide +kernel
theorem dX2_add_18 : decode cX2_add 18 = .ok (.iload_n 2, 1) := by decide +kernel
theorem dX2_add_19 : decode cX2_add 19 = .ok (.iload_n 1, 1) := by decide +kernel
theorem dX2_add_20 : decode cX2_add 20 = .ok (.invokestatic 62, 3) := by decide +kernel
theorem dX2_add_23 : decode cX2_add 23 = .ok (.iadd, 1) := by decide +kernel
theorem dX2_add_24 : decode cX2_add 24 = .ok (.invokevirtual 66, 3) := by decide +kernel
theorem dX2_add_27 : decode cX2_add 27 = .ok (.aload_n 0, 1) := by decide +kernel
theorem dX2_add_28 : decode cX2_add 28 = .ok (.iload_n 3, 1) := by decide +kernel
theorem dX2_add_29 : decode cX2_add 29 = .ok (.invokevirtual 70, 3) := by decide +kernel
theorem dX2_add_32 : decode cX2_add 32 = .ok (.aload_n 0, 1) := by decide +kernel
theorem dX2_add_33 : decode cX2_add 33 = .ok (.getfield 10, 3) := by decide +kernel
theorem dX2_add_36 : decode cX2_add 36 = .ok (.iload_n 1, 1) := by decide +kernel
theorem dX2_add_37 : decode cX2_add 37 = .ok (.iload_n 2, 1) := by decide +kernel
theorem dX2_add_38 : decode cX2_add 38 = .ok (.invokevirtual 49, 3) := by decide +kernel
theorem dX2_add_41 : decode cX2_add 41 = .ok (.aload_n 0, 1) := by decide +kernel
theorem dX2_add_42 : decode cX2_add 42 = .ok (.getfield 10, 3) := by decide +kernel
theorem dX2_add_45 : decode cX2_add 45 = .ok (.invokevirtual 53, 3) := by decide +kernel
theorem dX2_add_48 : decode cX2_add 48 = .ok (.ireturn, 1) := by decide +kernel
set_option maxRecDepth 20000 in
theorem ggX2_word_X2_checkWay : GoodIn wsX2_word wsX2_checkWay := goodIn_ca (goodIn_r _ [7, 1, 2] (by decide +kernel) (by decide +kernel)) (goodIn_sub (fun _ h => List.mem_cons_of_mem _ (List.mem_append_left _ (List.mem_append_right _ h))) (by decide +kernel))
set_option maxRecDepth 20000 in
theorem gX2_word_X2_checkWay : GoodIn wsX2_word (va_wsS RX2 58 yX2_checkWay wsX2_checkWay) := goodIn_app (goodIn_of _ (by decide +kernel)) ggX2_word_X2_checkWay
set_option maxRecDepth 20000 in
theorem ggX2_word_X2_checkJoin : GoodIn wsX2_word wsX2_checkJoin := goodIn_ca (goodIn_r _ [11, 12, 13, 3, 14, 15, 16, 17, 18, 19, 20, 21, 22, 23, 24, 25, 26, 27, 28, 29, 6, 30, 31, 32, 33, 34, 35, 36, 37, 54, 55, 56, 57, 58, 59, 60, 61] (by decide +kernel) (by decide +kernel)) (goodIn_sub (fun _ h => List.mem_cons_of_mem _ (List.mem_append_right _ h)) (by decide +kernel))
set_option maxRecDepth 20000 in
theorem gX2_word_X2_checkJoin : GoodIn wsX2_word (wsV RX2 66 RX2 yX2_checkJoin wsX2_checkJoin) := goodIn_app (goodIn_of _ (by decide +kernel)) ggX2_word_X2_checkJoin
set_option maxRecDepth 20000 in
theorem ggX2_word_X2_putJoint : GoodIn wsX2_word wsX2_putJoint := goodIn_r _ [41, 3, 42, 43, 44, 17, 45, 19, 28, 54, 55, 56, 57, 58, 59, 60, 61] (by decide +kernel) (by decide +kernel)
set_option maxRecDepth 20000 in
theorem gX2_word_X2_putJoint : GoodIn wsX2_word (wsV RX2 70 RX2 yX2_putJoint wsX2_putJoint) := goodIn_app (goodIn_of _ (by decide +kernel)) ggX2_word_X2_putJoint
set_option maxRecDepth 20000 in
theorem ggX2_word_X0_putWord : GoodIn wsX2_word wsX0_putWord := goodIn_r _ [49, 50, 51, 6, 52, 53, 43, 44, 17, 45, 19, 28, 60, 61] (by decide +kernel) (by decide +kernel)
set_option maxRecDepth 20000 in
theorem gX2_word_X0_putWord : GoodIn wsX2_word (wsV RX2 80 RX0 yX0_putWord wsX0_putWord) := goodIn_app (goodIn_of _ (by decide +kernel)) ggX2_word_X0_putWord
set_option maxRecDepth 20000 in
theorem ggX2_word_X0_length : GoodIn wsX2_word wsX0_length := goodIn_r _ [18, 19, 60, 61] (by decide +kernel) (by decide +kernel)
set_option maxRecDepth 20000 in
theorem gX2_word_X0_length : GoodIn wsX2_word (wsV RX2 53 RX0 yX0_length wsX0_length) := goodIn_app (goodIn_of _ (by decide +kernel)) ggX2_word_X0_length
theorem dX2_word_0 : decode cX2_word 0 = .ok (.iload_n 2, 1) := by decide +kernel
theorem dX2_word_1 : decode cX2_word 1 = .ok (.iconst 1, 1) := by decide +kernel
theorem dX2_word_2 : decode cX2_word 2 = .ok (.if_icmp .lt 8, 3) := by decide +kernel
theorem dX2_word_5 : decode cX2_word 5 = .ok (.iload_n 2, 1) := by decide +kernel
theorem dX2_word_6 : decode cX2_word 6 = .ok (.iconst 5, 1) := by decide +kernel
theorem dX2_word_7 : decode cX2_word 7 = .ok (.if_icmp .le 13, 3) := by decide +kernel
theorem dX2_word_10 : decode cX2_word 10 = .ok (.new 73, 3) := by decide +kernel
theorem dX2_word_13 : decode cX2_word 13 = .ok (.dup, 1) := by decide +kernel
theorem dX2_word_14 : decode cX2_word 14 = .ok (.ldc 75, 2) := by decide +kernel
theorem dX2_word_16 : decode cX2_word 16 = .ok (.invokespecial 77, 3) := by decide +kernel
theorem dX2_word_19 : decode cX2_word 19 = .ok (.athrow, 1) := by decide +kernel
theorem dX2_word_20 : decode cX2_word 20 = .ok (.iload_n 3, 1) := by decide +kernel
theorem dX2_word_21 : decode cX2_word 21 = .ok (.invokestatic 58, 3) := by decide +kernel
theorem dX2_word_24 : decode cX2_word 24 = .ok (.aload_n 0, 1) := by decide +kernel
theorem dX2_word_25 : decode cX2_word 25 = .ok (.iload_n 3, 1) := by decide +kernel
theorem dX2_word_26 : decode cX2_word 26 = .ok (.iconst 2, 1) := by decide +kernel
theorem dX2_word_27 : decode cX2_word 27 = .ok (.iload_n 2, 1) := by decide +kernel
theorem dX2_word_28 : decode cX2_word 28 = .ok (.invokevirtual 66, 3) := by decide +kernel
theorem dX2_word_31 : decode cX2_word 31 = .ok (.aload_n 0, 1) := by decide +kernel
theorem dX2_word_32 : decode cX2_word 32 = .ok (.iload_n 3, 1) := by decide +kernel
theorem dX2_word_33 : decode cX2_word 33 = .ok (.invokevirtual 70, 3) := by decide +kernel
theorem dX2_word_36 : decode cX2_word 36 = .ok (.aload_n 0, 1) := by decide +kernel
theorem dX2_word_37 : decode cX2_word 37 = .ok (.getfield 10, 3) := by decide +kernel
theorem dX2_word_40 : decode cX2_word 40 = .ok (.iload_n 1, 1) := by decide +kernel
theorem dX2_word_41 : decode cX2_word 41 = .ok (.iload_n 2, 1) := by decide +kernel
theorem dX2_word_42 : decode cX2_word 42 = .ok (.invokevirtual 80, 3) := by decide +kernel
theorem dX2_word_45 : decode cX2_word 45 = .ok (.aload_n 0, 1) := by decide +kernel
theorem dX2_word_46 : decode cX2_word 46 = .ok (.getfield 10, 3) := by decide +kernel
theorem dX2_word_49 : decode cX2_word 49 = .ok (.invokevirtual 53, 3) := by decide +kernel
theorem dX2_word_52 : decode cX2_word 52 = .ok (.ireturn, 1) := by decide +kernel
set_option maxRecDepth 20000 in
theorem ggX2_drop_X0_length : GoodIn wsX2_drop wsX0_length := goodIn_r _ [6, 7, 18, 19] (by decide +kernel) (by decide +kernel)
set_option maxRecDepth 20000 in
theorem gX2_drop_X0_length : GoodIn wsX2_drop (wsV RX2 53 RX0 yX0_length wsX0_length) := goodIn_app (goodIn_of _ (by decide +kernel)) ggX2_drop_X0_length
set_option maxRecDepth 20000 in
theorem ggX2_drop_X0_clear : GoodIn wsX2_drop wsX0_clear := goodIn_r _ [11, 7, 18, 19] (by decide +kernel) (by decide +kernel)
set_option maxRecDepth 20000 in
theorem gX2_drop_X0_clear : GoodIn wsX2_drop (wsV RX2 46 RX0 yX0_clear wsX0_clear) := goodIn_app (goodIn_of _ (by decide +kernel)) ggX2_drop_X0_clear
theorem dX2_drop_0 : decode cX2_drop 0 = .ok (.aload_n 0, 1) := by decide +kernel
theorem dX2_drop_1 : decode cX2_drop 1 = .ok (.getfield 10, 3) := by decide +kernel
theorem dX2_drop_4 : decode cX2_drop 4 = .ok (.invokevirtual 53, 3) := by decide +kernel
theorem dX2_drop_7 : decode cX2_drop 7 = .ok (.istore_n 1, 1) := by decide +kernel
theorem dX2_drop_8 : decode cX2_drop 8 = .ok (.aload_n 0, 1) := by decide +kernel
theorem dX2_drop_9 : decode cX2_drop 9 = .ok (.getfield 10, 3) := by decide +kernel
theorem dX2_drop_12 : decode cX2_drop 12 = .ok (.invokevirtual 46, 3) := by decide +kernel
theorem dX2_drop_15 : decode cX2_drop 15 = .ok (.iload_n 1, 1) := by decide +kernel
theorem dX2_drop_16 : decode cX2_drop 16 = .ok (.ireturn, 1) := by decide +kernel
set_option maxRecDepth 20000 in
theorem ggX2_sign_X2_checkPlace : GoodIn wsX2_sign wsX2_checkPlace := goodIn_ca (goodIn_r _ [5, 6, 7, 8, 9, 10, 11, 12, 13, 25, 26] (by decide +kernel) (by decide +kernel)) (goodIn_sub (fun _ h => List.mem_cons_of_mem _ (List.mem_append_right _ h)) (by decide +kernel))
set_option maxRecDepth 20000 in
theorem gX2_sign_X2_checkPlace : GoodIn wsX2_sign (va_wsS RX2 83 yX2_checkPlace wsX2_checkPlace) := goodIn_app (goodIn_of _ (by decide +kernel)) ggX2_sign_X2_checkPlace
set_option maxRecDepth 20000 in
theorem ggX2_sign_X0_signAt : GoodIn wsX2_sign wsX0_signAt := goodIn_r _ [17, 13, 18, 25, 26] (by decide +kernel) (by decide +kernel)
set_option maxRecDepth 20000 in
theorem gX2_sign_X0_signAt : GoodIn wsX2_sign (wsV RX2 87 RX0 yX0_signAt wsX0_signAt) := goodIn_app (goodIn_of _ (by decide +kernel)) ggX2_sign_X0_signAt
theorem dX2_sign_0 : decode cX2_sign 0 = .ok (.aload_n 0, 1) := by decide +kernel
theorem dX2_sign_1 : decode cX2_sign 1 = .ok (.getfield 10, 3) := by decide +kernel
theorem dX2_sign_4 : decode cX2_sign 4 = .ok (.iload_n 1, 1) := by decide +kernel
theorem dX2_sign_5 : decode cX2_sign 5 = .ok (.invokestatic 83, 3) := by decide +kernel
theorem dX2_sign_8 : decode cX2_sign 8 = .ok (.aload_n 0, 1) := by decide +kernel
theorem dX2_sign_9 : decode cX2_sign 9 = .ok (.getfield 10, 3) := by decide +kernel
theorem dX2_sign_12 : decode cX2_sign 12 = .ok (.iload_n 1, 1) := by decide +kernel
theorem dX2_sign_13 : decode cX2_sign 13 = .ok (.invokevirtual 87, 3) := by decide +kernel
theorem dX2_sign_16 : decode cX2_sign 16 = .ok (.ireturn, 1) := by decide +kernel
set_option maxRecDepth 20000 in
theorem ggX2_parse_X2_checkSlot : GoodIn wsX2_parse wsX2_checkSlot := goodIn_ca (goodIn_r _ [8, 9, 10] (by decide +kernel) (by decide +kernel)) (goodIn_sub (fun _ h => List.mem_cons_of_mem _ (List.mem_append_right _ h)) (by decide +kernel))
set_option maxRecDepth 20000 in
theorem gX2_parse_X2_checkSlot : GoodIn wsX2_parse (va_wsS RX2 91 yX2_checkSlot wsX2_checkSlot) := goodIn_app (goodIn_of _ (by decide +kernel)) ggX2_parse_X2_checkSlot
set_option maxRecDepth 20000 in
theorem ggX2_parse_X0_length : GoodIn wsX2_parse wsX0_length := goodIn_r _ [15, 16, 119, 120] (by decide +kernel) (by decide +kernel)
set_option maxRecDepth 20000 in
theorem gX2_parse_X0_length : GoodIn wsX2_parse (wsV RX2 53 RX0 yX0_length wsX0_length) := goodIn_app (goodIn_of _ (by decide +kernel)) ggX2_parse_X0_length
set_option maxRecDepth 20000 in
theorem ggX2_parse_X1_tell : GoodIn wsX2_parse wsX1_tell := goodIn_r _ [21, 22, 23, 24, 25, 14, 26, 16, 27, 28, 29, 30, 31, 12, 13, 15, 32, 33, 34, 35, 36, 37, 38, 39, 40, 121, 122, 123, 124, 119, 120] (by decide +kernel) (by decide +kernel)
set_option maxRecDepth 20000 in
theorem gX2_parse_X1_tell : GoodIn wsX2_parse (wsV RX2 96 RX1 yX1_tell wsX1_tell) := goodIn_app (goodIn_of _ (by decide +kernel)) ggX2_parse_X1_tell
set_option maxRecDepth 20000 in
theorem ggX2_parse_X1_readTokens : GoodIn wsX2_parse wsX1_readTokens := goodIn_r _ [44, 45, 22, 46, 12, 13, 14, 15, 16, 47, 33, 34, 35, 36, 48, 7, 49, 50, 51, 20, 52, 53, 54, 55, 56, 57, 58, 59, 60, 61, 62, 63, 64, 65, 66, 67, 68, 69, 70, 121, 122, 123, 124, 119, 120] (by decide +kernel) (by decide +kernel)
set_option maxRecDepth 20000 in
theorem gX2_parse_X1_readTokens : GoodIn wsX2_parse (wsV RX2 100 RX1 yX1_readTokens wsX1_readTokens) := goodIn_app (goodIn_of _ (by decide +kernel)) ggX2_parse_X1_readTokens
set_option maxRecDepth 20000 in
theorem ggX2_parse_X2_exchangeSpare : GoodIn wsX2_parse wsX2_exchangeSpare := goodIn_ca (goodIn_r _ [74, 4, 75, 76, 77, 78, 7, 79, 5, 6, 8, 9, 10, 80, 81, 82, 20, 83, 84, 85, 86, 87, 88, 89, 90, 91, 92, 93, 94, 95, 59, 60, 61, 62, 45, 96, 97, 98, 99, 58, 67, 68, 69, 70, 100, 101, 102, 103, 22, 104, 105, 106, 107, 57, 47, 33, 34, 14, 35, 16, 36, 108, 109, 110, 111, 112, 113, 114, 115, 116, 117, 118, 121, 122, 123, 124, 119, 120] (by decide +kernel) (by decide +kernel)) (goodIn_sub (fun _ h => List.mem_cons_of_mem _ (List.mem_append_right _ h)) (by decide +kernel))
set_option maxRecDepth 20000 in
theorem gX2_parse_X2_exchangeSpare : GoodIn wsX2_parse (wsV RX2 103 RX2 yX2_exchangeSpare wsX2_exchangeSpare) := goodIn_app (goodIn_of _ (by decide +kernel)) ggX2_parse_X2_exchangeSpare
theorem dX2_parse_0 : decode cX2_parse 0 = .ok (.iload_n 1, 1) := by decide +kernel
theorem dX2_parse_1 : decode cX2_parse 1 = .ok (.invokestatic 91, 3) := by decide +kernel
theorem dX2_parse_4 : decode cX2_parse 4 = .ok (.aload_n 0, 1) := by decide +kernel
theorem dX2_parse_5 : decode cX2_parse 5 = .ok (.getfield 10, 3) := by decide +kernel
theorem dX2_parse_8 : decode cX2_parse 8 = .ok (.invokevirtual 53, 3) := by decide +kernel
theorem dX2_parse_11 : decode cX2_parse 11 = .ok (.ifCond .ne 13, 3) := by decide +kernel
theorem dX2_parse_14 : decode cX2_parse 14 = .ok (.new 73, 3) := by decide +kernel
theorem dX2_parse_17 : decode cX2_parse 17 = .ok (.dup, 1) := by decide +kernel
theorem dX2_parse_18 : decode cX2_parse 18 = .ok (.ldc 94, 2) := by decide +kernel
theorem dX2_parse_20 : decode cX2_parse 20 = .ok (.invokespecial 77, 3) := by decide +kernel
theorem dX2_parse_23 : decode cX2_parse 23 = .ok (.athrow, 1) := by decide +kernel
theorem dX2_parse_24 : decode cX2_parse 24 = .ok (.aload_n 0, 1) := by decide +kernel
theorem dX2_parse_25 : decode cX2_parse 25 = .ok (.getfield 33, 3) := by decide +kernel
theorem dX2_parse_28 : decode cX2_parse 28 = .ok (.aload_n 0, 1) := by decide +kernel
theorem dX2_parse_29 : decode cX2_parse 29 = .ok (.getfield 10, 3) := by decide +kernel
theorem dX2_parse_32 : decode cX2_parse 32 = .ok (.invokevirtual 96, 3) := by decide +kernel
theorem dX2_parse_35 : decode cX2_parse 35 = .ok (.aload_n 0, 1) := by decide +kernel
theorem dX2_parse_36 : decode cX2_parse 36 = .ok (.getfield 33, 3) := by decide +kernel
theorem dX2_parse_39 : decode cX2_parse 39 = .ok (.invokevirtual 100, 3) := by decide +kernel
theorem dX2_parse_42 : decode cX2_parse 42 = .ok (.aload_n 0, 1) := by decide +kernel
theorem dX2_parse_43 : decode cX2_parse 43 = .ok (.iload_n 1, 1) := by decide +kernel
theorem dX2_parse_44 : decode cX2_parse 44 = .ok (.invokevirtual 103, 3) := by decide +kernel
theorem dX2_parse_47 : decode cX2_parse 47 = .ok (.ireturn, 1) := by decide +kernel
set_option maxRecDepth 20000 in
theorem ggX2_triple_X2_checkSlot : GoodIn wsX2_triple wsX2_checkSlot := goodIn_ca (goodIn_r _ [6, 7, 8] (by decide +kernel) (by decide +kernel)) (goodIn_sub (fun _ h => List.mem_cons_of_mem _ (List.mem_append_left _ (List.mem_append_right _ h))) (by decide +kernel))
set_option maxRecDepth 20000 in
theorem gX2_triple_X2_checkSlot : GoodIn wsX2_triple (va_wsS RX2 91 yX2_checkSlot wsX2_checkSlot) := goodIn_app (goodIn_of _ (by decide +kernel)) ggX2_triple_X2_checkSlot
set_option maxRecDepth 20000 in
theorem ggX2_triple_X2_checkNumber : GoodIn wsX2_triple wsX2_checkNumber := goodIn_ca (goodIn_r _ [11, 12, 13] (by decide +kernel) (by decide +kernel)) (goodIn_sub (fun _ h => List.mem_cons_of_mem _ (List.mem_append_right _ h)) (by decide +kernel))
set_option maxRecDepth 20000 in
theorem gX2_triple_X2_checkNumber : GoodIn wsX2_triple (va_wsS RX2 38 yX2_checkNumber wsX2_checkNumber) := goodIn_app (goodIn_of _ (by decide +kernel)) ggX2_triple_X2_checkNumber
set_option maxRecDepth 20000 in
theorem ggX2_triple_X0_clear : GoodIn wsX2_triple wsX0_clear := goodIn_r _ [18, 19, 121, 122] (by decide +kernel) (by decide +kernel)
set_option maxRecDepth 20000 in
theorem gX2_triple_X0_clear : GoodIn wsX2_triple (wsV RX2 46 RX0 yX0_clear wsX0_clear) := goodIn_app (goodIn_of _ (by decide +kernel)) ggX2_triple_X0_clear
set_option maxRecDepth 20000 in
theorem ggX2_triple_X0_putNumber : GoodIn wsX2_triple wsX0_putNumber := goodIn_r _ [23, 24, 25, 26, 27, 17, 28, 19, 29, 121, 122] (by decide +kernel) (by decide +kernel)
set_option maxRecDepth 20000 in
theorem gX2_triple_X0_putNumber : GoodIn wsX2_triple (wsV RX2 49 RX0 yX0_putNumber wsX0_putNumber) := goodIn_app (goodIn_of _ (by decide +kernel)) ggX2_triple_X0_putNumber
set_option maxRecDepth 20000 in
theorem ggX2_triple_X0_put : GoodIn wsX2_triple wsX0_put := goodIn_r _ [28, 19, 29, 121, 122] (by decide +kernel) (by decide +kernel)
set_option maxRecDepth 20000 in
theorem gX2_triple_X0_put : GoodIn wsX2_triple (wsV RX2 109 RX0 yX0_put wsX0_put) := goodIn_app (goodIn_of _ (by decide +kernel)) ggX2_triple_X0_put
set_option maxRecDepth 20000 in
theorem ggX2_triple_X1_readTokens : GoodIn wsX2_triple wsX1_readTokens := goodIn_r _ [35, 36, 37, 38, 39, 40, 17, 41, 19, 42, 43, 44, 45, 29, 46, 5, 47, 48, 49, 34, 50, 51, 52, 53, 54, 55, 56, 57, 58, 59, 60, 61, 62, 63, 64, 65, 66, 67, 68, 117, 118, 119, 120, 121, 122] (by decide +kernel) (by decide +kernel)
set_option maxRecDepth 20000 in
theorem gX2_triple_X1_readTokens : GoodIn wsX2_triple (wsV RX2 100 RX1 yX1_readTokens wsX1_readTokens) := goodIn_app (goodIn_of _ (by decide +kernel)) ggX2_triple_X1_readTokens
set_option maxRecDepth 20000 in
theorem ggX2_triple_X2_exchangeSpare : GoodIn wsX2_triple wsX2_exchangeSpare := goodIn_ca (goodIn_r _ [72, 2, 73, 74, 75, 76, 5, 77, 3, 4, 6, 7, 8, 78, 79, 80, 34, 81, 82, 83, 84, 85, 86, 87, 88, 89, 90, 91, 92, 93, 57, 58, 59, 60, 36, 94, 95, 96, 97, 56, 65, 66, 67, 68, 98, 99, 100, 101, 37, 102, 103, 104, 105, 55, 42, 43, 44, 17, 45, 19, 29, 106, 107, 108, 109, 110, 111, 112, 113, 114, 115, 116, 117, 118, 119, 120, 121, 122] (by decide +kernel) (by decide +kernel)) (goodIn_sub (fun _ h => List.mem_cons_of_mem _ (List.mem_append_left _ (List.mem_append_right _ h))) (by decide +kernel))
set_option maxRecDepth 20000 in
theorem gX2_triple_X2_exchangeSpare : GoodIn wsX2_triple (wsV RX2 103 RX2 yX2_exchangeSpare wsX2_exchangeSpare) := goodIn_app (goodIn_of _ (by decide +kernel)) ggX2_triple_X2_exchangeSpare
theorem dX2_triple_0 : decode cX2_triple 0 = .ok (.iload_n 1, 1) := by decide +kernel
theorem dX2_triple_1 : decode cX2_triple 1 = .ok (.invokestatic 91, 3) := by decide +kernel
theorem dX2_triple_4 : decode cX2_triple 4 = .ok (.iload_n 2, 1) := by decide +kernel
theorem dX2_triple_5 : decode cX2_triple 5 = .ok (.iconst 0, 1) := by decide +kernel
theorem dX2_triple_6 : decode cX2_triple 6 = .ok (.ldc 37, 2) := by decide +kernel
theorem dX2_triple_8 : decode cX2_triple 8 = .ok (.invokestatic 38, 3) := by decide +kernel
theorem dX2_triple_11 : decode cX2_triple 11 = .ok (.iload_n 3, 1) := by decide +kernel
theorem dX2_triple_12 : decode cX2_triple 12 = .ok (.iconst 0, 1) := by decide +kernel
theorem dX2_triple_13 : decode cX2_triple 13 = .ok (.ldc 37, 2) := by decide +kernel
theorem dX2_triple_15 : decode cX2_triple 15 = .ok (.invokestatic 38, 3) := by decide +kernel
theorem dX2_triple_18 : decode cX2_triple 18 = .ok (.iload 4, 2) := by decide +kernel
theorem dX2_triple_20 : decode cX2_triple 20 = .ok (.iconst 0, 1) := by decide +kernel
theorem dX2_triple_21 : decode cX2_triple 21 = .ok (.ldc 37, 2) := by decide +kernel
theorem dX2_triple_23 : decode cX2_triple 23 = .ok (.invokestatic 38, 3) := by decide +kernel
theorem dX2_triple_26 : decode cX2_triple 26 = .ok (.aload_n 0, 1) := by decide +kernel
theorem dX2_triple_27 : decode cX2_triple 27 = .ok (.getfield 33, 3) := by decide +kernel
theorem dX2_triple_30 : decode cX2_triple 30 = .ok (.getfield 106, 3) := by decide +kernel
theorem dX2_triple_33 : decode cX2_triple 33 = .ok (.invokevirtual 46, 3) := by decide +kernel
theorem dX2_triple_36 : decode cX2_triple 36 = .ok (.aload_n 0, 1) := by decide +kernel
theorem dX2_triple_37 : decode cX2_triple 37 = .ok (.getfield 33, 3) := by decide +kernel
theorem dX2_triple_40 : decode cX2_triple 40 = .ok (.getfield 106, 3) := by decide +kernel
theorem dX2_triple_43 : decode cX2_triple 43 = .ok (.iload_n 2, 1) := by decide +kernel
theorem dX2_triple_44 : decode cX2_triple 44 = .ok (.iconst 0, 1) := by decide +kernel
theorem dX2_triple_45 : decode cX2_triple 45 = .ok (.invokevirtual 49, 3) := by decide +kernel
theorem dX2_triple_48 : decode cX2_triple 48 = .ok (.aload_n 0, 1) := by decide +kernel
theorem dX2_triple_49 : decode cX2_triple 49 = .ok (.getfield 33, 3) := by decide +kernel
theorem dX2_triple_52 : decode cX2_triple 52 = .ok (.getfield 106, 3) := by decide +kernel
theorem dX2_triple_55 : decode cX2_triple 55 = .ok (.bipush 46, 2) := by decide +kernel
theorem dX2_triple_57 : decode cX2_triple 57 = .ok (.invokevirtual 109, 3) := by decide +kernel
theorem dX2_triple_60 : decode cX2_triple 60 = .ok (.aload_n 0, 1) := by decide +kernel
theorem dX2_triple_61 : decode cX2_triple 61 = .ok (.getfield 33, 3) := by decide +kernel
theorem dX2_triple_64 : decode cX2_triple 64 = .ok (.getfield 106, 3) := by decide +kernel
theorem dX2_triple_67 : decode cX2_triple 67 = .ok (.iload_n 3, 1) := by decide +kernel
theorem dX2_triple_68 : decode cX2_triple 68 = .ok (.iconst 0, 1) := by decide +kernel
theorem dX2_triple_69 : decode cX2_triple 69 = .ok (.invokevirtual 49, 3) := by decide +kernel
theorem dX2_triple_72 : decode cX2_triple 72 = .ok (.aload_n 0, 1) := by decide +kernel
theorem dX2_triple_73 : decode cX2_triple 73 = .ok (.getfield 33, 3) := by decide +kernel
theorem dX2_triple_76 : decode cX2_triple 76 = .ok (.getfield 106, 3) := by decide +kernel
theorem dX2_triple_79 : decode cX2_triple 79 = .ok (.bipush 46, 2) := by decide +kernel
theorem dX2_triple_81 : decode cX2_triple 81 = .ok (.invokevirtual 109, 3) := by decide +kernel
theorem dX2_triple_84 : decode cX2_triple 84 = .ok (.aload_n 0, 1) := by decide +kernel
theorem dX2_triple_85 : decode cX2_triple 85 = .ok (.getfield 33, 3) := by decide +kernel
theorem dX2_triple_88 : decode cX2_triple 88 = .ok (.getfield 106, 3) := by decide +kernel
theorem dX2_triple_91 : decode cX2_triple 91 = .ok (.iload 4, 2) := by decide +kernel
theorem dX2_triple_93 : decode cX2_triple 93 = .ok (.iconst 0, 1) := by decide +kernel
theorem dX2_triple_94 : decode cX2_triple 94 = .ok (.invokevirtual 49, 3) := by decide +kernel
theorem dX2_triple_97 : decode cX2_triple 97 = .ok (.aload_n 0, 1) := by decide +kernel
theorem dX2_triple_98 : decode cX2_triple 98 = .ok (.getfield 33, 3) := by decide +kernel
theorem dX2_triple_101 : decode cX2_triple 101 = .ok (.invokevirtual 100, 3) := by decide +kernel
theorem dX2_triple_104 : decode cX2_triple 104 = .ok (.aload_n 0, 1) := by decide +kernel
theorem dX2_triple_105 : decode cX2_triple 105 = .ok (.iload_n 1, 1) := by decide +kernel
theorem dX2_triple_106 : decode cX2_triple 106 = .ok (.invokevirtual 103, 3) := by decide +kernel
theorem dX2_triple_109 : decode cX2_triple 109 = .ok (.ireturn, 1) := by decide +kernel
set_option maxRecDepth 20000 in
theorem ggX2_copy_X2_versionIn : GoodIn wsX2_copy wsX2_versionIn := goodIn_ca (goodIn_r _ [5, 6, 7, 8, 4, 9, 10, 11, 113, 114, 115, 116, 117, 118] (by decide +kernel) (by decide +kernel)) (goodIn_sub (fun _ h => List.mem_cons_of_mem _ (List.mem_append_right _ h)) (by decide +kernel))
set_option maxRecDepth 20000 in
theorem gX2_copy_X2_versionIn : GoodIn wsX2_copy (wsV RX2 112 RX2 yX2_versionIn wsX2_versionIn) := goodIn_app (goodIn_of _ (by decide +kernel)) ggX2_copy_X2_versionIn
set_option maxRecDepth 20000 in
theorem ggX2_copy_X2_checkSlot : GoodIn wsX2_copy wsX2_checkSlot := goodIn_ca (goodIn_r _ [9, 10, 11] (by decide +kernel) (by decide +kernel)) (goodIn_sub (fun _ h => List.mem_cons_of_mem _ (List.mem_append_right _ h)) (by decide +kernel))
set_option maxRecDepth 20000 in
theorem gX2_copy_X2_checkSlot : GoodIn wsX2_copy (va_wsS RX2 91 yX2_checkSlot wsX2_checkSlot) := goodIn_app (goodIn_of _ (by decide +kernel)) ggX2_copy_X2_checkSlot
set_option maxRecDepth 20000 in
theorem ggX2_copy_X2_parseAnew : GoodIn wsX2_copy wsX2_parseAnew := goodIn_r _ [15, 16, 17, 18, 19, 20, 21, 22, 23, 24, 25, 26, 27, 28, 29, 30, 31, 32, 33, 34, 35, 36, 37, 38, 39, 40, 41, 42, 43, 44, 45, 46, 47, 48, 49, 50, 51, 52, 53, 4, 54, 55, 56, 57, 58, 59, 60, 61, 62, 63, 64, 65, 66, 67, 68, 69, 70, 71, 72, 73, 74, 75, 113, 114, 115, 116, 117, 118, 119, 120, 121, 122, 123, 124] (by decide +kernel) (by decide +kernel)
set_option maxRecDepth 20000 in
theorem gX2_copy_X2_parseAnew : GoodIn wsX2_copy (wsV RX2 116 RX2 yX2_parseAnew wsX2_parseAnew) := goodIn_app (goodIn_of _ (by decide +kernel)) ggX2_copy_X2_parseAnew
set_option maxRecDepth 20000 in
theorem ggX2_copy_X2_exchangeSpare : GoodIn wsX2_copy wsX2_exchangeSpare := goodIn_ca (goodIn_r _ [79, 16, 6, 1, 2, 3, 4, 5, 7, 8, 9, 10, 11, 80, 81, 82, 20, 83, 84, 85, 86, 87, 88, 89, 90, 91, 92, 93, 94, 95, 64, 65, 66, 67, 50, 96, 97, 98, 99, 63, 72, 73, 74, 75, 100, 101, 102, 103, 22, 104, 105, 106, 107, 62, 52, 38, 39, 26, 40, 28, 41, 108, 109, 110, 111, 112, 113, 114, 115, 116, 117, 118, 119, 120, 121, 122, 123, 124] (by decide +kernel) (by decide +kernel)) (goodIn_sub (fun _ h => List.mem_cons_of_mem _ (List.mem_append_right _ h)) (by decide +kernel))
set_option maxRecDepth 20000 in
theorem gX2_copy_X2_exchangeSpare : GoodIn wsX2_copy (wsV RX2 103 RX2 yX2_exchangeSpare wsX2_exchangeSpare) := goodIn_app (goodIn_of _ (by decide +kernel)) ggX2_copy_X2_exchangeSpare
theorem dX2_copy_0 : decode cX2_copy 0 = .ok (.aload_n 0, 1) := by decide +kernel
theorem dX2_copy_1 : decode cX2_copy 1 = .ok (.iload_n 1, 1) := by decide +kernel
theorem dX2_copy_2 : decode cX2_copy 2 = .ok (.invokevirtual 112, 3) := by decide +kernel
theorem dX2_copy_5 : decode cX2_copy 5 = .ok (.astore_n 3, 1) := by decide +kernel
theorem dX2_copy_6 : decode cX2_copy 6 = .ok (.iload_n 2, 1) := by decide +kernel
theorem dX2_copy_7 : decode cX2_copy 7 = .ok (.invokestatic 91, 3) := by decide +kernel
theorem dX2_copy_10 : decode cX2_copy 10 = .ok (.aload_n 0, 1) := by decide +kernel
theorem dX2_copy_11 : decode cX2_copy 11 = .ok (.aload_n 3, 1) := by decide +kernel
theorem dX2_copy_12 : decode cX2_copy 12 = .ok (.invokevirtual 116, 3) := by decide +kernel
theorem dX2_copy_15 : decode cX2_copy 15 = .ok (.aload_n 0, 1) := by decide +kernel
theorem dX2_copy_16 : decode cX2_copy 16 = .ok (.iload_n 2, 1) := by decide +kernel
theorem dX2_copy_17 : decode cX2_copy 17 = .ok (.invokevirtual 103, 3) := by decide +kernel
theorem dX2_copy_20 : decode cX2_copy 20 = .ok (.ireturn, 1) := by decide +kernel
set_option maxRecDepth 20000 in
theorem ggX2_size_X2_versionIn : GoodIn wsX2_size wsX2_versionIn := goodIn_ca (goodIn_r _ [5, 6, 7, 8, 4, 9, 10, 11, 22, 23, 24, 25, 26, 27] (by decide +kernel) (by decide +kernel)) (goodIn_sub (fun _ h => List.mem_cons_of_mem _ (List.mem_append_right _ h)) (by decide +kernel))
set_option maxRecDepth 20000 in
theorem gX2_size_X2_versionIn : GoodIn wsX2_size (wsV RX2 112 RX2 yX2_versionIn wsX2_versionIn) := goodIn_app (goodIn_of _ (by decide +kernel)) ggX2_size_X2_versionIn
set_option maxRecDepth 20000 in
theorem ggX2_size_X0_length : GoodIn wsX2_size wsX0_length := goodIn_r _ [16, 17, 28, 29] (by decide +kernel) (by decide +kernel)
set_option maxRecDepth 20000 in
theorem gX2_size_X0_length : GoodIn wsX2_size (wsV RX2 53 RX0 yX0_length wsX0_length) := goodIn_app (goodIn_of _ (by decide +kernel)) ggX2_size_X0_length
theorem dX2_size_0 : decode cX2_size 0 = .ok (.aload_n 0, 1) := by decide +kernel
theorem dX2_size_1 : decode cX2_size 1 = .ok (.iload_n 1, 1) := by decide +kernel
theorem dX2_size_2 : decode cX2_size 2 = .ok (.invokevirtual 112, 3) := by decide +kernel
theorem dX2_size_5 : decode cX2_size 5 = .ok (.getfield 106, 3) := by decide +kernel
theorem dX2_size_8 : decode cX2_size 8 = .ok (.invokevirtual 53, 3) := by decide +kernel
theorem dX2_size_11 : decode cX2_size 11 = .ok (.ireturn, 1) := by decide +kernel
set_option maxRecDepth 20000 in
theorem ggX2_text_X2_versionIn : GoodIn wsX2_text wsX2_versionIn := goodIn_ca (goodIn_r _ [5, 6, 7, 8, 4, 9, 10, 11, 30, 31, 32, 33, 34, 35] (by decide +kernel) (by decide +kernel)) (goodIn_sub (fun _ h => List.mem_cons_of_mem _ (List.mem_append_right _ h)) (by decide +kernel))
set_option maxRecDepth 20000 in
theorem gX2_text_X2_versionIn : GoodIn wsX2_text (wsV RX2 112 RX2 yX2_versionIn wsX2_versionIn) := goodIn_app (goodIn_of _ (by decide +kernel)) ggX2_text_X2_versionIn
set_option maxRecDepth 20000 in
theorem ggX2_text_X2_checkPlace : GoodIn wsX2_text wsX2_checkPlace := goodIn_ca (goodIn_r _ [14, 10, 11, 15, 16, 17, 18, 19, 20, 36, 37] (by decide +kernel) (by decide +kernel)) (goodIn_sub (fun _ h => List.mem_cons_of_mem _ (List.mem_append_right _ h)) (by decide +kernel))
set_option maxRecDepth 20000 in
theorem gX2_text_X2_checkPlace : GoodIn wsX2_text (va_wsS RX2 83 yX2_checkPlace wsX2_checkPlace) := goodIn_app (goodIn_of _ (by decide +kernel)) ggX2_text_X2_checkPlace
set_option maxRecDepth 20000 in
theorem ggX2_text_X0_signAt : GoodIn wsX2_text wsX0_signAt := goodIn_r _ [24, 20, 25, 36, 37] (by decide +kernel) (by decide +kernel)
set_option maxRecDepth 20000 in
theorem gX2_text_X0_signAt : GoodIn wsX2_text (wsV RX2 87 RX0 yX0_signAt wsX0_signAt) := goodIn_app (goodIn_of _ (by decide +kernel)) ggX2_text_X0_signAt
theorem dX2_text_0 : decode cX2_text 0 = .ok (.aload_n 0, 1) := by decide +kernel
theorem dX2_text_1 : decode cX2_text 1 = .ok (.iload_n 1, 1) := by decide +kernel
theorem dX2_text_2 : decode cX2_text 2 = .ok (.invokevirtual 112, 3) := by decide +kernel
theorem dX2_text_5 : decode cX2_text 5 = .ok (.astore_n 3, 1) := by decide +kernel
theorem dX2_text_6 : decode cX2_text 6 = .ok (.aload_n 3, 1) := by decide +kernel
theorem dX2_text_7 : decode cX2_text 7 = .ok (.getfield 106, 3) := by decide +kernel
theorem dX2_text_10 : decode cX2_text 10 = .ok (.iload_n 2, 1) := by decide +kernel
theorem dX2_text_11 : decode cX2_text 11 = .ok (.invokestatic 83, 3) := by decide +kernel
theorem dX2_text_14 : decode cX2_text 14 = .ok (.aload_n 3, 1) := by decide +kernel
theorem dX2_text_15 : decode cX2_text 15 = .ok (.getfield 106, 3) := by decide +kernel
theorem dX2_text_18 : decode cX2_text 18 = .ok (.iload_n 2, 1) := by decide +kernel
theorem dX2_text_19 : decode cX2_text 19 = .ok (.invokevirtual 87, 3) := by decide +kernel
theorem dX2_text_22 : decode cX2_text 22 = .ok (.ireturn, 1) := by decide +kernel
set_option maxRecDepth 20000 in
theorem ggX2_tokens_X2_versionIn : GoodIn wsX2_tokens wsX2_versionIn := goodIn_ca (goodIn_r _ [5, 6, 7, 8, 4, 9, 10, 11, 23, 24, 25, 26, 27, 28] (by decide +kernel) (by decide +kernel)) (goodIn_sub (fun _ h => List.mem_cons_of_mem _ (List.mem_append_left _ (List.mem_append_right _ h))) (by decide +kernel))
set_option maxRecDepth 20000 in
theorem gX2_tokens_X2_versionIn : GoodIn wsX2_tokens (wsV RX2 112 RX2 yX2_versionIn wsX2_versionIn) := goodIn_app (goodIn_of _ (by decide +kernel)) ggX2_tokens_X2_versionIn
set_option maxRecDepth 20000 in
theorem ggX2_tokens_X2_checkRow : GoodIn wsX2_tokens wsX2_checkRow := goodIn_ca (goodIn_r _ [14, 15, 16] (by decide +kernel) (by decide +kernel)) (goodIn_sub (fun _ h => List.mem_cons_of_mem _ (List.mem_append_right _ h)) (by decide +kernel))
set_option maxRecDepth 20000 in
theorem gX2_tokens_X2_checkRow : GoodIn wsX2_tokens (va_wsS RX2 120 yX2_checkRow wsX2_checkRow) := goodIn_app (goodIn_of _ (by decide +kernel)) ggX2_tokens_X2_checkRow
set_option maxRecDepth 20000 in
theorem ggX2_tokens_X1_tokensIn : GoodIn wsX2_tokens wsX1_tokensIn := goodIn_r _ [21, 22, 29, 30, 31, 32] (by decide +kernel) (by decide +kernel)
set_option maxRecDepth 20000 in
theorem gX2_tokens_X1_tokensIn : GoodIn wsX2_tokens (wsV RX2 123 RX1 yX1_tokensIn wsX1_tokensIn) := goodIn_app (goodIn_of _ (by decide +kernel)) ggX2_tokens_X1_tokensIn
theorem dX2_tokens_0 : decode cX2_tokens 0 = .ok (.aload_n 0, 1) := by decide +kernel
theorem dX2_tokens_1 : decode cX2_tokens 1 = .ok (.iload_n 1, 1) := by decide +kernel
theorem dX2_tokens_2 : decode cX2_tokens 2 = .ok (.invokevirtual 112, 3) := by decide +kernel
theorem dX2_tokens_5 : decode cX2_tokens 5 = .ok (.astore_n 3, 1) := by decide +kernel
theorem dX2_tokens_6 : decode cX2_tokens 6 = .ok (.iload_n 2, 1) := by decide +kernel
theorem dX2_tokens_7 : decode cX2_tokens 7 = .ok (.invokestatic 120, 3) := by decide +kernel
theorem dX2_tokens_10 : decode cX2_tokens 10 = .ok (.aload_n 3, 1) := by decide +kernel
theorem dX2_tokens_11 : decode cX2_tokens 11 = .ok (.iload_n 2, 1) := by decide +kernel
theorem dX2_tokens_12 : decode cX2_tokens 12 = .ok (.invokevirtual 123, 3) := by decide +kernel
theorem dX2_tokens_15 : decode cX2_tokens 15 = .ok (.ireturn, 1) := by decide +kernel
set_option maxRecDepth 20000 in
theorem ggX2_token_X2_versionIn : GoodIn wsX2_token wsX2_versionIn := goodIn_ca (goodIn_r _ [7, 8, 9, 10, 6, 11, 1, 2, 32, 33, 34, 35, 36, 37] (by decide +kernel) (by decide +kernel)) (goodIn_sub (fun _ h => List.mem_cons_of_mem _ (List.mem_append_left _ (List.mem_append_right _ h))) (by decide +kernel))
set_option maxRecDepth 20000 in
theorem gX2_token_X2_versionIn : GoodIn wsX2_token (wsV RX2 112 RX2 yX2_versionIn wsX2_versionIn) := goodIn_app (goodIn_of _ (by decide +kernel)) ggX2_token_X2_versionIn
set_option maxRecDepth 20000 in
theorem ggX2_token_X2_checkRow : GoodIn wsX2_token wsX2_checkRow := goodIn_ca (goodIn_r _ [14, 15, 16] (by decide +kernel) (by decide +kernel)) (goodIn_sub (fun _ h => List.mem_cons_of_mem _ (List.mem_append_right _ h)) (by decide +kernel))
set_option maxRecDepth 20000 in
theorem gX2_token_X2_checkRow : GoodIn wsX2_token (va_wsS RX2 120 yX2_checkRow wsX2_checkRow) := goodIn_app (goodIn_of _ (by decide +kernel)) ggX2_token_X2_checkRow
set_option maxRecDepth 20000 in
theorem ggX2_token_X1_tokensIn : GoodIn wsX2_token wsX1_tokensIn := goodIn_r _ [21, 22, 38, 39, 40, 41] (by decide +kernel) (by decide +kernel)
set_option maxRecDepth 20000 in
theorem gX2_token_X1_tokensIn : GoodIn wsX2_token (wsV RX2 123 RX1 yX1_tokensIn wsX1_tokensIn) := goodIn_app (goodIn_of _ (by decide +kernel)) ggX2_token_X1_tokensIn
set_option maxRecDepth 20000 in
theorem ggX2_token_X1_sizeAt : GoodIn wsX2_token wsX1_sizeAt := goodIn_r _ [26, 27, 28, 29, 30, 20, 31, 22, 38, 39, 40, 41] (by decide +kernel) (by decide +kernel)
set_option maxRecDepth 20000 in
theorem gX2_token_X1_sizeAt : GoodIn wsX2_token (wsV RX2 131 RX1 yX1_sizeAt wsX1_sizeAt) := goodIn_app (goodIn_of _ (by decide +kernel)) ggX2_token_X1_sizeAt
theorem dX2_token_0 : decode cX2_token 0 = .ok (.aload_n 0, 1) := by decide +kernel
theorem dX2_token_1 : decode cX2_token 1 = .ok (.iload_n 1, 1) := by decide +kernel
theorem dX2_token_2 : decode cX2_token 2 = .ok (.invokevirtual 112, 3) := by decide +kernel
theorem dX2_token_5 : decode cX2_token 5 = .ok (.astore 4, 2) := by decide +kernel
theorem dX2_token_7 : decode cX2_token 7 = .ok (.iload_n 2, 1) := by decide +kernel
theorem dX2_token_8 : decode cX2_token 8 = .ok (.invokestatic 120, 3) := by decide +kernel
theorem dX2_token_11 : decode cX2_token 11 = .ok (.iload_n 3, 1) := by decide +kernel
theorem dX2_token_12 : decode cX2_token 12 = .ok (.ifCond .lt 13, 3) := by decide +kernel
theorem dX2_token_15 : decode cX2_token 15 = .ok (.iload_n 3, 1) := by decide +kernel
theorem dX2_token_16 : decode cX2_token 16 = .ok (.aload 4, 2) := by decide +kernel
theorem dX2_token_18 : decode cX2_token 18 = .ok (.iload_n 2, 1) := by decide +kernel
theorem dX2_token_19 : decode cX2_token 19 = .ok (.invokevirtual 123, 3) := by decide +kernel
theorem dX2_token_22 : decode cX2_token 22 = .ok (.if_icmp .lt 13, 3) := by decide +kernel
theorem dX2_token_25 : decode cX2_token 25 = .ok (.new 126, 3) := by decide +kernel
theorem dX2_token_28 : decode cX2_token 28 = .ok (.dup, 1) := by decide +kernel
theorem dX2_token_29 : decode cX2_token 29 = .ok (.ldc 128, 2) := by decide +kernel
theorem dX2_token_31 : decode cX2_token 31 = .ok (.invokespecial 130, 3) := by decide +kernel
theorem dX2_token_34 : decode cX2_token 34 = .ok (.athrow, 1) := by decide +kernel
theorem dX2_token_35 : decode cX2_token 35 = .ok (.aload 4, 2) := by decide +kernel
theorem dX2_token_37 : decode cX2_token 37 = .ok (.iload_n 2, 1) := by decide +kernel
theorem dX2_token_38 : decode cX2_token 38 = .ok (.iload_n 3, 1) := by decide +kernel
theorem dX2_token_39 : decode cX2_token 39 = .ok (.invokevirtual 131, 3) := by decide +kernel
theorem dX2_token_42 : decode cX2_token 42 = .ok (.ireturn, 1) := by decide +kernel
set_option maxRecDepth 20000 in
theorem ggX2_compare_X2_versionIn : GoodIn wsX2_compare wsX2_versionIn := goodIn_ca (goodIn_r _ [5, 6, 7, 8, 4, 9, 10, 11, 65, 66, 67, 68, 69, 70] (by decide +kernel) (by decide +kernel)) (goodIn_sub (fun _ h => List.mem_cons_of_mem _ (List.mem_append_right _ h)) (by decide +kernel))
set_option maxRecDepth 20000 in
theorem gX2_compare_X2_versionIn : GoodIn wsX2_compare (wsV RX2 112 RX2 yX2_versionIn wsX2_versionIn) := goodIn_app (goodIn_of _ (by decide +kernel)) ggX2_compare_X2_versionIn
set_option maxRecDepth 20000 in
theorem ggX2_compare_X1_orderTo : GoodIn wsX2_compare wsX1_orderTo := goodIn_r _ [16, 17, 18, 19, 15, 20, 21, 22, 23, 24, 25, 26, 27, 28, 29, 30, 31, 32, 33, 34, 35, 36, 37, 38, 39, 40, 41, 42, 43, 44, 45, 46, 47, 48, 49, 50, 51, 52, 53, 54, 55, 56, 57, 58, 59, 60, 4, 61, 62, 63, 64, 71, 72, 73, 74, 75, 76] (by decide +kernel) (by decide +kernel)
set_option maxRecDepth 20000 in
theorem gX2_compare_X1_orderTo : GoodIn wsX2_compare (wsV RX2 135 RX1 yX1_orderTo wsX1_orderTo) := goodIn_app (goodIn_of _ (by decide +kernel)) ggX2_compare_X1_orderTo
theorem dX2_compare_0 : decode cX2_compare 0 = .ok (.aload_n 0, 1) := by decide +kernel
theorem dX2_compare_1 : decode cX2_compare 1 = .ok (.iload_n 1, 1) := by decide +kernel
theorem dX2_compare_2 : decode cX2_compare 2 = .ok (.invokevirtual 112, 3) := by decide +kernel
theorem dX2_compare_5 : decode cX2_compare 5 = .ok (.aload_n 0, 1) := by decide +kernel
theorem dX2_compare_6 : decode cX2_compare 6 = .ok (.iload_n 2, 1) := by decide +kernel
theorem dX2_compare_7 : decode cX2_compare 7 = .ok (.invokevirtual 112, 3) := by decide +kernel
theorem dX2_compare_10 : decode cX2_compare 10 = .ok (.invokevirtual 135, 3) := by decide +kernel
theorem dX2_compare_13 : decode cX2_compare 13 = .ok (.ireturn, 1) := by decide +kernel
set_option maxRecDepth 20000 in
theorem ggX2_isSame_X2_versionIn : GoodIn wsX2_isSame wsX2_versionIn := goodIn_ca (goodIn_r _ [5, 6, 7, 8, 4, 9, 10, 11, 65, 66, 67, 68, 69, 70] (by decide +kernel) (by decide +kernel)) (goodIn_sub (fun _ h => List.mem_cons_of_mem _ (List.mem_append_right _ h)) (by decide +kernel))
set_option maxRecDepth 20000 in
theorem gX2_isSame_X2_versionIn : GoodIn wsX2_isSame (wsV RX2 112 RX2 yX2_versionIn wsX2_versionIn) := goodIn_app (goodIn_of _ (by decide +kernel)) ggX2_isSame_X2_versionIn
set_option maxRecDepth 20000 in
theorem ggX2_isSame_X1_orderTo : GoodIn wsX2_isSame wsX1_orderTo := goodIn_r _ [16, 17, 18, 19, 15, 20, 21, 22, 23, 24, 25, 26, 27, 28, 29, 30, 31, 32, 33, 34, 35, 36, 37, 38, 39, 40, 41, 42, 43, 44, 45, 46, 47, 48, 49, 50, 51, 52, 53, 54, 55, 56, 57, 58, 59, 60, 4, 61, 62, 63, 64, 71, 72, 73, 74, 75, 76] (by decide +kernel) (by decide +kernel)
set_option maxRecDepth 20000 in
theorem gX2_isSame_X1_orderTo : GoodIn wsX2_isSame (wsV RX2 135 RX1 yX1_orderTo wsX1_orderTo) := goodIn_app (goodIn_of _ (by decide +kernel)) ggX2_isSame_X1_orderTo
theorem dX2_isSame_0 : decode cX2_isSame 0 = .ok (.aload_n 0, 1) := by decide +kernel
theorem dX2_isSame_1 : decode cX2_isSame 1 = .ok (.iload_n 1, 1) := by decide +kernel
theorem dX2_isSame_2 : decode cX2_isSame 2 = .ok (.invokevirtual 112, 3) := by decide +kernel
theorem dX2_isSame_5 : decode cX2_isSame 5 = .ok (.aload_n 0, 1) := by decide +kernel
theorem dX2_isSame_6 : decode cX2_isSame 6 = .ok (.iload_n 2, 1) := by decide +kernel
theorem dX2_isSame_7 : decode cX2_isSame 7 = .ok (.invokevirtual 112, 3) := by decide +kernel
theorem dX2_isSame_10 : decode cX2_isSame 10 = .ok (.invokevirtual 135, 3) := by decide +kernel
theorem dX2_isSame_13 : decode cX2_isSame 13 = .ok (.ifCond .ne 7, 3) := by decide +kernel
theorem dX2_isSame_16 : decode cX2_isSame 16 = .ok (.iconst 1, 1) := by decide +kernel
theorem dX2_isSame_17 : decode cX2_isSame 17 = .ok (.goto 4, 3) := by decide +kernel
theorem dX2_isSame_20 : decode cX2_isSame 20 = .ok (.iconst 0, 1) := by decide +kernel
theorem dX2_isSame_21 : decode cX2_isSame 21 = .ok (.ireturn, 1) := by decide +kernel
set_option maxRecDepth 20000 in
theorem ggX2_apart_X2_versionIn : GoodIn wsX2_apart wsX2_versionIn := goodIn_ca (goodIn_r _ [5, 6, 7, 8, 4, 9, 10, 11, 65, 66, 67, 68, 69, 70] (by decide +kernel) (by decide +kernel)) (goodIn_sub (fun _ h => List.mem_cons_of_mem _ (List.mem_append_right _ h)) (by decide +kernel))
set_option maxRecDepth 20000 in
theorem gX2_apart_X2_versionIn : GoodIn wsX2_apart (wsV RX2 112 RX2 yX2_versionIn wsX2_versionIn) := goodIn_app (goodIn_of _ (by decide +kernel)) ggX2_apart_X2_versionIn
set_option maxRecDepth 20000 in
theorem ggX2_apart_X1_tellingRow : GoodIn wsX2_apart wsX1_tellingRow := goodIn_r _ [16, 17, 18, 19, 15, 20, 21, 22, 23, 24, 25, 26, 27, 28, 29, 30, 31, 32, 33, 34, 35, 36, 37, 38, 39, 40, 41, 42, 43, 44, 45, 46, 47, 48, 49, 50, 51, 52, 53, 54, 55, 56, 57, 58, 59, 60, 4, 61, 62, 63, 64, 71, 72, 73, 74, 75, 76] (by decide +kernel) (by decide +kernel)
set_option maxRecDepth 20000 in
theorem gX2_apart_X1_tellingRow : GoodIn wsX2_apart (wsV RX2 139 RX1 yX1_tellingRow wsX1_tellingRow) := goodIn_app (goodIn_of _ (by decide +kernel)) ggX2_apart_X1_tellingRow
theorem dX2_apart_0 : decode cX2_apart 0 = .ok (.aload_n 0, 1) := by decide +kernel
theorem dX2_apart_1 : decode cX2_apart 1 = .ok (.iload_n 1, 1) := by decide +kernel
theorem dX2_apart_2 : decode cX2_apart 2 = .ok (.invokevirtual 112, 3) := by decide +kernel
theorem dX2_apart_5 : decode cX2_apart 5 = .ok (.aload_n 0, 1) := by decide +kernel
theorem dX2_apart_6 : decode cX2_apart 6 = .ok (.iload_n 2, 1) := by decide +kernel
theorem dX2_apart_7 : decode cX2_apart 7 = .ok (.invokevirtual 112, 3) := by decide +kernel
theorem dX2_apart_10 : decode cX2_apart 10 = .ok (.invokevirtual 139, 3) := by decide +kernel
theorem dX2_apart_13 : decode cX2_apart 13 = .ok (.ireturn, 1) := by decide +kernel
set_option maxRecDepth 20000 in
theorem ggX2_rank_X2_versionIn : GoodIn wsX2_rank wsX2_versionIn := goodIn_ca (goodIn_r _ [6, 1, 7, 8, 5, 9, 10, 11, 65, 66, 67, 68, 69, 70] (by decide +kernel) (by decide +kernel)) (goodIn_sub (fun _ h => List.mem_cons_of_mem _ (List.mem_append_right _ h)) (by decide +kernel))
set_option maxRecDepth 20000 in
theorem gX2_rank_X2_versionIn : GoodIn wsX2_rank (wsV RX2 112 RX2 yX2_versionIn wsX2_versionIn) := goodIn_app (goodIn_of _ (by decide +kernel)) ggX2_rank_X2_versionIn
set_option maxRecDepth 20000 in
theorem ggX2_rank_X1_orderTo : GoodIn wsX2_rank wsX1_orderTo := goodIn_r _ [16, 17, 18, 19, 15, 20, 21, 22, 23, 24, 25, 26, 27, 28, 29, 30, 31, 32, 33, 34, 35, 36, 37, 38, 39, 40, 41, 42, 43, 44, 45, 46, 47, 48, 49, 50, 51, 52, 53, 54, 55, 56, 57, 58, 59, 60, 5, 61, 62, 63, 64, 71, 72, 73, 74, 75, 76] (by decide +kernel) (by decide +kernel)
set_option maxRecDepth 20000 in
theorem gX2_rank_X1_orderTo : GoodIn wsX2_rank (wsV RX2 135 RX1 yX1_orderTo wsX1_orderTo) := goodIn_app (goodIn_of _ (by decide +kernel)) ggX2_rank_X1_orderTo
theorem dX2_rank_0 : decode cX2_rank 0 = .ok (.aload_n 0, 1) := by decide +kernel
theorem dX2_rank_1 : decode cX2_rank 1 = .ok (.iload_n 1, 1) := by decide +kernel
theorem dX2_rank_2 : decode cX2_rank 2 = .ok (.invokevirtual 112, 3) := by decide +kernel
theorem dX2_rank_5 : decode cX2_rank 5 = .ok (.astore_n 2, 1) := by decide +kernel
theorem dX2_rank_6 : decode cX2_rank 6 = .ok (.iconst 0, 1) := by decide +kernel
theorem dX2_rank_7 : decode cX2_rank 7 = .ok (.istore_n 3, 1) := by decide +kernel
theorem dX2_rank_8 : decode cX2_rank 8 = .ok (.iconst 0, 1) := by decide +kernel
theorem dX2_rank_9 : decode cX2_rank 9 = .ok (.istore 4, 2) := by decide +kernel
theorem dX2_rank_11 : decode cX2_rank 11 = .ok (.iload 4, 2) := by decide +kernel
theorem dX2_rank_13 : decode cX2_rank 13 = .ok (.bipush 8, 2) := by decide +kernel
theorem dX2_rank_15 : decode cX2_rank 15 = .ok (.if_icmp .ge 26, 3) := by decide +kernel
theorem dX2_rank_18 : decode cX2_rank 18 = .ok (.aload_n 0, 1) := by decide +kernel
theorem dX2_rank_19 : decode cX2_rank 19 = .ok (.getfield 18, 3) := by decide +kernel
theorem dX2_rank_22 : decode cX2_rank 22 = .ok (.iload 4, 2) := by decide +kernel
theorem dX2_rank_24 : decode cX2_rank 24 = .ok (.aaload, 1) := by decide +kernel
theorem dX2_rank_25 : decode cX2_rank 25 = .ok (.aload_n 2, 1) := by decide +kernel
theorem dX2_rank_26 : decode cX2_rank 26 = .ok (.invokevirtual 135, 3) := by decide +kernel
theorem dX2_rank_29 : decode cX2_rank 29 = .ok (.ifCond .ge 6, 3) := by decide +kernel
theorem dX2_rank_32 : decode cX2_rank 32 = .ok (.iinc 3 1, 3) := by decide +kernel
theorem dX2_rank_35 : decode cX2_rank 35 = .ok (.iinc 4 1, 3) := by decide +kernel
theorem dX2_rank_38 : decode cX2_rank 38 = .ok (.goto (-27), 3) := by decide +kernel
theorem dX2_rank_41 : decode cX2_rank 41 = .ok (.iload_n 3, 1) := by decide +kernel
theorem dX2_rank_42 : decode cX2_rank 42 = .ok (.ireturn, 1) := by decide +kernel
set_option maxRecDepth 20000 in
theorem ggX2_at_X2_orderSlots : GoodIn wsX2_at wsX2_orderSlots := goodIn_ca (goodIn_r _ [8, 9, 3, 10, 11, 12, 7, 13, 14, 15, 16, 1, 2, 17, 18, 19, 20, 21, 22, 23, 24, 25, 26, 27, 28, 29, 30, 31, 32, 33, 34, 35, 36, 37, 38, 39, 40, 41, 42, 43, 44, 45, 46, 47, 48, 49, 50, 51, 52, 53, 54, 55, 56, 57, 58, 59, 60, 61, 62, 63, 64, 65, 66, 67, 68, 69, 70, 71, 72, 73, 74, 75, 76, 77, 78, 79, 80, 81] (by decide +kernel) (by decide +kernel)) (goodIn_sub (fun _ h => List.mem_cons_of_mem _ (List.mem_append_right _ h)) (by decide +kernel))
set_option maxRecDepth 20000 in
theorem gX2_at_X2_orderSlots : GoodIn wsX2_at (wsV RX2 144 RX2 yX2_orderSlots wsX2_orderSlots) := goodIn_app (goodIn_of _ (by decide +kernel)) ggX2_at_X2_orderSlots
theorem dX2_at_0 : decode cX2_at 0 = .ok (.iload_n 1, 1) := by decide +kernel
theorem dX2_at_1 : decode cX2_at 1 = .ok (.ifCond .lt 9, 3) := by decide +kernel
theorem dX2_at_4 : decode cX2_at 4 = .ok (.iload_n 1, 1) := by decide +kernel
theorem dX2_at_5 : decode cX2_at 5 = .ok (.bipush 8, 2) := by decide +kernel
theorem dX2_at_7 : decode cX2_at 7 = .ok (.if_icmp .lt 13, 3) := by decide +kernel
theorem dX2_at_10 : decode cX2_at 10 = .ok (.new 126, 3) := by decide +kernel
theorem dX2_at_13 : decode cX2_at 13 = .ok (.dup, 1) := by decide +kernel
theorem dX2_at_14 : decode cX2_at 14 = .ok (.ldc 142, 2) := by decide +kernel
theorem dX2_at_16 : decode cX2_at 16 = .ok (.invokespecial 130, 3) := by decide +kernel
theorem dX2_at_19 : decode cX2_at 19 = .ok (.athrow, 1) := by decide +kernel
theorem dX2_at_20 : decode cX2_at 20 = .ok (.aload_n 0, 1) := by decide +kernel
theorem dX2_at_21 : decode cX2_at 21 = .ok (.invokevirtual 144, 3) := by decide +kernel
theorem dX2_at_24 : decode cX2_at 24 = .ok (.aload_n 0, 1) := by decide +kernel
theorem dX2_at_25 : decode cX2_at 25 = .ok (.getfield 25, 3) := by decide +kernel
theorem dX2_at_28 : decode cX2_at 28 = .ok (.iload_n 1, 1) := by decide +kernel
theorem dX2_at_29 : decode cX2_at 29 = .ok (.iaload, 1) := by decide +kernel
theorem dX2_at_30 : decode cX2_at 30 = .ok (.ireturn, 1) := by decide +kernel
set_option maxRecDepth 20000 in
theorem ggX2_sort_X2_orderSlots : GoodIn wsX2_sort wsX2_orderSlots := goodIn_ca (goodIn_r _ [8, 3, 2, 9, 10, 11, 7, 12, 13, 14, 15, 16, 17, 18, 19, 20, 21, 22, 23, 24, 25, 26, 27, 28, 29, 30, 31, 32, 33, 34, 35, 36, 37, 38, 39, 40, 41, 42, 43, 44, 45, 46, 47, 48, 49, 50, 51, 52, 53, 54, 55, 56, 57, 58, 59, 60, 61, 62, 63, 64, 65, 66, 67, 68, 69, 70, 71, 72, 73, 74, 75, 76, 77, 78, 79, 80, 81, 82] (by decide +kernel) (by decide +kernel)) (goodIn_sub (fun _ h => List.mem_cons_of_mem _ (List.mem_append_right _ h)) (by decide +kernel))
set_option maxRecDepth 20000 in
theorem gX2_sort_X2_orderSlots : GoodIn wsX2_sort (wsV RX2 144 RX2 yX2_orderSlots wsX2_orderSlots) := goodIn_app (goodIn_of _ (by decide +kernel)) ggX2_sort_X2_orderSlots
set_option maxRecDepth 20000 in
theorem ggX2_sort_X2_versionIn : GoodIn wsX2_sort wsX2_versionIn := goodIn_ca (goodIn_r _ [12, 3, 13, 14, 7, 15, 16, 17, 71, 72, 73, 74, 75, 76] (by decide +kernel) (by decide +kernel)) (goodIn_sub (fun _ h => List.mem_cons_of_mem _ (List.mem_append_right _ h)) (by decide +kernel))
set_option maxRecDepth 20000 in
theorem gX2_sort_X2_versionIn : GoodIn wsX2_sort (wsV RX2 112 RX2 yX2_versionIn wsX2_versionIn) := goodIn_app (goodIn_of _ (by decide +kernel)) ggX2_sort_X2_versionIn
theorem dX2_sort_0 : decode cX2_sort 0 = .ok (.aload_n 0, 1) := by decide +kernel
theorem dX2_sort_1 : decode cX2_sort 1 = .ok (.invokevirtual 144, 3) := by decide +kernel
theorem dX2_sort_4 : decode cX2_sort 4 = .ok (.iconst 0, 1) := by decide +kernel
theorem dX2_sort_5 : decode cX2_sort 5 = .ok (.istore_n 1, 1) := by decide +kernel
theorem dX2_sort_6 : decode cX2_sort 6 = .ok (.iconst 0, 1) := by decide +kernel
theorem dX2_sort_7 : decode cX2_sort 7 = .ok (.istore_n 2, 1) := by decide +kernel
theorem dX2_sort_8 : decode cX2_sort 8 = .ok (.iload_n 2, 1) := by decide +kernel
theorem dX2_sort_9 : decode cX2_sort 9 = .ok (.bipush 8, 2) := by decide +kernel
theorem dX2_sort_11 : decode cX2_sort 11 = .ok (.if_icmp .ge 38, 3) := by decide +kernel
theorem dX2_sort_14 : decode cX2_sort 14 = .ok (.aload_n 0, 1) := by decide +kernel
theorem dX2_sort_15 : decode cX2_sort 15 = .ok (.getfield 22, 3) := by decide +kernel
theorem dX2_sort_18 : decode cX2_sort 18 = .ok (.iload_n 2, 1) := by decide +kernel
theorem dX2_sort_19 : decode cX2_sort 19 = .ok (.aload_n 0, 1) := by decide +kernel
theorem dX2_sort_20 : decode cX2_sort 20 = .ok (.aload_n 0, 1) := by decide +kernel
theorem dX2_sort_21 : decode cX2_sort 21 = .ok (.getfield 25, 3) := by decide +kernel
theorem dX2_sort_24 : decode cX2_sort 24 = .ok (.iload_n 2, 1) := by decide +kernel
theorem dX2_sort_25 : decode cX2_sort 25 = .ok (.iaload, 1) := by decide +kernel
theorem dX2_sort_26 : decode cX2_sort 26 = .ok (.invokevirtual 112, 3) := by decide +kernel
theorem dX2_sort_29 : decode cX2_sort 29 = .ok (.aastore, 1) := by decide +kernel
theorem dX2_sort_30 : decode cX2_sort 30 = .ok (.aload_n 0, 1) := by decide +kernel
theorem dX2_sort_31 : decode cX2_sort 31 = .ok (.getfield 25, 3) := by decide +kernel
theorem dX2_sort_34 : decode cX2_sort 34 = .ok (.iload_n 2, 1) := by decide +kernel
theorem dX2_sort_35 : decode cX2_sort 35 = .ok (.iaload, 1) := by decide +kernel
theorem dX2_sort_36 : decode cX2_sort 36 = .ok (.iload_n 2, 1) := by decide +kernel
theorem dX2_sort_37 : decode cX2_sort 37 = .ok (.if_icmp .eq 6, 3) := by decide +kernel
theorem dX2_sort_40 : decode cX2_sort 40 = .ok (.iinc 1 1, 3) := by decide +kernel
theorem dX2_sort_43 : decode cX2_sort 43 = .ok (.iinc 2 1, 3) := by decide +kernel
theorem dX2_sort_46 : decode cX2_sort 46 = .ok (.goto (-38), 3) := by decide +kernel
theorem dX2_sort_49 : decode cX2_sort 49 = .ok (.iconst 0, 1) := by decide +kernel
theorem dX2_sort_50 : decode cX2_sort 50 = .ok (.istore_n 2, 1) := by decide +kernel
theorem dX2_sort_51 : decode cX2_sort 51 = .ok (.iload_n 2, 1) := by decide +kernel
theorem dX2_sort_52 : decode cX2_sort 52 = .ok (.bipush 8, 2) := by decide +kernel
theorem dX2_sort_54 : decode cX2_sort 54 = .ok (.if_icmp .ge 21, 3) := by decide +kernel
theorem dX2_sort_57 : decode cX2_sort 57 = .ok (.aload_n 0, 1) := by decide +kernel
theorem dX2_sort_58 : decode cX2_sort 58 = .ok (.getfield 18, 3) := by decide +kernel
theorem dX2_sort_61 : decode cX2_sort 61 = .ok (.iload_n 2, 1) := by decide +kernel
theorem dX2_sort_62 : decode cX2_sort 62 = .ok (.aload_n 0, 1) := by decide +kernel
theorem dX2_sort_63 : decode cX2_sort 63 = .ok (.getfield 22, 3) := by decide +kernel
theorem dX2_sort_66 : decode cX2_sort 66 = .ok (.iload_n 2, 1) := by decide +kernel
theorem dX2_sort_67 : decode cX2_sort 67 = .ok (.aaload, 1) := by decide +kernel
theorem dX2_sort_68 : decode cX2_sort 68 = .ok (.aastore, 1) := by decide +kernel
theorem dX2_sort_69 : decode cX2_sort 69 = .ok (.iinc 2 1, 3) := by decide +kernel
theorem dX2_sort_72 : decode cX2_sort 72 = .ok (.goto (-21), 3) := by decide +kernel
theorem dX2_sort_75 : decode cX2_sort 75 = .ok (.iload_n 1, 1) := by decide +kernel
theorem dX2_sort_76 : decode cX2_sort 76 = .ok (.ireturn, 1) := by decide +kernel
set_option maxRecDepth 20000 in
theorem ggX2_between_X2_versionIn : GoodIn wsX2_between wsX2_versionIn := goodIn_ca (goodIn_r _ [6, 1, 7, 8, 5, 9, 10, 11, 65, 66, 67, 68, 69, 70] (by decide +kernel) (by decide +kernel)) (goodIn_sub (fun _ h => List.mem_cons_of_mem _ (List.mem_append_right _ h)) (by decide +kernel))
set_option maxRecDepth 20000 in
theorem gX2_between_X2_versionIn : GoodIn wsX2_between (wsV RX2 112 RX2 yX2_versionIn wsX2_versionIn) := goodIn_app (goodIn_of _ (by decide +kernel)) ggX2_between_X2_versionIn
set_option maxRecDepth 20000 in
theorem ggX2_between_X1_orderTo : GoodIn wsX2_between wsX1_orderTo := goodIn_r _ [16, 17, 18, 19, 15, 20, 21, 22, 23, 24, 25, 26, 27, 28, 29, 30, 31, 32, 33, 34, 35, 36, 37, 38, 39, 40, 41, 42, 43, 44, 45, 46, 47, 48, 49, 50, 51, 52, 53, 54, 55, 56, 57, 58, 59, 60, 5, 61, 62, 63, 64, 71, 72, 73, 74, 75, 76] (by decide +kernel) (by decide +kernel)
set_option maxRecDepth 20000 in
theorem gX2_between_X1_orderTo : GoodIn wsX2_between (wsV RX2 135 RX1 yX1_orderTo wsX1_orderTo) := goodIn_app (goodIn_of _ (by decide +kernel)) ggX2_between_X1_orderTo
theorem dX2_between_0 : decode cX2_between 0 = .ok (.aload_n 0, 1) := by decide +kernel
theorem dX2_between_1 : decode cX2_between 1 = .ok (.iload_n 1, 1) := by decide +kernel
theorem dX2_between_2 : decode cX2_between 2 = .ok (.invokevirtual 112, 3) := by decide +kernel
theorem dX2_between_5 : decode cX2_between 5 = .ok (.astore_n 3, 1) := by decide +kernel
theorem dX2_between_6 : decode cX2_between 6 = .ok (.aload_n 0, 1) := by decide +kernel
theorem dX2_between_7 : decode cX2_between 7 = .ok (.iload_n 2, 1) := by decide +kernel
theorem dX2_between_8 : decode cX2_between 8 = .ok (.invokevirtual 112, 3) := by decide +kernel
theorem dX2_between_11 : decode cX2_between 11 = .ok (.astore 4, 2) := by decide +kernel
theorem dX2_between_13 : decode cX2_between 13 = .ok (.iconst 0, 1) := by decide +kernel
theorem dX2_between_14 : decode cX2_between 14 = .ok (.istore 5, 2) := by decide +kernel
theorem dX2_between_16 : decode cX2_between 16 = .ok (.iconst 0, 1) := by decide +kernel
theorem dX2_between_17 : decode cX2_between 17 = .ok (.istore 6, 2) := by decide +kernel
theorem dX2_between_19 : decode cX2_between 19 = .ok (.iload 6, 2) := by decide +kernel
theorem dX2_between_21 : decode cX2_between 21 = .ok (.bipush 8, 2) := by decide +kernel
theorem dX2_between_23 : decode cX2_between 23 = .ok (.if_icmp .ge 41, 3) := by decide +kernel
theorem dX2_between_26 : decode cX2_between 26 = .ok (.aload_n 0, 1) := by decide +kernel
theorem dX2_between_27 : decode cX2_between 27 = .ok (.getfield 18, 3) := by decide +kernel
theorem dX2_between_30 : decode cX2_between 30 = .ok (.iload 6, 2) := by decide +kernel
theorem dX2_between_32 : decode cX2_between 32 = .ok (.aaload, 1) := by decide +kernel
theorem dX2_between_33 : decode cX2_between 33 = .ok (.aload_n 3, 1) := by decide +kernel
theorem dX2_between_34 : decode cX2_between 34 = .ok (.invokevirtual 135, 3) := by decide +kernel
theorem dX2_between_37 : decode cX2_between 37 = .ok (.ifCond .lt 21, 3) := by decide +kernel
theorem dX2_between_40 : decode cX2_between 40 = .ok (.aload_n 0, 1) := by decide +kernel
theorem dX2_between_41 : decode cX2_between 41 = .ok (.getfield 18, 3) := by decide +kernel
theorem dX2_between_44 : decode cX2_between 44 = .ok (.iload 6, 2) := by decide +kernel
theorem dX2_between_46 : decode cX2_between 46 = .ok (.aaload, 1) := by decide +kernel
theorem dX2_between_47 : decode cX2_between 47 = .ok (.aload 4, 2) := by decide +kernel
theorem dX2_between_49 : decode cX2_between 49 = .ok (.invokevirtual 135, 3) := by decide +kernel
theorem dX2_between_52 : decode cX2_between 52 = .ok (.ifCond .ge 6, 3) := by decide +kernel
theorem dX2_between_55 : decode cX2_between 55 = .ok (.iinc 5 1, 3) := by decide +kernel
theorem dX2_between_58 : decode cX2_between 58 = .ok (.iinc 6 1, 3) := by decide +kernel
theorem dX2_between_61 : decode cX2_between 61 = .ok (.goto (-42), 3) := by decide +kernel
theorem dX2_between_64 : decode cX2_between 64 = .ok (.iload 5, 2) := by decide +kernel
theorem dX2_between_66 : decode cX2_between 66 = .ok (.ireturn, 1) := by decide +kernel
set_option maxRecDepth 20000 in
theorem ggX2_zero_X2_versionIn : GoodIn wsX2_zero wsX2_versionIn := goodIn_ca (goodIn_r _ [6, 7, 8, 9, 5, 10, 11, 12, 132, 133, 134, 135, 136, 137] (by decide +kernel) (by decide +kernel)) (goodIn_sub (fun _ h => List.mem_cons_of_mem _ (List.mem_append_left _ (List.mem_append_right _ h))) (by decide +kernel))
set_option maxRecDepth 20000 in
theorem gX2_zero_X2_versionIn : GoodIn wsX2_zero (wsV RX2 112 RX2 yX2_versionIn wsX2_versionIn) := goodIn_app (goodIn_of _ (by decide +kernel)) ggX2_zero_X2_versionIn
set_option maxRecDepth 20000 in
theorem ggX2_zero_X2_checkSlot : GoodIn wsX2_zero wsX2_checkSlot := goodIn_ca (goodIn_r _ [10, 11, 12] (by decide +kernel) (by decide +kernel)) (goodIn_sub (fun _ h => List.mem_cons_of_mem _ (List.mem_append_left _ (List.mem_append_right _ h))) (by decide +kernel))
set_option maxRecDepth 20000 in
theorem gX2_zero_X2_checkSlot : GoodIn wsX2_zero (va_wsS RX2 91 yX2_checkSlot wsX2_checkSlot) := goodIn_app (goodIn_of _ (by decide +kernel)) ggX2_zero_X2_checkSlot
set_option maxRecDepth 20000 in
theorem ggX2_zero_X2_digitsOf : GoodIn wsX2_zero wsX2_digitsOf := goodIn_r _ [15] (by decide +kernel) (by decide +kernel)
set_option maxRecDepth 20000 in
theorem gX2_zero_X2_digitsOf : GoodIn wsX2_zero (va_wsS RX2 62 yX2_digitsOf wsX2_digitsOf) := goodIn_app (goodIn_of _ (by decide +kernel)) ggX2_zero_X2_digitsOf
set_option maxRecDepth 20000 in
theorem ggX2_zero_X2_checkRoom : GoodIn wsX2_zero wsX2_checkRoom := goodIn_ca (goodIn_r _ [18, 19, 20, 21, 22, 23, 24, 25, 26, 138, 139] (by decide +kernel) (by decide +kernel)) (goodIn_sub (fun _ h => List.mem_cons_of_mem _ (List.mem_append_right _ h)) (by decide +kernel))
set_option maxRecDepth 20000 in
theorem gX2_zero_X2_checkRoom : GoodIn wsX2_zero (va_wsS RX2 147 yX2_checkRoom wsX2_checkRoom) := goodIn_app (goodIn_of _ (by decide +kernel)) ggX2_zero_X2_checkRoom
set_option maxRecDepth 20000 in
theorem ggX2_zero_X2_parseWithNumberBehind : GoodIn wsX2_zero wsX2_parseWithNumberBehind := goodIn_r _ [30, 1, 31, 32, 33, 34, 35, 36, 37, 38, 39, 24, 40, 26, 41, 42, 43, 44, 45, 22, 23, 25, 46, 47, 48, 49, 50, 51, 52, 53, 54, 55, 56, 57, 58, 59, 60, 61, 62, 63, 64, 65, 66, 67, 68, 5, 69, 70, 71, 72, 73, 74, 75, 76, 77, 78, 79, 80, 81, 82, 83, 84, 85, 86, 87, 88, 89, 90, 132, 133, 134, 135, 136, 137, 128, 129, 130, 131, 138, 139] (by decide +kernel) (by decide +kernel)
set_option maxRecDepth 20000 in
theorem gX2_zero_X2_parseWithNumberBehind : GoodIn wsX2_zero (wsV RX2 150 RX2 yX2_parseWithNumberBehind wsX2_parseWithNumberBehind) := goodIn_app (goodIn_of _ (by decide +kernel)) ggX2_zero_X2_parseWithNumberBehind
set_option maxRecDepth 20000 in
theorem ggX2_zero_X1_orderTo : GoodIn wsX2_zero wsX1_orderTo := goodIn_r _ [94, 95, 96, 97, 34, 98, 99, 100, 101, 102, 103, 104, 105, 106, 79, 80, 81, 82, 65, 107, 108, 109, 110, 78, 87, 88, 89, 90, 111, 112, 113, 114, 36, 115, 116, 117, 118, 77, 67, 47, 48, 24, 49, 26, 50, 119, 5, 120, 121, 122, 123, 128, 129, 130, 131, 138, 139] (by decide +kernel) (by decide +kernel)
set_option maxRecDepth 20000 in
theorem gX2_zero_X1_orderTo : GoodIn wsX2_zero (wsV RX2 135 RX1 yX1_orderTo wsX1_orderTo) := goodIn_app (goodIn_of _ (by decide +kernel)) ggX2_zero_X1_orderTo
set_option maxRecDepth 20000 in
theorem ggX2_zero_X2_exchangeSpare : GoodIn wsX2_zero wsX2_exchangeSpare := goodIn_ca (goodIn_r _ [127, 1, 7, 2, 3, 4, 5, 6, 8, 9, 10, 11, 12, 91, 92, 93, 34, 94, 95, 96, 97, 98, 99, 100, 101, 102, 103, 104, 105, 106, 79, 80, 81, 82, 65, 107, 108, 109, 110, 78, 87, 88, 89, 90, 111, 112, 113, 114, 36, 115, 116, 117, 118, 77, 67, 47, 48, 24, 49, 26, 50, 119, 120, 121, 122, 123, 132, 133, 134, 135, 136, 137, 128, 129, 130, 131, 138, 139] (by decide +kernel) (by decide +kernel)) (goodIn_sub (fun _ h => List.mem_cons_of_mem _ (List.mem_append_left _ (List.mem_append_right _ h))) (by decide +kernel))
set_option maxRecDepth 20000 in
theorem gX2_zero_X2_exchangeSpare : GoodIn wsX2_zero (wsV RX2 103 RX2 yX2_exchangeSpare wsX2_exchangeSpare) := goodIn_app (goodIn_of _ (by decide +kernel)) ggX2_zero_X2_exchangeSpare
theorem dX2_zero_0 : decode cX2_zero 0 = .ok (.aload_n 0, 1) := by decide +kernel
theorem dX2_zero_1 : decode cX2_zero 1 = .ok (.iload_n 1, 1) := by decide +kernel
theorem dX2_zero_2 : decode cX2_zero 2 = .ok (.invokevirtual 112, 3) := by decide +kernel
theorem dX2_zero_5 : decode cX2_zero 5 = .ok (.astore_n 3, 1) := by decide +kernel
theorem dX2_zero_6 : decode cX2_zero 6 = .ok (.iload_n 2, 1) := by decide +kernel
theorem dX2_zero_7 : decode cX2_zero 7 = .ok (.invokestatic 91, 3) := by decide +kernel
theorem dX2_zero_10 : decode cX2_zero 10 = .ok (.aload_n 3, 1) := by decide +kernel
theorem dX2_zero_11 : decode cX2_zero 11 = .ok (.getfield 106, 3) := by decide +kernel
theorem dX2_zero_14 : decode cX2_zero 14 = .ok (.iconst 1, 1) := by decide +kernel
theorem dX2_zero_15 : decode cX2_zero 15 = .ok (.iconst 0, 1) := by decide +kernel
theorem dX2_zero_16 : decode cX2_zero 16 = .ok (.invokestatic 62, 3) := by decide +kernel
theorem dX2_zero_19 : decode cX2_zero 19 = .ok (.iadd, 1) := by decide +kernel
theorem dX2_zero_20 : decode cX2_zero 20 = .ok (.invokestatic 147, 3) := by decide +kernel
theorem dX2_zero_23 : decode cX2_zero 23 = .ok (.aload_n 0, 1) := by decide +kernel
theorem dX2_zero_24 : decode cX2_zero 24 = .ok (.aload_n 3, 1) := by decide +kernel
theorem dX2_zero_25 : decode cX2_zero 25 = .ok (.bipush 46, 2) := by decide +kernel
theorem dX2_zero_27 : decode cX2_zero 27 = .ok (.iconst 0, 1) := by decide +kernel
theorem dX2_zero_28 : decode cX2_zero 28 = .ok (.invokevirtual 150, 3) := by decide +kernel
theorem dX2_zero_31 : decode cX2_zero 31 = .ok (.aload_n 0, 1) := by decide +kernel
theorem dX2_zero_32 : decode cX2_zero 32 = .ok (.getfield 33, 3) := by decide +kernel
theorem dX2_zero_35 : decode cX2_zero 35 = .ok (.aload_n 3, 1) := by decide +kernel
theorem dX2_zero_36 : decode cX2_zero 36 = .ok (.invokevirtual 135, 3) := by decide +kernel
theorem dX2_zero_39 : decode cX2_zero 39 = .ok (.ifCond .ne 7, 3) := by decide +kernel
theorem dX2_zero_42 : decode cX2_zero 42 = .ok (.iconst 1, 1) := by decide +kernel
theorem dX2_zero_43 : decode cX2_zero 43 = .ok (.goto 4, 3) := by decide +kernel
theorem dX2_zero_46 : decode cX2_zero 46 = .ok (.iconst 0, 1) := by decide +kernel
theorem dX2_zero_47 : decode cX2_zero 47 = .ok (.istore 4, 2) := by decide +kernel
theorem dX2_zero_49 : decode cX2_zero 49 = .ok (.aload_n 0, 1) := by decide +kernel
theorem dX2_zero_50 : decode cX2_zero 50 = .ok (.iload_n 2, 1) := by decide +kernel
theorem dX2_zero_51 : decode cX2_zero 51 = .ok (.invokevirtual 103, 3) := by decide +kernel
theorem dX2_zero_54 : decode cX2_zero 54 = .ok (.pop, 1) := by decide +kernel
theorem dX2_zero_55 : decode cX2_zero 55 = .ok (.iload 4, 2) := by decide +kernel
theorem dX2_zero_57 : decode cX2_zero 57 = .ok (.ireturn, 1) := by decide +kernel
set_option maxRecDepth 20000 in
theorem ggX2_longer_X2_versionIn : GoodIn wsX2_longer wsX2_versionIn := goodIn_ca (goodIn_r _ [6, 7, 8, 9, 5, 10, 11, 12, 137, 138, 139, 140, 141, 142] (by decide +kernel) (by decide +kernel)) (goodIn_sub (fun _ h => List.mem_cons_of_mem _ (List.mem_append_left _ (List.mem_append_left _ (List.mem_append_right _ h)))) (by decide +kernel))
set_option maxRecDepth 20000 in
theorem gX2_longer_X2_versionIn : GoodIn wsX2_longer (wsV RX2 112 RX2 yX2_versionIn wsX2_versionIn) := goodIn_app (goodIn_of _ (by decide +kernel)) ggX2_longer_X2_versionIn
set_option maxRecDepth 20000 in
theorem ggX2_longer_X2_checkSlot : GoodIn wsX2_longer wsX2_checkSlot := goodIn_ca (goodIn_r _ [10, 11, 12] (by decide +kernel) (by decide +kernel)) (goodIn_sub (fun _ h => List.mem_cons_of_mem _ (List.mem_append_left _ (List.mem_append_left _ (List.mem_append_right _ h)))) (by decide +kernel))
set_option maxRecDepth 20000 in
theorem gX2_longer_X2_checkSlot : GoodIn wsX2_longer (va_wsS RX2 91 yX2_checkSlot wsX2_checkSlot) := goodIn_app (goodIn_of _ (by decide +kernel)) ggX2_longer_X2_checkSlot
set_option maxRecDepth 20000 in
theorem ggX2_longer_X2_checkNumber : GoodIn wsX2_longer wsX2_checkNumber := goodIn_ca (goodIn_r _ [15, 16, 17] (by decide +kernel) (by decide +kernel)) (goodIn_sub (fun _ h => List.mem_cons_of_mem _ (List.mem_append_left _ (List.mem_append_right _ h))) (by decide +kernel))
set_option maxRecDepth 20000 in
theorem gX2_longer_X2_checkNumber : GoodIn wsX2_longer (va_wsS RX2 38 yX2_checkNumber wsX2_checkNumber) := goodIn_app (goodIn_of _ (by decide +kernel)) ggX2_longer_X2_checkNumber
set_option maxRecDepth 20000 in
theorem ggX2_longer_X2_digitsOf : GoodIn wsX2_longer wsX2_digitsOf := goodIn_r _ [20] (by decide +kernel) (by decide +kernel)
set_option maxRecDepth 20000 in
theorem gX2_longer_X2_digitsOf : GoodIn wsX2_longer (va_wsS RX2 62 yX2_digitsOf wsX2_digitsOf) := goodIn_app (goodIn_of _ (by decide +kernel)) ggX2_longer_X2_digitsOf
set_option maxRecDepth 20000 in
theorem ggX2_longer_X2_checkRoom : GoodIn wsX2_longer wsX2_checkRoom := goodIn_ca (goodIn_r _ [23, 24, 25, 26, 27, 28, 29, 30, 31, 143, 144] (by decide +kernel) (by decide +kernel)) (goodIn_sub (fun _ h => List.mem_cons_of_mem _ (List.mem_append_right _ h)) (by decide +kernel))
set_option maxRecDepth 20000 in
theorem gX2_longer_X2_checkRoom : GoodIn wsX2_longer (va_wsS RX2 147 yX2_checkRoom wsX2_checkRoom) := goodIn_app (goodIn_of _ (by decide +kernel)) ggX2_longer_X2_checkRoom
set_option maxRecDepth 20000 in
theorem ggX2_longer_X2_parseWithNumberBehind : GoodIn wsX2_longer wsX2_parseWithNumberBehind := goodIn_r _ [35, 1, 36, 37, 38, 39, 40, 41, 42, 43, 44, 29, 45, 31, 46, 47, 48, 49, 50, 27, 28, 30, 51, 52, 53, 54, 55, 56, 57, 58, 59, 60, 61, 62, 63, 64, 65, 66, 67, 68, 69, 70, 71, 72, 73, 5, 74, 75, 76, 77, 78, 79, 80, 81, 82, 83, 84, 85, 86, 87, 88, 89, 90, 91, 92, 93, 94, 95, 137, 138, 139, 140, 141, 142, 133, 134, 135, 136, 143, 144] (by decide +kernel) (by decide +kernel)
set_option maxRecDepth 20000 in
theorem gX2_longer_X2_parseWithNumberBehind : GoodIn wsX2_longer (wsV RX2 150 RX2 yX2_parseWithNumberBehind wsX2_parseWithNumberBehind) := goodIn_app (goodIn_of _ (by decide +kernel)) ggX2_longer_X2_parseWithNumberBehind
set_option maxRecDepth 20000 in
theorem ggX2_longer_X1_orderTo : GoodIn wsX2_longer wsX1_orderTo := goodIn_r _ [99, 100, 101, 102, 39, 103, 104, 105, 106, 107, 108, 109, 110, 111, 84, 85, 86, 87, 70, 112, 113, 114, 115, 83, 92, 93, 94, 95, 116, 117, 118, 119, 41, 120, 121, 122, 123, 82, 72, 52, 53, 29, 54, 31, 55, 124, 5, 125, 126, 127, 128, 133, 134, 135, 136, 143, 144] (by decide +kernel) (by decide +kernel)
set_option maxRecDepth 20000 in
theorem gX2_longer_X1_orderTo : GoodIn wsX2_longer (wsV RX2 135 RX1 yX1_orderTo wsX1_orderTo) := goodIn_app (goodIn_of _ (by decide +kernel)) ggX2_longer_X1_orderTo
set_option maxRecDepth 20000 in
theorem ggX2_longer_X2_exchangeSpare : GoodIn wsX2_longer wsX2_exchangeSpare := goodIn_ca (goodIn_r _ [132, 1, 7, 2, 3, 4, 5, 6, 8, 9, 10, 11, 12, 96, 97, 98, 39, 99, 100, 101, 102, 103, 104, 105, 106, 107, 108, 109, 110, 111, 84, 85, 86, 87, 70, 112, 113, 114, 115, 83, 92, 93, 94, 95, 116, 117, 118, 119, 41, 120, 121, 122, 123, 82, 72, 52, 53, 29, 54, 31, 55, 124, 125, 126, 127, 128, 137, 138, 139, 140, 141, 142, 133, 134, 135, 136, 143, 144] (by decide +kernel) (by decide +kernel)) (goodIn_sub (fun _ h => List.mem_cons_of_mem _ (List.mem_append_left _ (List.mem_append_left _ (List.mem_append_right _ h)))) (by decide +kernel))
set_option maxRecDepth 20000 in
theorem gX2_longer_X2_exchangeSpare : GoodIn wsX2_longer (wsV RX2 103 RX2 yX2_exchangeSpare wsX2_exchangeSpare) := goodIn_app (goodIn_of _ (by decide +kernel)) ggX2_longer_X2_exchangeSpare
theorem dX2_longer_0 : decode cX2_longer 0 = .ok (.aload_n 0, 1) := by decide +kernel
theorem dX2_longer_1 : decode cX2_longer 1 = .ok (.iload_n 1, 1) := by decide +kernel
theorem dX2_longer_2 : decode cX2_longer 2 = .ok (.invokevirtual 112, 3) := by decide +kernel
theorem dX2_longer_5 : decode cX2_longer 5 = .ok (.astore 4, 2) := by decide +kernel
theorem dX2_longer_7 : decode cX2_longer 7 = .ok (.iload_n 3, 1) := by decide +kernel
theorem dX2_longer_8 : decode cX2_longer 8 = .ok (.invokestatic 91, 3) := by decide +kernel
theorem dX2_longer_11 : decode cX2_longer 11 = .ok (.iload_n 2, 1) := by decide +kernel
theorem dX2_longer_12 : decode cX2_longer 12 = .ok (.iconst 1, 1) := by decide +kernel
theorem dX2_longer_13 : decode cX2_longer 13 = .ok (.sipush 999, 3) := by decide +kernel
theorem dX2_longer_16 : decode cX2_longer 16 = .ok (.invokestatic 38, 3) := by decide +kernel
theorem dX2_longer_19 : decode cX2_longer 19 = .ok (.aload 4, 2) := by decide +kernel
theorem dX2_longer_21 : decode cX2_longer 21 = .ok (.getfield 106, 3) := by decide +kernel
theorem dX2_longer_24 : decode cX2_longer 24 = .ok (.iconst 1, 1) := by decide +kernel
theorem dX2_longer_25 : decode cX2_longer 25 = .ok (.iload_n 2, 1) := by decide +kernel
theorem dX2_longer_26 : decode cX2_longer 26 = .ok (.invokestatic 62, 3) := by decide +kernel
theorem dX2_longer_29 : decode cX2_longer 29 = .ok (.iadd, 1) := by decide +kernel
theorem dX2_longer_30 : decode cX2_longer 30 = .ok (.invokestatic 147, 3) := by decide +kernel
theorem dX2_longer_33 : decode cX2_longer 33 = .ok (.aload_n 0, 1) := by decide +kernel
theorem dX2_longer_34 : decode cX2_longer 34 = .ok (.aload 4, 2) := by decide +kernel
theorem dX2_longer_36 : decode cX2_longer 36 = .ok (.bipush 46, 2) := by decide +kernel
theorem dX2_longer_38 : decode cX2_longer 38 = .ok (.iload_n 2, 1) := by decide +kernel
theorem dX2_longer_39 : decode cX2_longer 39 = .ok (.invokevirtual 150, 3) := by decide +kernel
theorem dX2_longer_42 : decode cX2_longer 42 = .ok (.aload_n 0, 1) := by decide +kernel
theorem dX2_longer_43 : decode cX2_longer 43 = .ok (.getfield 33, 3) := by decide +kernel
theorem dX2_longer_46 : decode cX2_longer 46 = .ok (.aload 4, 2) := by decide +kernel
theorem dX2_longer_48 : decode cX2_longer 48 = .ok (.invokevirtual 135, 3) := by decide +kernel
theorem dX2_longer_51 : decode cX2_longer 51 = .ok (.ifCond .le 7, 3) := by decide +kernel
theorem dX2_longer_54 : decode cX2_longer 54 = .ok (.iconst 1, 1) := by decide +kernel
theorem dX2_longer_55 : decode cX2_longer 55 = .ok (.goto 4, 3) := by decide +kernel
theorem dX2_longer_58 : decode cX2_longer 58 = .ok (.iconst 0, 1) := by decide +kernel
theorem dX2_longer_59 : decode cX2_longer 59 = .ok (.istore 5, 2) := by decide +kernel
theorem dX2_longer_61 : decode cX2_longer 61 = .ok (.aload_n 0, 1) := by decide +kernel
theorem dX2_longer_62 : decode cX2_longer 62 = .ok (.iload_n 3, 1) := by decide +kernel
theorem dX2_longer_63 : decode cX2_longer 63 = .ok (.invokevirtual 103, 3) := by decide +kernel
theorem dX2_longer_66 : decode cX2_longer 66 = .ok (.pop, 1) := by decide +kernel
theorem dX2_longer_67 : decode cX2_longer 67 = .ok (.iload 5, 2) := by decide +kernel
theorem dX2_longer_69 : decode cX2_longer 69 = .ok (.ireturn, 1) := by decide +kernel
set_option maxRecDepth 20000 in
theorem ggX2_early_X2_versionIn : GoodIn wsX2_early wsX2_versionIn := goodIn_ca (goodIn_r _ [10, 11, 12, 13, 9, 14, 15, 16, 127, 128, 129, 130, 131, 132] (by decide +kernel) (by decide +kernel)) (goodIn_sub (fun _ h => List.mem_cons_of_mem _ (List.mem_append_right _ h)) (by decide +kernel))
set_option maxRecDepth 20000 in
theorem gX2_early_X2_versionIn : GoodIn wsX2_early (wsV RX2 112 RX2 yX2_versionIn wsX2_versionIn) := goodIn_app (goodIn_of _ (by decide +kernel)) ggX2_early_X2_versionIn
set_option maxRecDepth 20000 in
theorem ggX2_early_X2_checkSlot : GoodIn wsX2_early wsX2_checkSlot := goodIn_ca (goodIn_r _ [14, 15, 16] (by decide +kernel) (by decide +kernel)) (goodIn_sub (fun _ h => List.mem_cons_of_mem _ (List.mem_append_right _ h)) (by decide +kernel))
set_option maxRecDepth 20000 in
theorem gX2_early_X2_checkSlot : GoodIn wsX2_early (va_wsS RX2 91 yX2_checkSlot wsX2_checkSlot) := goodIn_app (goodIn_of _ (by decide +kernel)) ggX2_early_X2_checkSlot
set_option maxRecDepth 20000 in
theorem ggX2_early_X1_hasRow : GoodIn wsX2_early wsX1_hasRow := goodIn_r _ [21, 22, 23, 24, 20, 25, 26, 123, 124, 125, 126] (by decide +kernel) (by decide +kernel)
set_option maxRecDepth 20000 in
theorem gX2_early_X1_hasRow : GoodIn wsX2_early (wsV RX2 156 RX1 yX1_hasRow wsX1_hasRow) := goodIn_app (goodIn_of _ (by decide +kernel)) ggX2_early_X1_hasRow
set_option maxRecDepth 20000 in
theorem ggX2_early_X2_checkRoom : GoodIn wsX2_early wsX2_checkRoom := goodIn_ca (goodIn_r _ [29, 3, 4, 30, 31, 32, 33, 34, 35, 133, 134] (by decide +kernel) (by decide +kernel)) (goodIn_sub (fun _ h => List.mem_cons_of_mem _ (List.mem_append_left _ (List.mem_append_right _ h))) (by decide +kernel))
set_option maxRecDepth 20000 in
theorem gX2_early_X2_checkRoom : GoodIn wsX2_early (va_wsS RX2 147 yX2_checkRoom wsX2_checkRoom) := goodIn_app (goodIn_of _ (by decide +kernel)) ggX2_early_X2_checkRoom
set_option maxRecDepth 20000 in
theorem ggX2_early_X2_parseWithLetterBehind : GoodIn wsX2_early wsX2_parseWithLetterBehind := goodIn_r _ [39, 5, 40, 41, 42, 20, 43, 44, 45, 46, 47, 33, 48, 35, 49, 50, 51, 52, 53, 31, 32, 34, 54, 55, 56, 57, 58, 59, 60, 61, 62, 63, 64, 65, 66, 67, 26, 68, 69, 70, 9, 71, 72, 73, 74, 75, 76, 77, 78, 79, 80, 22, 23, 24, 25, 81, 82, 83, 84, 85, 86, 87, 88, 127, 128, 129, 130, 131, 132, 123, 124, 125, 126, 133, 134] (by decide +kernel) (by decide +kernel)
set_option maxRecDepth 20000 in
theorem gX2_early_X2_parseWithLetterBehind : GoodIn wsX2_early (wsV RX2 165 RX2 yX2_parseWithLetterBehind wsX2_parseWithLetterBehind) := goodIn_app (goodIn_of _ (by decide +kernel)) ggX2_early_X2_parseWithLetterBehind
set_option maxRecDepth 20000 in
theorem ggX2_early_X1_orderTo : GoodIn wsX2_early wsX1_orderTo := goodIn_r _ [92, 93, 94, 95, 20, 96, 97, 98, 99, 100, 101, 18, 19, 21, 22, 23, 24, 25, 26, 102, 103, 104, 105, 80, 85, 86, 87, 88, 106, 107, 108, 109, 44, 110, 111, 112, 113, 79, 69, 55, 56, 33, 57, 35, 58, 114, 9, 115, 116, 117, 118, 123, 124, 125, 126, 133, 134] (by decide +kernel) (by decide +kernel)
set_option maxRecDepth 20000 in
theorem gX2_early_X1_orderTo : GoodIn wsX2_early (wsV RX2 135 RX1 yX1_orderTo wsX1_orderTo) := goodIn_app (goodIn_of _ (by decide +kernel)) ggX2_early_X1_orderTo
set_option maxRecDepth 20000 in
theorem ggX2_early_X2_exchangeSpare : GoodIn wsX2_early wsX2_exchangeSpare := goodIn_ca (goodIn_r _ [122, 5, 11, 6, 7, 8, 9, 10, 12, 13, 14, 15, 16, 89, 90, 91, 20, 92, 93, 94, 95, 96, 97, 98, 99, 100, 101, 18, 19, 21, 22, 23, 24, 25, 26, 102, 103, 104, 105, 80, 85, 86, 87, 88, 106, 107, 108, 109, 44, 110, 111, 112, 113, 79, 69, 55, 56, 33, 57, 35, 58, 114, 115, 116, 117, 118, 127, 128, 129, 130, 131, 132, 123, 124, 125, 126, 133, 134] (by decide +kernel) (by decide +kernel)) (goodIn_sub (fun _ h => List.mem_cons_of_mem _ (List.mem_append_right _ h)) (by decide +kernel))
set_option maxRecDepth 20000 in
theorem gX2_early_X2_exchangeSpare : GoodIn wsX2_early (wsV RX2 103 RX2 yX2_exchangeSpare wsX2_exchangeSpare) := goodIn_app (goodIn_of _ (by decide +kernel)) ggX2_early_X2_exchangeSpare
theorem dX2_early_0 : decode cX2_early 0 = .ok (.aload_n 0, 1) := by decide +kernel
theorem dX2_early_1 : decode cX2_early 1 = .ok (.iload_n 1, 1) := by decide +kernel
theorem dX2_early_2 : decode cX2_early 2 = .ok (.invokevirtual 112, 3) := by decide +kernel
theorem dX2_early_5 : decode cX2_early 5 = .ok (.astore 4, 2) := by decide +kernel
theorem dX2_early_7 : decode cX2_early 7 = .ok (.iload_n 3, 1) := by decide +kernel
theorem dX2_early_8 : decode cX2_early 8 = .ok (.invokestatic 91, 3) := by decide +kernel
theorem dX2_early_11 : decode cX2_early 11 = .ok (.iload_n 2, 1) := by decide +kernel
theorem dX2_early_12 : decode cX2_early 12 = .ok (.bipush 97, 2) := by decide +kernel
theorem dX2_early_14 : decode cX2_early 14 = .ok (.if_icmp .lt 9, 3) := by decide +kernel
theorem dX2_early_17 : decode cX2_early 17 = .ok (.iload_n 2, 1) := by decide +kernel
theorem dX2_early_18 : decode cX2_early 18 = .ok (.bipush 122, 2) := by decide +kernel
theorem dX2_early_20 : decode cX2_early 20 = .ok (.if_icmp .le 13, 3) := by decide +kernel
theorem dX2_early_23 : decode cX2_early 23 = .ok (.new 73, 3) := by decide +kernel
theorem dX2_early_26 : decode cX2_early 26 = .ok (.dup, 1) := by decide +kernel
theorem dX2_early_27 : decode cX2_early 27 = .ok (.ldc 154, 2) := by decide +kernel
theorem dX2_early_29 : decode cX2_early 29 = .ok (.invokespecial 77, 3) := by decide +kernel
theorem dX2_early_32 : decode cX2_early 32 = .ok (.athrow, 1) := by decide +kernel
theorem dX2_early_33 : decode cX2_early 33 = .ok (.aload 4, 2) := by decide +kernel
theorem dX2_early_35 : decode cX2_early 35 = .ok (.iconst 1, 1) := by decide +kernel
theorem dX2_early_36 : decode cX2_early 36 = .ok (.invokevirtual 156, 3) := by decide +kernel
theorem dX2_early_39 : decode cX2_early 39 = .ok (.ifCond .eq 13, 3) := by decide +kernel
theorem dX2_early_42 : decode cX2_early 42 = .ok (.new 160, 3) := by decide +kernel
theorem dX2_early_45 : decode cX2_early 45 = .ok (.dup, 1) := by decide +kernel
theorem dX2_early_46 : decode cX2_early 46 = .ok (.ldc 162, 2) := by decide +kernel
theorem dX2_early_48 : decode cX2_early 48 = .ok (.invokespecial 164, 3) := by decide +kernel
theorem dX2_early_51 : decode cX2_early 51 = .ok (.athrow, 1) := by decide +kernel
theorem dX2_early_52 : decode cX2_early 52 = .ok (.aload 4, 2) := by decide +kernel
theorem dX2_early_54 : decode cX2_early 54 = .ok (.getfield 106, 3) := by decide +kernel
theorem dX2_early_57 : decode cX2_early 57 = .ok (.iconst 2, 1) := by decide +kernel
theorem dX2_early_58 : decode cX2_early 58 = .ok (.invokestatic 147, 3) := by decide +kernel
theorem dX2_early_61 : decode cX2_early 61 = .ok (.aload_n 0, 1) := by decide +kernel
theorem dX2_early_62 : decode cX2_early 62 = .ok (.aload 4, 2) := by decide +kernel
theorem dX2_early_64 : decode cX2_early 64 = .ok (.iload_n 2, 1) := by decide +kernel
theorem dX2_early_65 : decode cX2_early 65 = .ok (.invokevirtual 165, 3) := by decide +kernel
theorem dX2_early_68 : decode cX2_early 68 = .ok (.aload_n 0, 1) := by decide +kernel
theorem dX2_early_69 : decode cX2_early 69 = .ok (.getfield 33, 3) := by decide +kernel
theorem dX2_early_72 : decode cX2_early 72 = .ok (.aload 4, 2) := by decide +kernel
theorem dX2_early_74 : decode cX2_early 74 = .ok (.invokevirtual 135, 3) := by decide +kernel
theorem dX2_early_77 : decode cX2_early 77 = .ok (.ifCond .ge 7, 3) := by decide +kernel
theorem dX2_early_80 : decode cX2_early 80 = .ok (.iconst 1, 1) := by decide +kernel
theorem dX2_early_81 : decode cX2_early 81 = .ok (.goto 4, 3) := by decide +kernel
theorem dX2_early_84 : decode cX2_early 84 = .ok (.iconst 0, 1) := by decide +kernel
theorem dX2_early_85 : decode cX2_early 85 = .ok (.istore 5, 2) := by decide +kernel
theorem dX2_early_87 : decode cX2_early 87 = .ok (.aload_n 0, 1) := by decide +kernel
theorem dX2_early_88 : decode cX2_early 88 = .ok (.iload_n 3, 1) := by decide +kernel
theorem dX2_early_89 : decode cX2_early 89 = .ok (.invokevirtual 103, 3) := by decide +kernel
theorem dX2_early_92 : decode cX2_early 92 = .ok (.pop, 1) := by decide +kernel
theorem dX2_early_93 : decode cX2_early 93 = .ok (.iload 5, 2) := by decide +kernel
theorem dX2_early_95 : decode cX2_early 95 = .ok (.ireturn, 1) := by decide +kernel
set_option maxRecDepth 20000 in
theorem ggX2_built_X2_versionIn : GoodIn wsX2_built wsX2_versionIn := goodIn_ca (goodIn_r _ [8, 9, 10, 11, 7, 12, 13, 14, 138, 139, 140, 141, 142, 143] (by decide +kernel) (by decide +kernel)) (goodIn_sub (fun _ h => List.mem_cons_of_mem _ (List.mem_append_left _ (List.mem_append_right _ h))) (by decide +kernel))
set_option maxRecDepth 20000 in
theorem gX2_built_X2_versionIn : GoodIn wsX2_built (wsV RX2 112 RX2 yX2_versionIn wsX2_versionIn) := goodIn_app (goodIn_of _ (by decide +kernel)) ggX2_built_X2_versionIn
set_option maxRecDepth 20000 in
theorem ggX2_built_X2_checkSlot : GoodIn wsX2_built wsX2_checkSlot := goodIn_ca (goodIn_r _ [12, 13, 14] (by decide +kernel) (by decide +kernel)) (goodIn_sub (fun _ h => List.mem_cons_of_mem _ (List.mem_append_left _ (List.mem_append_right _ h))) (by decide +kernel))
set_option maxRecDepth 20000 in
theorem gX2_built_X2_checkSlot : GoodIn wsX2_built (va_wsS RX2 91 yX2_checkSlot wsX2_checkSlot) := goodIn_app (goodIn_of _ (by decide +kernel)) ggX2_built_X2_checkSlot
set_option maxRecDepth 20000 in
theorem ggX2_built_X2_checkNumber : GoodIn wsX2_built wsX2_checkNumber := goodIn_ca (goodIn_r _ [17, 18, 19] (by decide +kernel) (by decide +kernel)) (goodIn_sub (fun _ h => List.mem_cons_of_mem _ (List.mem_append_right _ h)) (by decide +kernel))
set_option maxRecDepth 20000 in
theorem gX2_built_X2_checkNumber : GoodIn wsX2_built (va_wsS RX2 38 yX2_checkNumber wsX2_checkNumber) := goodIn_app (goodIn_of _ (by decide +kernel)) ggX2_built_X2_checkNumber
set_option maxRecDepth 20000 in
theorem ggX2_built_X1_hasRow : GoodIn wsX2_built wsX1_hasRow := goodIn_r _ [24, 25, 26, 27, 23, 28, 29, 134, 135, 136, 137] (by decide +kernel) (by decide +kernel)
set_option maxRecDepth 20000 in
theorem gX2_built_X1_hasRow : GoodIn wsX2_built (wsV RX2 156 RX1 yX1_hasRow wsX1_hasRow) := goodIn_app (goodIn_of _ (by decide +kernel)) ggX2_built_X1_hasRow
set_option maxRecDepth 20000 in
theorem ggX2_built_X2_digitsOf : GoodIn wsX2_built wsX2_digitsOf := goodIn_r _ [32] (by decide +kernel) (by decide +kernel)
set_option maxRecDepth 20000 in
theorem gX2_built_X2_digitsOf : GoodIn wsX2_built (va_wsS RX2 62 yX2_digitsOf wsX2_digitsOf) := goodIn_app (goodIn_of _ (by decide +kernel)) ggX2_built_X2_digitsOf
set_option maxRecDepth 20000 in
theorem ggX2_built_X2_checkRoom : GoodIn wsX2_built wsX2_checkRoom := goodIn_ca (goodIn_r _ [35, 1, 2, 36, 37, 38, 39, 40, 41, 144, 145] (by decide +kernel) (by decide +kernel)) (goodIn_sub (fun _ h => List.mem_cons_of_mem _ (List.mem_append_left _ (List.mem_append_left _ (List.mem_append_right _ h)))) (by decide +kernel))
set_option maxRecDepth 20000 in
theorem gX2_built_X2_checkRoom : GoodIn wsX2_built (va_wsS RX2 147 yX2_checkRoom wsX2_checkRoom) := goodIn_app (goodIn_of _ (by decide +kernel)) ggX2_built_X2_checkRoom
set_option maxRecDepth 20000 in
theorem ggX2_built_X2_parseWithNumberBehind : GoodIn wsX2_built wsX2_parseWithNumberBehind := goodIn_r _ [45, 3, 46, 47, 48, 23, 49, 50, 51, 52, 53, 39, 54, 41, 55, 56, 57, 58, 59, 37, 38, 40, 60, 61, 62, 63, 64, 65, 66, 67, 68, 69, 70, 71, 72, 73, 74, 75, 76, 77, 78, 29, 79, 80, 81, 7, 82, 83, 84, 85, 86, 87, 88, 89, 90, 91, 25, 26, 27, 28, 92, 93, 94, 95, 96, 97, 98, 99, 138, 139, 140, 141, 142, 143, 134, 135, 136, 137, 144, 145] (by decide +kernel) (by decide +kernel)
set_option maxRecDepth 20000 in
theorem gX2_built_X2_parseWithNumberBehind : GoodIn wsX2_built (wsV RX2 150 RX2 yX2_parseWithNumberBehind wsX2_parseWithNumberBehind) := goodIn_app (goodIn_of _ (by decide +kernel)) ggX2_built_X2_parseWithNumberBehind
set_option maxRecDepth 20000 in
theorem ggX2_built_X1_orderTo : GoodIn wsX2_built wsX1_orderTo := goodIn_r _ [103, 104, 105, 106, 23, 107, 108, 109, 110, 111, 112, 21, 22, 24, 25, 26, 27, 28, 29, 113, 114, 115, 116, 91, 96, 97, 98, 99, 117, 118, 119, 120, 50, 121, 122, 123, 124, 90, 80, 61, 62, 39, 63, 41, 64, 125, 7, 126, 127, 128, 129, 134, 135, 136, 137, 144, 145] (by decide +kernel) (by decide +kernel)
set_option maxRecDepth 20000 in
theorem gX2_built_X1_orderTo : GoodIn wsX2_built (wsV RX2 135 RX1 yX1_orderTo wsX1_orderTo) := goodIn_app (goodIn_of _ (by decide +kernel)) ggX2_built_X1_orderTo
set_option maxRecDepth 20000 in
theorem ggX2_built_X2_exchangeSpare : GoodIn wsX2_built wsX2_exchangeSpare := goodIn_ca (goodIn_r _ [133, 3, 9, 4, 5, 6, 7, 8, 10, 11, 12, 13, 14, 100, 101, 102, 23, 103, 104, 105, 106, 107, 108, 109, 110, 111, 112, 21, 22, 24, 25, 26, 27, 28, 29, 113, 114, 115, 116, 91, 96, 97, 98, 99, 117, 118, 119, 120, 50, 121, 122, 123, 124, 90, 80, 61, 62, 39, 63, 41, 64, 125, 126, 127, 128, 129, 138, 139, 140, 141, 142, 143, 134, 135, 136, 137, 144, 145] (by decide +kernel) (by decide +kernel)) (goodIn_sub (fun _ h => List.mem_cons_of_mem _ (List.mem_append_left _ (List.mem_append_right _ h))) (by decide +kernel))
set_option maxRecDepth 20000 in
theorem gX2_built_X2_exchangeSpare : GoodIn wsX2_built (wsV RX2 103 RX2 yX2_exchangeSpare wsX2_exchangeSpare) := goodIn_app (goodIn_of _ (by decide +kernel)) ggX2_built_X2_exchangeSpare
theorem dX2_built_0 : decode cX2_built 0 = .ok (.aload_n 0, 1) := by decide +kernel
theorem dX2_built_1 : decode cX2_built 1 = .ok (.iload_n 1, 1) := by decide +kernel
theorem dX2_built_2 : decode cX2_built 2 = .ok (.invokevirtual 112, 3) := by decide +kernel
theorem dX2_built_5 : decode cX2_built 5 = .ok (.astore 4, 2) := by decide +kernel
theorem dX2_built_7 : decode cX2_built 7 = .ok (.iload_n 3, 1) := by decide +kernel
theorem dX2_built_8 : decode cX2_built 8 = .ok (.invokestatic 91, 3) := by decide +kernel
theorem dX2_built_11 : decode cX2_built 11 = .ok (.iload_n 2, 1) := by decide +kernel
theorem dX2_built_12 : decode cX2_built 12 = .ok (.iconst 0, 1) := by decide +kernel
theorem dX2_built_13 : decode cX2_built 13 = .ok (.sipush 999, 3) := by decide +kernel
theorem dX2_built_16 : decode cX2_built 16 = .ok (.invokestatic 38, 3) := by decide +kernel
theorem dX2_built_19 : decode cX2_built 19 = .ok (.aload 4, 2) := by decide +kernel
theorem dX2_built_21 : decode cX2_built 21 = .ok (.iconst 1, 1) := by decide +kernel
theorem dX2_built_22 : decode cX2_built 22 = .ok (.invokevirtual 156, 3) := by decide +kernel
theorem dX2_built_25 : decode cX2_built 25 = .ok (.ifCond .eq 12, 3) := by decide +kernel
theorem dX2_built_28 : decode cX2_built 28 = .ok (.aload 4, 2) := by decide +kernel
theorem dX2_built_30 : decode cX2_built 30 = .ok (.iconst 2, 1) := by decide +kernel
theorem dX2_built_31 : decode cX2_built 31 = .ok (.invokevirtual 156, 3) := by decide +kernel
theorem dX2_built_34 : decode cX2_built 34 = .ok (.ifCond .eq 13, 3) := by decide +kernel
theorem dX2_built_37 : decode cX2_built 37 = .ok (.new 160, 3) := by decide +kernel
theorem dX2_built_40 : decode cX2_built 40 = .ok (.dup, 1) := by decide +kernel
theorem dX2_built_41 : decode cX2_built 41 = .ok (.ldc 169, 2) := by decide +kernel
theorem dX2_built_43 : decode cX2_built 43 = .ok (.invokespecial 164, 3) := by decide +kernel
theorem dX2_built_46 : decode cX2_built 46 = .ok (.athrow, 1) := by decide +kernel
theorem dX2_built_47 : decode cX2_built 47 = .ok (.aload 4, 2) := by decide +kernel
theorem dX2_built_49 : decode cX2_built 49 = .ok (.getfield 106, 3) := by decide +kernel
theorem dX2_built_52 : decode cX2_built 52 = .ok (.iconst 1, 1) := by decide +kernel
theorem dX2_built_53 : decode cX2_built 53 = .ok (.iload_n 2, 1) := by decide +kernel
theorem dX2_built_54 : decode cX2_built 54 = .ok (.invokestatic 62, 3) := by decide +kernel
theorem dX2_built_57 : decode cX2_built 57 = .ok (.iadd, 1) := by decide +kernel
theorem dX2_built_58 : decode cX2_built 58 = .ok (.invokestatic 147, 3) := by decide +kernel
theorem dX2_built_61 : decode cX2_built 61 = .ok (.aload_n 0, 1) := by decide +kernel
theorem dX2_built_62 : decode cX2_built 62 = .ok (.aload 4, 2) := by decide +kernel
theorem dX2_built_64 : decode cX2_built 64 = .ok (.bipush 43, 2) := by decide +kernel
theorem dX2_built_66 : decode cX2_built 66 = .ok (.iload_n 2, 1) := by decide +kernel
theorem dX2_built_67 : decode cX2_built 67 = .ok (.invokevirtual 150, 3) := by decide +kernel
theorem dX2_built_70 : decode cX2_built 70 = .ok (.aload_n 0, 1) := by decide +kernel
theorem dX2_built_71 : decode cX2_built 71 = .ok (.getfield 33, 3) := by decide +kernel
theorem dX2_built_74 : decode cX2_built 74 = .ok (.aload 4, 2) := by decide +kernel
theorem dX2_built_76 : decode cX2_built 76 = .ok (.invokevirtual 135, 3) := by decide +kernel
theorem dX2_built_79 : decode cX2_built 79 = .ok (.istore 5, 2) := by decide +kernel
theorem dX2_built_81 : decode cX2_built 81 = .ok (.aload_n 0, 1) := by decide +kernel
theorem dX2_built_82 : decode cX2_built 82 = .ok (.iload_n 3, 1) := by decide +kernel
theorem dX2_built_83 : decode cX2_built 83 = .ok (.invokevirtual 103, 3) := by decide +kernel
theorem dX2_built_86 : decode cX2_built 86 = .ok (.pop, 1) := by decide +kernel
theorem dX2_built_87 : decode cX2_built 87 = .ok (.iload 5, 2) := by decide +kernel
theorem dX2_built_89 : decode cX2_built 89 = .ok (.ireturn, 1) := by decide +kernel
set_option maxRecDepth 20000 in
theorem ggX2_isHashed_X2_versionIn : GoodIn wsX2_isHashed wsX2_versionIn := goodIn_ca (goodIn_r _ [6, 7, 8, 9, 5, 10, 11, 12, 80, 81, 82, 83, 84, 85] (by decide +kernel) (by decide +kernel)) (goodIn_sub (fun _ h => List.mem_cons_of_mem _ (List.mem_append_right _ h)) (by decide +kernel))
set_option maxRecDepth 20000 in
theorem gX2_isHashed_X2_versionIn : GoodIn wsX2_isHashed (wsV RX2 112 RX2 yX2_versionIn wsX2_versionIn) := goodIn_app (goodIn_of _ (by decide +kernel)) ggX2_isHashed_X2_versionIn
set_option maxRecDepth 20000 in
theorem ggX2_isHashed_X2_parseAnew : GoodIn wsX2_isHashed wsX2_parseAnew := goodIn_r _ [16, 1, 17, 18, 19, 20, 21, 22, 23, 24, 25, 26, 27, 28, 29, 30, 31, 32, 33, 34, 35, 36, 37, 38, 39, 40, 41, 42, 43, 44, 45, 46, 47, 48, 49, 50, 51, 52, 53, 5, 54, 55, 56, 57, 58, 59, 60, 61, 62, 63, 64, 65, 66, 67, 68, 69, 70, 71, 72, 73, 74, 75, 80, 81, 82, 83, 84, 85, 86, 87, 88, 89, 90, 91] (by decide +kernel) (by decide +kernel)
set_option maxRecDepth 20000 in
theorem gX2_isHashed_X2_parseAnew : GoodIn wsX2_isHashed (wsV RX2 116 RX2 yX2_parseAnew wsX2_parseAnew) := goodIn_app (goodIn_of _ (by decide +kernel)) ggX2_isHashed_X2_parseAnew
set_option maxRecDepth 20000 in
theorem ggX2_isHashed_X0_hash : GoodIn wsX2_isHashed wsX0_hash := goodIn_r _ [79, 28, 37, 38, 39, 26, 40, 41, 90, 91] (by decide +kernel) (by decide +kernel)
set_option maxRecDepth 20000 in
theorem gX2_isHashed_X0_hash : GoodIn wsX2_isHashed (wsV RX2 171 RX0 yX0_hash wsX0_hash) := goodIn_app (goodIn_of _ (by decide +kernel)) ggX2_isHashed_X0_hash
theorem dX2_isHashed_0 : decode cX2_isHashed 0 = .ok (.aload_n 0, 1) := by decide +kernel
theorem dX2_isHashed_1 : decode cX2_isHashed 1 = .ok (.iload_n 1, 1) := by decide +kernel
theorem dX2_isHashed_2 : decode cX2_isHashed 2 = .ok (.invokevirtual 112, 3) := by decide +kernel
theorem dX2_isHashed_5 : decode cX2_isHashed 5 = .ok (.astore_n 2, 1) := by decide +kernel
theorem dX2_isHashed_6 : decode cX2_isHashed 6 = .ok (.aload_n 0, 1) := by decide +kernel
theorem dX2_isHashed_7 : decode cX2_isHashed 7 = .ok (.aload_n 2, 1) := by decide +kernel
theorem dX2_isHashed_8 : decode cX2_isHashed 8 = .ok (.invokevirtual 116, 3) := by decide +kernel
theorem dX2_isHashed_11 : decode cX2_isHashed 11 = .ok (.aload_n 0, 1) := by decide +kernel
theorem dX2_isHashed_12 : decode cX2_isHashed 12 = .ok (.getfield 33, 3) := by decide +kernel
theorem dX2_isHashed_15 : decode cX2_isHashed 15 = .ok (.getfield 106, 3) := by decide +kernel
theorem dX2_isHashed_18 : decode cX2_isHashed 18 = .ok (.invokevirtual 171, 3) := by decide +kernel
theorem dX2_isHashed_21 : decode cX2_isHashed 21 = .ok (.aload_n 2, 1) := by decide +kernel
theorem dX2_isHashed_22 : decode cX2_isHashed 22 = .ok (.getfield 106, 3) := by decide +kernel
theorem dX2_isHashed_25 : decode cX2_isHashed 25 = .ok (.invokevirtual 171, 3) := by decide +kernel
theorem dX2_isHashed_28 : decode cX2_isHashed 28 = .ok (.if_icmp .ne 7, 3) := by decide +kernel
theorem dX2_isHashed_31 : decode cX2_isHashed 31 = .ok (.iconst 1, 1) := by decide +kernel
theorem dX2_isHashed_32 : decode cX2_isHashed 32 = .ok (.goto 4, 3) := by decide +kernel
theorem dX2_isHashed_35 : decode cX2_isHashed 35 = .ok (.iconst 0, 1) := by decide +kernel
theorem dX2_isHashed_36 : decode cX2_isHashed 36 = .ok (.ireturn, 1) := by decide +kernel
set_option maxRecDepth 20000 in
theorem ggX2_wordShare_X1_words : GoodIn wsX2_wordShare wsX1_words := goodIn_r _ [6, 7, 8, 19, 20, 21, 22] (by decide +kernel) (by decide +kernel)
set_option maxRecDepth 20000 in
theorem gX2_wordShare_X1_words : GoodIn wsX2_wordShare (wsV RX2 174 RX1 yX1_words wsX1_words) := goodIn_app (goodIn_of _ (by decide +kernel)) ggX2_wordShare_X1_words
set_option maxRecDepth 20000 in
theorem ggX2_wordShare_X1_allTokens : GoodIn wsX2_wordShare wsX1_allTokens := goodIn_r _ [12, 7, 19, 20, 21, 22] (by decide +kernel) (by decide +kernel)
set_option maxRecDepth 20000 in
theorem gX2_wordShare_X1_allTokens : GoodIn wsX2_wordShare (wsV RX2 177 RX1 yX1_allTokens wsX1_allTokens) := goodIn_app (goodIn_of _ (by decide +kernel)) ggX2_wordShare_X1_allTokens
theorem dX2_wordShare_0 : decode cX2_wordShare 0 = .ok (.iconst 0, 1) := by decide +kernel
theorem dX2_wordShare_1 : decode cX2_wordShare 1 = .ok (.istore_n 1, 1) := by decide +kernel
theorem dX2_wordShare_2 : decode cX2_wordShare 2 = .ok (.iconst 0, 1) := by decide +kernel
theorem dX2_wordShare_3 : decode cX2_wordShare 3 = .ok (.istore_n 2, 1) := by decide +kernel
theorem dX2_wordShare_4 : decode cX2_wordShare 4 = .ok (.iconst 0, 1) := by decide +kernel
theorem dX2_wordShare_5 : decode cX2_wordShare 5 = .ok (.istore_n 3, 1) := by decide +kernel
theorem dX2_wordShare_6 : decode cX2_wordShare 6 = .ok (.iload_n 3, 1) := by decide +kernel
theorem dX2_wordShare_7 : decode cX2_wordShare 7 = .ok (.bipush 8, 2) := by decide +kernel
theorem dX2_wordShare_9 : decode cX2_wordShare 9 = .ok (.if_icmp .ge 33, 3) := by decide +kernel
theorem dX2_wordShare_12 : decode cX2_wordShare 12 = .ok (.iload_n 1, 1) := by decide +kernel
theorem dX2_wordShare_13 : decode cX2_wordShare 13 = .ok (.aload_n 0, 1) := by decide +kernel
theorem dX2_wordShare_14 : decode cX2_wordShare 14 = .ok (.getfield 18, 3) := by decide +kernel
theorem dX2_wordShare_17 : decode cX2_wordShare 17 = .ok (.iload_n 3, 1) := by decide +kernel
theorem dX2_wordShare_18 : decode cX2_wordShare 18 = .ok (.aaload, 1) := by decide +kernel
theorem dX2_wordShare_19 : decode cX2_wordShare 19 = .ok (.invokevirtual 174, 3) := by decide +kernel
theorem dX2_wordShare_22 : decode cX2_wordShare 22 = .ok (.iadd, 1) := by decide +kernel
theorem dX2_wordShare_23 : decode cX2_wordShare 23 = .ok (.istore_n 1, 1) := by decide +kernel
theorem dX2_wordShare_24 : decode cX2_wordShare 24 = .ok (.iload_n 2, 1) := by decide +kernel
theorem dX2_wordShare_25 : decode cX2_wordShare 25 = .ok (.aload_n 0, 1) := by decide +kernel
theorem dX2_wordShare_26 : decode cX2_wordShare 26 = .ok (.getfield 18, 3) := by decide +kernel
theorem dX2_wordShare_29 : decode cX2_wordShare 29 = .ok (.iload_n 3, 1) := by decide +kernel
theorem dX2_wordShare_30 : decode cX2_wordShare 30 = .ok (.aaload, 1) := by decide +kernel
theorem dX2_wordShare_31 : decode cX2_wordShare 31 = .ok (.invokevirtual 177, 3) := by decide +kernel
theorem dX2_wordShare_34 : decode cX2_wordShare 34 = .ok (.iadd, 1) := by decide +kernel
theorem dX2_wordShare_35 : decode cX2_wordShare 35 = .ok (.istore_n 2, 1) := by decide +kernel
theorem dX2_wordShare_36 : decode cX2_wordShare 36 = .ok (.iinc 3 1, 3) := by decide +kernel
theorem dX2_wordShare_39 : decode cX2_wordShare 39 = .ok (.goto (-33), 3) := by decide +kernel
theorem dX2_wordShare_42 : decode cX2_wordShare 42 = .ok (.iload_n 2, 1) := by decide +kernel
theorem dX2_wordShare_43 : decode cX2_wordShare 43 = .ok (.ifCond .ne 5, 3) := by decide +kernel
theorem dX2_wordShare_46 : decode cX2_wordShare 46 = .ok (.fconst 0, 1) := by decide +kernel
theorem dX2_wordShare_47 : decode cX2_wordShare 47 = .ok (.freturn, 1) := by decide +kernel
theorem dX2_wordShare_48 : decode cX2_wordShare 48 = .ok (.iload_n 1, 1) := by decide +kernel
theorem dX2_wordShare_49 : decode cX2_wordShare 49 = .ok (.i2f, 1) := by decide +kernel
theorem dX2_wordShare_50 : decode cX2_wordShare 50 = .ok (.iload_n 2, 1) := by decide +kernel
theorem dX2_wordShare_51 : decode cX2_wordShare 51 = .ok (.i2f, 1) := by decide +kernel
theorem dX2_wordShare_52 : decode cX2_wordShare 52 = .ok (.fdiv, 1) := by decide +kernel
theorem dX2_wordShare_53 : decode cX2_wordShare 53 = .ok (.freturn, 1) := by decide +kernel
set_option maxRecDepth 20000 in
theorem ggX2_checksum_X0_addTo : GoodIn wsX2_checksum wsX0_addTo := goodIn_r _ [8, 9, 10, 11, 12, 13, 7, 14, 15, 26, 27] (by decide +kernel) (by decide +kernel)
set_option maxRecDepth 20000 in
theorem gX2_checksum_X0_addTo : GoodIn wsX2_checksum (wsV RX2 182 RX0 yX0_addTo wsX0_addTo) := goodIn_app (goodIn_of _ (by decide +kernel)) ggX2_checksum_X0_addTo
theorem dX2_checksum_0 : decode cX2_checksum 0 = .ok (.aload_n 0, 1) := by decide +kernel
theorem dX2_checksum_1 : decode cX2_checksum 1 = .ok (.getfield 10, 3) := by decide +kernel
theorem dX2_checksum_4 : decode cX2_checksum 4 = .ok (.ldc2_w 180, 3) := by decide +kernel
theorem dX2_checksum_7 : decode cX2_checksum 7 = .ok (.invokevirtual 182, 3) := by decide +kernel
theorem dX2_checksum_10 : decode cX2_checksum 10 = .ok (.lstore_n 1, 1) := by decide +kernel
theorem dX2_checksum_11 : decode cX2_checksum 11 = .ok (.iconst 0, 1) := by decide +kernel
theorem dX2_checksum_12 : decode cX2_checksum 12 = .ok (.istore_n 3, 1) := by decide +kernel
theorem dX2_checksum_13 : decode cX2_checksum 13 = .ok (.iload_n 3, 1) := by decide +kernel
theorem dX2_checksum_14 : decode cX2_checksum 14 = .ok (.bipush 8, 2) := by decide +kernel
theorem dX2_checksum_16 : decode cX2_checksum 16 = .ok (.if_icmp .ge 23, 3) := by decide +kernel
theorem dX2_checksum_19 : decode cX2_checksum 19 = .ok (.aload_n 0, 1) := by decide +kernel
theorem dX2_checksum_20 : decode cX2_checksum 20 = .ok (.getfield 18, 3) := by decide +kernel
theorem dX2_checksum_23 : decode cX2_checksum 23 = .ok (.iload_n 3, 1) := by decide +kernel
theorem dX2_checksum_24 : decode cX2_checksum 24 = .ok (.aaload, 1) := by decide +kernel
theorem dX2_checksum_25 : decode cX2_checksum 25 = .ok (.getfield 106, 3) := by decide +kernel
theorem dX2_checksum_28 : decode cX2_checksum 28 = .ok (.lload_n 1, 1) := by decide +kernel
theorem dX2_checksum_29 : decode cX2_checksum 29 = .ok (.invokevirtual 182, 3) := by decide +kernel
theorem dX2_checksum_32 : decode cX2_checksum 32 = .ok (.lstore_n 1, 1) := by decide +kernel
theorem dX2_checksum_33 : decode cX2_checksum 33 = .ok (.iinc 3 1, 3) := by decide +kernel
theorem dX2_checksum_36 : decode cX2_checksum 36 = .ok (.goto (-23), 3) := by decide +kernel
theorem dX2_checksum_39 : decode cX2_checksum 39 = .ok (.lload_n 1, 1) := by decide +kernel
theorem dX2_checksum_40 : decode cX2_checksum 40 = .ok (.lreturn, 1) := by decide +kernel
set_option maxRecDepth 20000 in
theorem ggX2_isTrue_X2_fillOrders : GoodIn wsX2_isTrue wsX2_fillOrders := goodIn_r _ [6, 7, 1, 8, 9, 10, 11, 12, 13, 14, 15, 16, 17, 18, 19, 20, 21, 22, 23, 24, 25, 26, 27, 28, 29, 30, 31, 32, 33, 34, 35, 36, 37, 38, 39, 40, 41, 42, 43, 44, 45, 46, 47, 48, 49, 50, 51, 52, 53, 54, 55, 56, 5, 57, 58, 59, 60, 153, 154, 155, 156, 157, 158, 159, 160, 161, 162, 163, 164] (by decide +kernel) (by decide +kernel)
set_option maxRecDepth 20000 in
theorem gX2_isTrue_X2_fillOrders : GoodIn wsX2_isTrue (wsV RX2 186 RX2 yX2_fillOrders wsX2_fillOrders) := goodIn_app (goodIn_of _ (by decide +kernel)) ggX2_isTrue_X2_fillOrders
set_option maxRecDepth 20000 in
theorem ggX2_isTrue_X2_isTrueOfOne : GoodIn wsX2_isTrue wsX2_isTrueOfOne := goodIn_r _ [64, 65, 66, 67, 68, 5, 69, 70, 71, 72, 11, 73, 43, 74, 75, 76, 52, 77, 54, 78, 79, 80, 81, 82, 83, 84, 85, 86, 50, 51, 53, 55, 87, 88, 89, 90, 91, 92, 93, 94, 29, 95, 49, 96, 97, 98, 99, 100, 101, 102, 103, 104, 48, 34, 25, 26, 27, 28, 105, 106, 107, 108, 35, 36, 37, 38, 109, 110, 111, 112, 8, 9, 10, 12, 13, 14, 15, 16, 17, 18, 19, 20, 21, 22, 23, 24, 30, 31, 32, 33, 39, 40, 41, 42, 44, 45, 46, 47, 56, 57, 58, 59, 60, 113, 114, 115, 116, 117, 118, 119, 120, 121, 122, 123, 124, 125, 126, 127, 128, 153, 154, 155, 156, 157, 158, 159, 160, 161, 162, 163, 164] (by decide +kernel) (by decide +kernel)
set_option maxRecDepth 20000 in
theorem gX2_isTrue_X2_isTrueOfOne : GoodIn wsX2_isTrue (wsV RX2 189 RX2 yX2_isTrueOfOne wsX2_isTrueOfOne) := goodIn_app (goodIn_of _ (by decide +kernel)) ggX2_isTrue_X2_isTrueOfOne
set_option maxRecDepth 20000 in
theorem ggX2_isTrue_X2_isTrueOfTwo : GoodIn wsX2_isTrue wsX2_isTrueOfTwo := goodIn_ca (goodIn_r _ [132, 133, 134, 135, 5, 136, 7, 137, 138, 139, 140, 141, 142, 143, 144, 145, 1, 146, 147, 148, 11, 149, 13, 14, 15, 16, 17, 18, 19, 20, 21, 22, 23, 24, 25, 26, 27, 28, 29, 30, 31, 32, 33, 34, 35, 36, 37, 38, 39, 40, 41, 42, 43, 44, 45, 46, 47, 48, 49, 50, 51, 52, 53, 54, 55, 56, 57, 58, 59, 60, 153, 154, 155, 156, 157, 158, 159, 160, 161, 162, 163, 164] (by decide +kernel) (by decide +kernel)) (goodIn_sub (fun _ h => List.mem_cons_of_mem _ (List.mem_append_right _ h)) (by decide +kernel))
set_option maxRecDepth 20000 in
theorem gX2_isTrue_X2_isTrueOfTwo : GoodIn wsX2_isTrue (wsV RX2 193 RX2 yX2_isTrueOfTwo wsX2_isTrueOfTwo) := goodIn_app (goodIn_of _ (by decide +kernel)) ggX2_isTrue_X2_isTrueOfTwo
set_option maxRecDepth 20000 in
theorem ggX2_isTrue_X2_orderOf : GoodIn wsX2_isTrue wsX2_orderOf := goodIn_ca (goodIn_r _ [136, 7, 137, 138, 5, 139, 140, 141, 153, 154, 155, 156, 157, 158] (by decide +kernel) (by decide +kernel)) (goodIn_sub (fun _ h => List.mem_cons_of_mem _ (List.mem_append_right _ h)) (by decide +kernel))
set_option maxRecDepth 20000 in
theorem gX2_isTrue_X2_orderOf : GoodIn wsX2_isTrue (wsV RX2 197 RX2 yX2_orderOf wsX2_orderOf) := goodIn_app (goodIn_of _ (by decide +kernel)) ggX2_isTrue_X2_orderOf
set_option maxRecDepth 20000 in
theorem ggX2_isTrue_X2_isTrueOfThree : GoodIn wsX2_isTrue wsX2_isTrueOfThree := goodIn_r _ [152] (by decide +kernel) (by decide +kernel)
set_option maxRecDepth 20000 in
theorem gX2_isTrue_X2_isTrueOfThree : GoodIn wsX2_isTrue (va_wsS RX2 200 yX2_isTrueOfThree wsX2_isTrueOfThree) := goodIn_app (goodIn_of _ (by decide +kernel)) ggX2_isTrue_X2_isTrueOfThree
theorem dX2_isTrue_0 : decode cX2_isTrue 0 = .ok (.aload_n 0, 1) := by decide +kernel
theorem dX2_isTrue_1 : decode cX2_isTrue 1 = .ok (.invokevirtual 186, 3) := by decide +kernel
theorem dX2_isTrue_4 : decode cX2_isTrue 4 = .ok (.iconst 0, 1) := by decide +kernel
theorem dX2_isTrue_5 : decode cX2_isTrue 5 = .ok (.istore_n 1, 1) := by decide +kernel
theorem dX2_isTrue_6 : decode cX2_isTrue 6 = .ok (.iload_n 1, 1) := by decide +kernel
theorem dX2_isTrue_7 : decode cX2_isTrue 7 = .ok (.bipush 8, 2) := by decide +kernel
theorem dX2_isTrue_9 : decode cX2_isTrue 9 = .ok (.if_icmp .ge 89, 3) := by decide +kernel
theorem dX2_isTrue_12 : decode cX2_isTrue 12 = .ok (.aload_n 0, 1) := by decide +kernel
theorem dX2_isTrue_13 : decode cX2_isTrue 13 = .ok (.aload_n 0, 1) := by decide +kernel
theorem dX2_isTrue_14 : decode cX2_isTrue 14 = .ok (.getfield 18, 3) := by decide +kernel
theorem dX2_isTrue_17 : decode cX2_isTrue 17 = .ok (.iload_n 1, 1) := by decide +kernel
theorem dX2_isTrue_18 : decode cX2_isTrue 18 = .ok (.aaload, 1) := by decide +kernel
theorem dX2_isTrue_19 : decode cX2_isTrue 19 = .ok (.invokevirtual 189, 3) := by decide +kernel
theorem dX2_isTrue_22 : decode cX2_isTrue 22 = .ok (.ifCond .ne 5, 3) := by decide +kernel
theorem dX2_isTrue_25 : decode cX2_isTrue 25 = .ok (.iconst 0, 1) := by decide +kernel
theorem dX2_isTrue_26 : decode cX2_isTrue 26 = .ok (.ireturn, 1) := by decide +kernel
theorem dX2_isTrue_27 : decode cX2_isTrue 27 = .ok (.iconst 0, 1) := by decide +kernel
theorem dX2_isTrue_28 : decode cX2_isTrue 28 = .ok (.istore_n 2, 1) := by decide +kernel
theorem dX2_isTrue_29 : decode cX2_isTrue 29 = .ok (.iload_n 2, 1) := by decide +kernel
theorem dX2_isTrue_30 : decode cX2_isTrue 30 = .ok (.bipush 8, 2) := by decide +kernel
theorem dX2_isTrue_32 : decode cX2_isTrue 32 = .ok (.if_icmp .ge 60, 3) := by decide +kernel
theorem dX2_isTrue_35 : decode cX2_isTrue 35 = .ok (.aload_n 0, 1) := by decide +kernel
theorem dX2_isTrue_36 : decode cX2_isTrue 36 = .ok (.iload_n 1, 1) := by decide +kernel
theorem dX2_isTrue_37 : decode cX2_isTrue 37 = .ok (.iload_n 2, 1) := by decide +kernel
theorem dX2_isTrue_38 : decode cX2_isTrue 38 = .ok (.invokevirtual 193, 3) := by decide +kernel
theorem dX2_isTrue_41 : decode cX2_isTrue 41 = .ok (.ifCond .ne 5, 3) := by decide +kernel
theorem dX2_isTrue_44 : decode cX2_isTrue 44 = .ok (.iconst 0, 1) := by decide +kernel
theorem dX2_isTrue_45 : decode cX2_isTrue 45 = .ok (.ireturn, 1) := by decide +kernel
theorem dX2_isTrue_46 : decode cX2_isTrue 46 = .ok (.iconst 0, 1) := by decide +kernel
theorem dX2_isTrue_47 : decode cX2_isTrue 47 = .ok (.istore_n 3, 1) := by decide +kernel
theorem dX2_isTrue_48 : decode cX2_isTrue 48 = .ok (.iload_n 3, 1) := by decide +kernel
theorem dX2_isTrue_49 : decode cX2_isTrue 49 = .ok (.bipush 8, 2) := by decide +kernel
theorem dX2_isTrue_51 : decode cX2_isTrue 51 = .ok (.if_icmp .ge 35, 3) := by decide +kernel
theorem dX2_isTrue_54 : decode cX2_isTrue 54 = .ok (.aload_n 0, 1) := by decide +kernel
theorem dX2_isTrue_55 : decode cX2_isTrue 55 = .ok (.iload_n 1, 1) := by decide +kernel
theorem dX2_isTrue_56 : decode cX2_isTrue 56 = .ok (.iload_n 2, 1) := by decide +kernel
theorem dX2_isTrue_57 : decode cX2_isTrue 57 = .ok (.invokevirtual 197, 3) := by decide +kernel
theorem dX2_isTrue_60 : decode cX2_isTrue 60 = .ok (.aload_n 0, 1) := by decide +kernel
theorem dX2_isTrue_61 : decode cX2_isTrue 61 = .ok (.iload_n 2, 1) := by decide +kernel
theorem dX2_isTrue_62 : decode cX2_isTrue 62 = .ok (.iload_n 3, 1) := by decide +kernel
theorem dX2_isTrue_63 : decode cX2_isTrue 63 = .ok (.invokevirtual 197, 3) := by decide +kernel
theorem dX2_isTrue_66 : decode cX2_isTrue 66 = .ok (.aload_n 0, 1) := by decide +kernel
theorem dX2_isTrue_67 : decode cX2_isTrue 67 = .ok (.iload_n 1, 1) := by decide +kernel
theorem dX2_isTrue_68 : decode cX2_isTrue 68 = .ok (.iload_n 3, 1) := by decide +kernel
theorem dX2_isTrue_69 : decode cX2_isTrue 69 = .ok (.invokevirtual 197, 3) := by decide +kernel
theorem dX2_isTrue_72 : decode cX2_isTrue 72 = .ok (.invokestatic 200, 3) := by decide +kernel
theorem dX2_isTrue_75 : decode cX2_isTrue 75 = .ok (.ifCond .ne 5, 3) := by decide +kernel
theorem dX2_isTrue_78 : decode cX2_isTrue 78 = .ok (.iconst 0, 1) := by decide +kernel
theorem dX2_isTrue_79 : decode cX2_isTrue 79 = .ok (.ireturn, 1) := by decide +kernel
theorem dX2_isTrue_80 : decode cX2_isTrue 80 = .ok (.iinc 3 1, 3) := by decide +kernel
theorem dX2_isTrue_83 : decode cX2_isTrue 83 = .ok (.goto (-35), 3) := by decide +kernel
theorem dX2_isTrue_86 : decode cX2_isTrue 86 = .ok (.iinc 2 1, 3) := by decide +kernel
theorem dX2_isTrue_89 : decode cX2_isTrue 89 = .ok (.goto (-60), 3) := by decide +kernel
theorem dX2_isTrue_92 : decode cX2_isTrue 92 = .ok (.iinc 1 1, 3) := by decide +kernel
theorem dX2_isTrue_95 : decode cX2_isTrue 95 = .ok (.goto (-89), 3) := by decide +kernel
theorem dX2_isTrue_98 : decode cX2_isTrue 98 = .ok (.iconst 1, 1) := by decide +kernel
theorem dX2_isTrue_99 : decode cX2_isTrue 99 = .ok (.ireturn, 1) := by decide +kernel
theorem dX2_checkNumber_0 : decode cX2_checkNumber 0 = .ok (.iload_n 0, 1) := by decide +kernel
theorem dX2_checkNumber_1 : decode cX2_checkNumber 1 = .ok (.iload_n 1, 1) := by decide +kernel
theorem dX2_checkNumber_2 : decode cX2_checkNumber 2 = .ok (.if_icmp .lt 8, 3) := by decide +kernel
theorem dX2_checkNumber_5 : decode cX2_checkNumber 5 = .ok (.iload_n 0, 1) := by decide +kernel
theorem dX2_checkNumber_6 : decode cX2_checkNumber 6 = .ok (.iload_n 2, 1) := by decide +kernel
theorem dX2_checkNumber_7 : decode cX2_checkNumber 7 = .ok (.if_icmp .le 13, 3) := by decide +kernel
theorem dX2_checkNumber_10 : decode cX2_checkNumber 10 = .ok (.new 73, 3) := by decide +kernel
theorem dX2_checkNumber_13 : decode cX2_checkNumber 13 = .ok (.dup, 1) := by decide +kernel
theorem dX2_checkNumber_14 : decode cX2_checkNumber 14 = .ok (.ldc 204, 2) := by decide +kernel
theorem dX2_checkNumber_16 : decode cX2_checkNumber 16 = .ok (.invokespecial 77, 3) := by decide +kernel
theorem dX2_checkNumber_19 : decode cX2_checkNumber 19 = .ok (.athrow, 1) := by decide +kernel
theorem dX2_checkNumber_20 : decode cX2_checkNumber 20 = .ok (.return_, 1) := by decide +kernel
theorem dX2_checkZeros_0 : decode cX2_checkZeros 0 = .ok (.iload_n 0, 1) := by decide +kernel
theorem dX2_checkZeros_1 : decode cX2_checkZeros 1 = .ok (.ifCond .lt 8, 3) := by decide +kernel
theorem dX2_checkZeros_4 : decode cX2_checkZeros 4 = .ok (.iload_n 0, 1) := by decide +kernel
theorem dX2_checkZeros_5 : decode cX2_checkZeros 5 = .ok (.iconst 3, 1) := by decide +kernel
theorem dX2_checkZeros_6 : decode cX2_checkZeros 6 = .ok (.if_icmp .le 13, 3) := by decide +kernel
theorem dX2_checkZeros_9 : decode cX2_checkZeros 9 = .ok (.new 73, 3) := by decide +kernel
theorem dX2_checkZeros_12 : decode cX2_checkZeros 12 = .ok (.dup, 1) := by decide +kernel
theorem dX2_checkZeros_13 : decode cX2_checkZeros 13 = .ok (.ldc 206, 2) := by decide +kernel
theorem dX2_checkZeros_15 : decode cX2_checkZeros 15 = .ok (.invokespecial 77, 3) := by decide +kernel
theorem dX2_checkZeros_18 : decode cX2_checkZeros 18 = .ok (.athrow, 1) := by decide +kernel
theorem dX2_checkZeros_19 : decode cX2_checkZeros 19 = .ok (.return_, 1) := by decide +kernel
theorem dX2_checkWay_0 : decode cX2_checkWay 0 = .ok (.iload_n 0, 1) := by decide +kernel
theorem dX2_checkWay_1 : decode cX2_checkWay 1 = .ok (.bipush 110, 2) := by decide +kernel
theorem dX2_checkWay_3 : decode cX2_checkWay 3 = .ok (.if_icmp .eq 31, 3) := by decide +kernel
theorem dX2_checkWay_6 : decode cX2_checkWay 6 = .ok (.iload_n 0, 1) := by decide +kernel
theorem dX2_checkWay_7 : decode cX2_checkWay 7 = .ok (.bipush 46, 2) := by decide +kernel
theorem dX2_checkWay_9 : decode cX2_checkWay 9 = .ok (.if_icmp .eq 25, 3) := by decide +kernel
theorem dX2_checkWay_12 : decode cX2_checkWay 12 = .ok (.iload_n 0, 1) := by decide +kernel
theorem dX2_checkWay_13 : decode cX2_checkWay 13 = .ok (.bipush 45, 2) := by decide +kernel
theorem dX2_checkWay_15 : decode cX2_checkWay 15 = .ok (.if_icmp .eq 19, 3) := by decide +kernel
theorem dX2_checkWay_18 : decode cX2_checkWay 18 = .ok (.iload_n 0, 1) := by decide +kernel
theorem dX2_checkWay_19 : decode cX2_checkWay 19 = .ok (.bipush 43, 2) := by decide +kernel
theorem dX2_checkWay_21 : decode cX2_checkWay 21 = .ok (.if_icmp .eq 13, 3) := by decide +kernel
theorem dX2_checkWay_24 : decode cX2_checkWay 24 = .ok (.new 73, 3) := by decide +kernel
theorem dX2_checkWay_27 : decode cX2_checkWay 27 = .ok (.dup, 1) := by decide +kernel
theorem dX2_checkWay_28 : decode cX2_checkWay 28 = .ok (.ldc 208, 2) := by decide +kernel
theorem dX2_checkWay_30 : decode cX2_checkWay 30 = .ok (.invokespecial 77, 3) := by decide +kernel
theorem dX2_checkWay_33 : decode cX2_checkWay 33 = .ok (.athrow, 1) := by decide +kernel
theorem dX2_checkWay_34 : decode cX2_checkWay 34 = .ok (.return_, 1) := by decide +kernel
set_option maxRecDepth 20000 in
theorem ggX2_checkJoin_X0_length : GoodIn wsX2_checkJoin wsX0_length := goodIn_r _ [8, 9, 35, 36] (by decide +kernel) (by decide +kernel)
set_option maxRecDepth 20000 in
theorem gX2_checkJoin_X0_length : GoodIn wsX2_checkJoin (wsV RX2 53 RX0 yX0_length wsX0_length) := goodIn_app (goodIn_of _ (by decide +kernel)) ggX2_checkJoin_X0_length
set_option maxRecDepth 20000 in
theorem ggX2_checkJoin_X0_lastKind : GoodIn wsX2_checkJoin wsX0_lastKind := goodIn_r _ [13, 9, 14, 15, 16, 7, 17, 18, 19, 20, 21, 35, 36] (by decide +kernel) (by decide +kernel)
set_option maxRecDepth 20000 in
theorem gX2_checkJoin_X0_lastKind : GoodIn wsX2_checkJoin (wsV RX2 210 RX0 yX0_lastKind wsX0_lastKind) := goodIn_app (goodIn_of _ (by decide +kernel)) ggX2_checkJoin_X0_lastKind
set_option maxRecDepth 20000 in
theorem ggX2_checkJoin_X0_has : GoodIn wsX2_checkJoin wsX0_has := goodIn_r _ [25, 9, 14, 15, 16, 7, 17, 18, 35, 36] (by decide +kernel) (by decide +kernel)
set_option maxRecDepth 20000 in
theorem gX2_checkJoin_X0_has : GoodIn wsX2_checkJoin (wsV RX2 215 RX0 yX0_has wsX0_has) := goodIn_app (goodIn_of _ (by decide +kernel)) ggX2_checkJoin_X0_has
set_option maxRecDepth 20000 in
theorem ggX2_checkJoin_X2_checkRoom : GoodIn wsX2_checkJoin wsX2_checkRoom := goodIn_ca (goodIn_r _ [28, 1, 2, 4, 5, 6, 7, 8, 9, 35, 36] (by decide +kernel) (by decide +kernel)) (goodIn_sub (fun _ h => List.mem_cons_of_mem _ (List.mem_append_right _ h)) (by decide +kernel))
set_option maxRecDepth 20000 in
theorem gX2_checkJoin_X2_checkRoom : GoodIn wsX2_checkJoin (va_wsS RX2 147 yX2_checkRoom wsX2_checkRoom) := goodIn_app (goodIn_of _ (by decide +kernel)) ggX2_checkJoin_X2_checkRoom
theorem dX2_checkJoin_0 : decode cX2_checkJoin 0 = .ok (.aload_n 0, 1) := by decide +kernel
theorem dX2_checkJoin_1 : decode cX2_checkJoin 1 = .ok (.getfield 10, 3) := by decide +kernel
theorem dX2_checkJoin_4 : decode cX2_checkJoin 4 = .ok (.invokevirtual 53, 3) := by decide +kernel
theorem dX2_checkJoin_7 : decode cX2_checkJoin 7 = .ok (.ifCond .ne 13, 3) := by decide +kernel
theorem dX2_checkJoin_10 : decode cX2_checkJoin 10 = .ok (.new 160, 3) := by decide +kernel
theorem dX2_checkJoin_13 : decode cX2_checkJoin 13 = .ok (.dup, 1) := by decide +kernel
theorem dX2_checkJoin_14 : decode cX2_checkJoin 14 = .ok (.ldc 94, 2) := by decide +kernel
theorem dX2_checkJoin_16 : decode cX2_checkJoin 16 = .ok (.invokespecial 164, 3) := by decide +kernel
theorem dX2_checkJoin_19 : decode cX2_checkJoin 19 = .ok (.athrow, 1) := by decide +kernel
theorem dX2_checkJoin_20 : decode cX2_checkJoin 20 = .ok (.iload_n 1, 1) := by decide +kernel
theorem dX2_checkJoin_21 : decode cX2_checkJoin 21 = .ok (.bipush 110, 2) := by decide +kernel
theorem dX2_checkJoin_23 : decode cX2_checkJoin 23 = .ok (.if_icmp .ne 24, 3) := by decide +kernel
theorem dX2_checkJoin_26 : decode cX2_checkJoin 26 = .ok (.aload_n 0, 1) := by decide +kernel
theorem dX2_checkJoin_27 : decode cX2_checkJoin 27 = .ok (.getfield 10, 3) := by decide +kernel
theorem dX2_checkJoin_30 : decode cX2_checkJoin 30 = .ok (.invokevirtual 210, 3) := by decide +kernel
theorem dX2_checkJoin_33 : decode cX2_checkJoin 33 = .ok (.iload_n 2, 1) := by decide +kernel
theorem dX2_checkJoin_34 : decode cX2_checkJoin 34 = .ok (.if_icmp .ne 13, 3) := by decide +kernel
theorem dX2_checkJoin_37 : decode cX2_checkJoin 37 = .ok (.new 160, 3) := by decide +kernel
theorem dX2_checkJoin_40 : decode cX2_checkJoin 40 = .ok (.dup, 1) := by decide +kernel
theorem dX2_checkJoin_41 : decode cX2_checkJoin 41 = .ok (.ldc 213, 2) := by decide +kernel
theorem dX2_checkJoin_43 : decode cX2_checkJoin 43 = .ok (.invokespecial 164, 3) := by decide +kernel
theorem dX2_checkJoin_46 : decode cX2_checkJoin 46 = .ok (.athrow, 1) := by decide +kernel
theorem dX2_checkJoin_47 : decode cX2_checkJoin 47 = .ok (.iload_n 1, 1) := by decide +kernel
theorem dX2_checkJoin_48 : decode cX2_checkJoin 48 = .ok (.bipush 43, 2) := by decide +kernel
theorem dX2_checkJoin_50 : decode cX2_checkJoin 50 = .ok (.if_icmp .ne 25, 3) := by decide +kernel
theorem dX2_checkJoin_53 : decode cX2_checkJoin 53 = .ok (.aload_n 0, 1) := by decide +kernel
theorem dX2_checkJoin_54 : decode cX2_checkJoin 54 = .ok (.getfield 10, 3) := by decide +kernel
theorem dX2_checkJoin_57 : decode cX2_checkJoin 57 = .ok (.bipush 45, 2) := by decide +kernel
theorem dX2_checkJoin_59 : decode cX2_checkJoin 59 = .ok (.invokevirtual 215, 3) := by decide +kernel
theorem dX2_checkJoin_62 : decode cX2_checkJoin 62 = .ok (.ifCond .ne 13, 3) := by decide +kernel
theorem dX2_checkJoin_65 : decode cX2_checkJoin 65 = .ok (.new 160, 3) := by decide +kernel
theorem dX2_checkJoin_68 : decode cX2_checkJoin 68 = .ok (.dup, 1) := by decide +kernel
theorem dX2_checkJoin_69 : decode cX2_checkJoin 69 = .ok (.ldc 219, 2) := by decide +kernel
theorem dX2_checkJoin_71 : decode cX2_checkJoin 71 = .ok (.invokespecial 164, 3) := by decide +kernel
theorem dX2_checkJoin_74 : decode cX2_checkJoin 74 = .ok (.athrow, 1) := by decide +kernel
theorem dX2_checkJoin_75 : decode cX2_checkJoin 75 = .ok (.aload_n 0, 1) := by decide +kernel
theorem dX2_checkJoin_76 : decode cX2_checkJoin 76 = .ok (.getfield 10, 3) := by decide +kernel
theorem dX2_checkJoin_79 : decode cX2_checkJoin 79 = .ok (.iload_n 1, 1) := by decide +kernel
theorem dX2_checkJoin_80 : decode cX2_checkJoin 80 = .ok (.bipush 110, 2) := by decide +kernel
theorem dX2_checkJoin_82 : decode cX2_checkJoin 82 = .ok (.if_icmp .ne 7, 3) := by decide +kernel
theorem dX2_checkJoin_85 : decode cX2_checkJoin 85 = .ok (.iload_n 3, 1) := by decide +kernel
theorem dX2_checkJoin_86 : decode cX2_checkJoin 86 = .ok (.goto 6, 3) := by decide +kernel
theorem dX2_checkJoin_89 : decode cX2_checkJoin 89 = .ok (.iconst 1, 1) := by decide +kernel
theorem dX2_checkJoin_90 : decode cX2_checkJoin 90 = .ok (.iload_n 3, 1) := by decide +kernel
theorem dX2_checkJoin_91 : decode cX2_checkJoin 91 = .ok (.iadd, 1) := by decide +kernel
theorem dX2_checkJoin_92 : decode cX2_checkJoin 92 = .ok (.invokestatic 147, 3) := by decide +kernel
theorem dX2_checkJoin_95 : decode cX2_checkJoin 95 = .ok (.return_, 1) := by decide +kernel
set_option maxRecDepth 20000 in
theorem ggX2_checkRoom_X0_length : GoodIn wsX2_checkRoom wsX0_length := goodIn_r _ [7, 8, 9, 10] (by decide +kernel) (by decide +kernel)
set_option maxRecDepth 20000 in
theorem gX2_checkRoom_X0_length : GoodIn wsX2_checkRoom (wsV RX2 53 RX0 yX0_length wsX0_length) := goodIn_app (goodIn_of _ (by decide +kernel)) ggX2_checkRoom_X0_length
theorem dX2_checkRoom_0 : decode cX2_checkRoom 0 = .ok (.iload_n 1, 1) := by decide +kernel
theorem dX2_checkRoom_1 : decode cX2_checkRoom 1 = .ok (.bipush 60, 2) := by decide +kernel
theorem dX2_checkRoom_3 : decode cX2_checkRoom 3 = .ok (.aload_n 0, 1) := by decide +kernel
theorem dX2_checkRoom_4 : decode cX2_checkRoom 4 = .ok (.invokevirtual 53, 3) := by decide +kernel
theorem dX2_checkRoom_7 : decode cX2_checkRoom 7 = .ok (.isub, 1) := by decide +kernel
theorem dX2_checkRoom_8 : decode cX2_checkRoom 8 = .ok (.if_icmp .le 13, 3) := by decide +kernel
theorem dX2_checkRoom_11 : decode cX2_checkRoom 11 = .ok (.new 160, 3) := by decide +kernel
theorem dX2_checkRoom_14 : decode cX2_checkRoom 14 = .ok (.dup, 1) := by decide +kernel
theorem dX2_checkRoom_15 : decode cX2_checkRoom 15 = .ok (.ldc 221, 2) := by decide +kernel
theorem dX2_checkRoom_17 : decode cX2_checkRoom 17 = .ok (.invokespecial 164, 3) := by decide +kernel
theorem dX2_checkRoom_20 : decode cX2_checkRoom 20 = .ok (.athrow, 1) := by decide +kernel
theorem dX2_checkRoom_21 : decode cX2_checkRoom 21 = .ok (.return_, 1) := by decide +kernel
set_option maxRecDepth 20000 in
theorem ggX2_checkPlace_X0_length : GoodIn wsX2_checkPlace wsX0_length := goodIn_r _ [7, 8, 9, 10] (by decide +kernel) (by decide +kernel)
set_option maxRecDepth 20000 in
theorem gX2_checkPlace_X0_length : GoodIn wsX2_checkPlace (wsV RX2 53 RX0 yX0_length wsX0_length) := goodIn_app (goodIn_of _ (by decide +kernel)) ggX2_checkPlace_X0_length
theorem dX2_checkPlace_0 : decode cX2_checkPlace 0 = .ok (.iload_n 1, 1) := by decide +kernel
theorem dX2_checkPlace_1 : decode cX2_checkPlace 1 = .ok (.ifCond .lt 11, 3) := by decide +kernel
theorem dX2_checkPlace_4 : decode cX2_checkPlace 4 = .ok (.iload_n 1, 1) := by decide +kernel
theorem dX2_checkPlace_5 : decode cX2_checkPlace 5 = .ok (.aload_n 0, 1) := by decide +kernel
theorem dX2_checkPlace_6 : decode cX2_checkPlace 6 = .ok (.invokevirtual 53, 3) := by decide +kernel
theorem dX2_checkPlace_9 : decode cX2_checkPlace 9 = .ok (.if_icmp .lt 13, 3) := by decide +kernel
theorem dX2_checkPlace_12 : decode cX2_checkPlace 12 = .ok (.new 126, 3) := by decide +kernel
theorem dX2_checkPlace_15 : decode cX2_checkPlace 15 = .ok (.dup, 1) := by decide +kernel
theorem dX2_checkPlace_16 : decode cX2_checkPlace 16 = .ok (.ldc 223, 2) := by decide +kernel
theorem dX2_checkPlace_18 : decode cX2_checkPlace 18 = .ok (.invokespecial 130, 3) := by decide +kernel
theorem dX2_checkPlace_21 : decode cX2_checkPlace 21 = .ok (.athrow, 1) := by decide +kernel
theorem dX2_checkPlace_22 : decode cX2_checkPlace 22 = .ok (.return_, 1) := by decide +kernel
theorem dX2_checkSlot_0 : decode cX2_checkSlot 0 = .ok (.iload_n 0, 1) := by decide +kernel
theorem dX2_checkSlot_1 : decode cX2_checkSlot 1 = .ok (.ifCond .lt 9, 3) := by decide +kernel
theorem dX2_checkSlot_4 : decode cX2_checkSlot 4 = .ok (.iload_n 0, 1) := by decide +kernel
theorem dX2_checkSlot_5 : decode cX2_checkSlot 5 = .ok (.bipush 8, 2) := by decide +kernel
theorem dX2_checkSlot_7 : decode cX2_checkSlot 7 = .ok (.if_icmp .lt 13, 3) := by decide +kernel
theorem dX2_checkSlot_10 : decode cX2_checkSlot 10 = .ok (.new 126, 3) := by decide +kernel
theorem dX2_checkSlot_13 : decode cX2_checkSlot 13 = .ok (.dup, 1) := by decide +kernel
theorem dX2_checkSlot_14 : decode cX2_checkSlot 14 = .ok (.ldc 225, 2) := by decide +kernel
theorem dX2_checkSlot_16 : decode cX2_checkSlot 16 = .ok (.invokespecial 130, 3) := by decide +kernel
theorem dX2_checkSlot_19 : decode cX2_checkSlot 19 = .ok (.athrow, 1) := by decide +kernel
theorem dX2_checkSlot_20 : decode cX2_checkSlot 20 = .ok (.return_, 1) := by decide +kernel
theorem dX2_checkRow_0 : decode cX2_checkRow 0 = .ok (.iload_n 0, 1) := by decide +kernel
theorem dX2_checkRow_1 : decode cX2_checkRow 1 = .ok (.ifCond .lt 8, 3) := by decide +kernel
theorem dX2_checkRow_4 : decode cX2_checkRow 4 = .ok (.iload_n 0, 1) := by decide +kernel
theorem dX2_checkRow_5 : decode cX2_checkRow 5 = .ok (.iconst 3, 1) := by decide +kernel
theorem dX2_checkRow_6 : decode cX2_checkRow 6 = .ok (.if_icmp .lt 13, 3) := by decide +kernel
theorem dX2_checkRow_9 : decode cX2_checkRow 9 = .ok (.new 73, 3) := by decide +kernel
theorem dX2_checkRow_12 : decode cX2_checkRow 12 = .ok (.dup, 1) := by decide +kernel
theorem dX2_checkRow_13 : decode cX2_checkRow 13 = .ok (.ldc 227, 2) := by decide +kernel
theorem dX2_checkRow_15 : decode cX2_checkRow 15 = .ok (.invokespecial 77, 3) := by decide +kernel
theorem dX2_checkRow_18 : decode cX2_checkRow 18 = .ok (.athrow, 1) := by decide +kernel
theorem dX2_checkRow_19 : decode cX2_checkRow 19 = .ok (.return_, 1) := by decide +kernel
set_option maxRecDepth 20000 in
theorem ggX2_versionIn_X2_checkSlot : GoodIn wsX2_versionIn wsX2_checkSlot := goodIn_ca (goodIn_r _ [5, 6, 7] (by decide +kernel) (by decide +kernel)) (goodIn_sub (fun _ h => List.mem_cons_of_mem _ (List.mem_append_right _ h)) (by decide +kernel))
set_option maxRecDepth 20000 in
theorem gX2_versionIn_X2_checkSlot : GoodIn wsX2_versionIn (va_wsS RX2 91 yX2_checkSlot wsX2_checkSlot) := goodIn_app (goodIn_of _ (by decide +kernel)) ggX2_versionIn_X2_checkSlot
theorem dX2_versionIn_0 : decode cX2_versionIn 0 = .ok (.iload_n 1, 1) := by decide +kernel
theorem dX2_versionIn_1 : decode cX2_versionIn 1 = .ok (.invokestatic 91, 3) := by decide +kernel
theorem dX2_versionIn_4 : decode cX2_versionIn 4 = .ok (.aload_n 0, 1) := by decide +kernel
theorem dX2_versionIn_5 : decode cX2_versionIn 5 = .ok (.getfield 18, 3) := by decide +kernel
theorem dX2_versionIn_8 : decode cX2_versionIn 8 = .ok (.iload_n 1, 1) := by decide +kernel
theorem dX2_versionIn_9 : decode cX2_versionIn 9 = .ok (.aaload, 1) := by decide +kernel
theorem dX2_versionIn_10 : decode cX2_versionIn 10 = .ok (.areturn, 1) := by decide +kernel
set_option maxRecDepth 20000 in
theorem ggX2_putJoint_X0_put : GoodIn wsX2_putJoint wsX0_put := goodIn_r _ [6, 7, 8, 15, 16] (by decide +kernel) (by decide +kernel)
set_option maxRecDepth 20000 in
theorem gX2_putJoint_X0_put : GoodIn wsX2_putJoint (wsV RX2 109 RX0 yX0_put wsX0_put) := goodIn_app (goodIn_of _ (by decide +kernel)) ggX2_putJoint_X0_put
theorem dX2_putJoint_0 : decode cX2_putJoint 0 = .ok (.iload_n 1, 1) := by decide +kernel
theorem dX2_putJoint_1 : decode cX2_putJoint 1 = .ok (.bipush 110, 2) := by decide +kernel
theorem dX2_putJoint_3 : decode cX2_putJoint 3 = .ok (.if_icmp .eq 11, 3) := by decide +kernel
theorem dX2_putJoint_6 : decode cX2_putJoint 6 = .ok (.aload_n 0, 1) := by decide +kernel
theorem dX2_putJoint_7 : decode cX2_putJoint 7 = .ok (.getfield 10, 3) := by decide +kernel
theorem dX2_putJoint_10 : decode cX2_putJoint 10 = .ok (.iload_n 1, 1) := by decide +kernel
theorem dX2_putJoint_11 : decode cX2_putJoint 11 = .ok (.invokevirtual 109, 3) := by decide +kernel
theorem dX2_putJoint_14 : decode cX2_putJoint 14 = .ok (.return_, 1) := by decide +kernel
set_option maxRecDepth 20000 in
theorem ggX2_exchangeSpare_X2_versionIn : GoodIn wsX2_exchangeSpare wsX2_versionIn := goodIn_ca (goodIn_r _ [7, 2, 8, 9, 6, 10, 11, 12, 66, 67, 68, 69, 70, 71] (by decide +kernel) (by decide +kernel)) (goodIn_sub (fun _ h => List.mem_cons_of_mem _ (List.mem_append_right _ h)) (by decide +kernel))
set_option maxRecDepth 20000 in
theorem gX2_exchangeSpare_X2_versionIn : GoodIn wsX2_exchangeSpare (wsV RX2 112 RX2 yX2_versionIn wsX2_versionIn) := goodIn_app (goodIn_of _ (by decide +kernel)) ggX2_exchangeSpare_X2_versionIn
set_option maxRecDepth 20000 in
theorem ggX2_exchangeSpare_X1_orderTo : GoodIn wsX2_exchangeSpare wsX1_orderTo := goodIn_r _ [17, 18, 19, 20, 16, 21, 22, 23, 24, 25, 26, 27, 28, 29, 30, 31, 32, 33, 34, 35, 36, 37, 38, 39, 40, 41, 42, 43, 44, 45, 46, 47, 48, 49, 50, 51, 52, 53, 54, 55, 56, 57, 58, 59, 60, 61, 6, 62, 63, 64, 65, 72, 73, 74, 75, 76, 77] (by decide +kernel) (by decide +kernel)
set_option maxRecDepth 20000 in
theorem gX2_exchangeSpare_X1_orderTo : GoodIn wsX2_exchangeSpare (wsV RX2 135 RX1 yX1_orderTo wsX1_orderTo) := goodIn_app (goodIn_of _ (by decide +kernel)) ggX2_exchangeSpare_X1_orderTo
theorem dX2_exchangeSpare_0 : decode cX2_exchangeSpare 0 = .ok (.aload_n 0, 1) := by decide +kernel
theorem dX2_exchangeSpare_1 : decode cX2_exchangeSpare 1 = .ok (.iload_n 1, 1) := by decide +kernel
theorem dX2_exchangeSpare_2 : decode cX2_exchangeSpare 2 = .ok (.invokevirtual 112, 3) := by decide +kernel
theorem dX2_exchangeSpare_5 : decode cX2_exchangeSpare 5 = .ok (.astore_n 2, 1) := by decide +kernel
theorem dX2_exchangeSpare_6 : decode cX2_exchangeSpare 6 = .ok (.aload_n 0, 1) := by decide +kernel
theorem dX2_exchangeSpare_7 : decode cX2_exchangeSpare 7 = .ok (.getfield 33, 3) := by decide +kernel
theorem dX2_exchangeSpare_10 : decode cX2_exchangeSpare 10 = .ok (.aload_n 2, 1) := by decide +kernel
theorem dX2_exchangeSpare_11 : decode cX2_exchangeSpare 11 = .ok (.invokevirtual 135, 3) := by decide +kernel
theorem dX2_exchangeSpare_14 : decode cX2_exchangeSpare 14 = .ok (.istore_n 3, 1) := by decide +kernel
theorem dX2_exchangeSpare_15 : decode cX2_exchangeSpare 15 = .ok (.aload_n 0, 1) := by decide +kernel
theorem dX2_exchangeSpare_16 : decode cX2_exchangeSpare 16 = .ok (.getfield 18, 3) := by decide +kernel
theorem dX2_exchangeSpare_19 : decode cX2_exchangeSpare 19 = .ok (.iload_n 1, 1) := by decide +kernel
theorem dX2_exchangeSpare_20 : decode cX2_exchangeSpare 20 = .ok (.aload_n 0, 1) := by decide +kernel
theorem dX2_exchangeSpare_21 : decode cX2_exchangeSpare 21 = .ok (.getfield 33, 3) := by decide +kernel
theorem dX2_exchangeSpare_24 : decode cX2_exchangeSpare 24 = .ok (.aastore, 1) := by decide +kernel
theorem dX2_exchangeSpare_25 : decode cX2_exchangeSpare 25 = .ok (.aload_n 0, 1) := by decide +kernel
theorem dX2_exchangeSpare_26 : decode cX2_exchangeSpare 26 = .ok (.aload_n 2, 1) := by decide +kernel
theorem dX2_exchangeSpare_27 : decode cX2_exchangeSpare 27 = .ok (.putfield 33, 3) := by decide +kernel
theorem dX2_exchangeSpare_30 : decode cX2_exchangeSpare 30 = .ok (.iload_n 3, 1) := by decide +kernel
theorem dX2_exchangeSpare_31 : decode cX2_exchangeSpare 31 = .ok (.ireturn, 1) := by decide +kernel
set_option maxRecDepth 20000 in
theorem ggX2_parseAnew_X1_tell : GoodIn wsX2_parseAnew wsX1_tell := goodIn_r _ [6, 7, 8, 9, 10, 11, 12, 13, 14, 15, 16, 17, 18, 19, 20, 21, 22, 23, 24, 25, 26, 27, 28, 29, 30, 68, 69, 70, 71, 72, 73] (by decide +kernel) (by decide +kernel)
set_option maxRecDepth 20000 in
theorem gX2_parseAnew_X1_tell : GoodIn wsX2_parseAnew (wsV RX2 96 RX1 yX1_tell wsX1_tell) := goodIn_app (goodIn_of _ (by decide +kernel)) ggX2_parseAnew_X1_tell
set_option maxRecDepth 20000 in
theorem ggX2_parseAnew_X1_readTokens : GoodIn wsX2_parseAnew wsX1_readTokens := goodIn_r _ [34, 35, 7, 36, 19, 20, 11, 21, 13, 37, 23, 24, 25, 26, 38, 39, 40, 41, 42, 5, 43, 44, 45, 46, 47, 48, 49, 50, 51, 52, 53, 54, 55, 56, 57, 58, 59, 60, 61, 68, 69, 70, 71, 72, 73] (by decide +kernel) (by decide +kernel)
set_option maxRecDepth 20000 in
theorem gX2_parseAnew_X1_readTokens : GoodIn wsX2_parseAnew (wsV RX2 100 RX1 yX1_readTokens wsX1_readTokens) := goodIn_app (goodIn_of _ (by decide +kernel)) ggX2_parseAnew_X1_readTokens
theorem dX2_parseAnew_0 : decode cX2_parseAnew 0 = .ok (.aload_n 0, 1) := by decide +kernel
theorem dX2_parseAnew_1 : decode cX2_parseAnew 1 = .ok (.getfield 33, 3) := by decide +kernel
theorem dX2_parseAnew_4 : decode cX2_parseAnew 4 = .ok (.aload_n 1, 1) := by decide +kernel
theorem dX2_parseAnew_5 : decode cX2_parseAnew 5 = .ok (.getfield 106, 3) := by decide +kernel
theorem dX2_parseAnew_8 : decode cX2_parseAnew 8 = .ok (.invokevirtual 96, 3) := by decide +kernel
theorem dX2_parseAnew_11 : decode cX2_parseAnew 11 = .ok (.aload_n 0, 1) := by decide +kernel
theorem dX2_parseAnew_12 : decode cX2_parseAnew 12 = .ok (.getfield 33, 3) := by decide +kernel
theorem dX2_parseAnew_15 : decode cX2_parseAnew 15 = .ok (.invokevirtual 100, 3) := by decide +kernel
theorem dX2_parseAnew_18 : decode cX2_parseAnew 18 = .ok (.return_, 1) := by decide +kernel
set_option maxRecDepth 20000 in
theorem ggX2_parseWithNumberBehind_X1_tell : GoodIn wsX2_parseWithNumberBehind wsX1_tell := goodIn_r _ [6, 7, 8, 9, 10, 11, 12, 13, 14, 15, 16, 17, 18, 19, 20, 21, 22, 23, 24, 25, 26, 27, 28, 29, 30, 74, 75, 76, 77, 78, 79] (by decide +kernel) (by decide +kernel)
set_option maxRecDepth 20000 in
theorem gX2_parseWithNumberBehind_X1_tell : GoodIn wsX2_parseWithNumberBehind (wsV RX2 96 RX1 yX1_tell wsX1_tell) := goodIn_app (goodIn_of _ (by decide +kernel)) ggX2_parseWithNumberBehind_X1_tell
set_option maxRecDepth 20000 in
theorem ggX2_parseWithNumberBehind_X0_put : GoodIn wsX2_parseWithNumberBehind wsX0_put := goodIn_r _ [30, 13, 26, 78, 79] (by decide +kernel) (by decide +kernel)
set_option maxRecDepth 20000 in
theorem gX2_parseWithNumberBehind_X0_put : GoodIn wsX2_parseWithNumberBehind (wsV RX2 109 RX0 yX0_put wsX0_put) := goodIn_app (goodIn_of _ (by decide +kernel)) ggX2_parseWithNumberBehind_X0_put
set_option maxRecDepth 20000 in
theorem ggX2_parseWithNumberBehind_X0_putNumber : GoodIn wsX2_parseWithNumberBehind wsX0_putNumber := goodIn_r _ [35, 36, 27, 28, 29, 11, 30, 13, 26, 78, 79] (by decide +kernel) (by decide +kernel)
set_option maxRecDepth 20000 in
theorem gX2_parseWithNumberBehind_X0_putNumber : GoodIn wsX2_parseWithNumberBehind (wsV RX2 49 RX0 yX0_putNumber wsX0_putNumber) := goodIn_app (goodIn_of _ (by decide +kernel)) ggX2_parseWithNumberBehind_X0_putNumber
set_option maxRecDepth 20000 in
theorem ggX2_parseWithNumberBehind_X1_readTokens : GoodIn wsX2_parseWithNumberBehind wsX1_readTokens := goodIn_r _ [40, 41, 7, 42, 19, 20, 11, 21, 13, 43, 23, 24, 25, 26, 44, 45, 46, 47, 48, 5, 49, 50, 51, 52, 53, 54, 55, 56, 57, 58, 59, 60, 61, 62, 63, 64, 65, 66, 67, 74, 75, 76, 77, 78, 79] (by decide +kernel) (by decide +kernel)
set_option maxRecDepth 20000 in
theorem gX2_parseWithNumberBehind_X1_readTokens : GoodIn wsX2_parseWithNumberBehind (wsV RX2 100 RX1 yX1_readTokens wsX1_readTokens) := goodIn_app (goodIn_of _ (by decide +kernel)) ggX2_parseWithNumberBehind_X1_readTokens
theorem dX2_parseWithNumberBehind_0 : decode cX2_parseWithNumberBehind 0 = .ok (.aload_n 0, 1) := by decide +kernel
theorem dX2_parseWithNumberBehind_1 : decode cX2_parseWithNumberBehind 1 = .ok (.getfield 33, 3) := by decide +kernel
theorem dX2_parseWithNumberBehind_4 : decode cX2_parseWithNumberBehind 4 = .ok (.aload_n 1, 1) := by decide +kernel
theorem dX2_parseWithNumberBehind_5 : decode cX2_parseWithNumberBehind 5 = .ok (.getfield 106, 3) := by decide +kernel
theorem dX2_parseWithNumberBehind_8 : decode cX2_parseWithNumberBehind 8 = .ok (.invokevirtual 96, 3) := by decide +kernel
theorem dX2_parseWithNumberBehind_11 : decode cX2_parseWithNumberBehind 11 = .ok (.aload_n 0, 1) := by decide +kernel
theorem dX2_parseWithNumberBehind_12 : decode cX2_parseWithNumberBehind 12 = .ok (.getfield 33, 3) := by decide +kernel
theorem dX2_parseWithNumberBehind_15 : decode cX2_parseWithNumberBehind 15 = .ok (.getfield 106, 3) := by decide +kernel
theorem dX2_parseWithNumberBehind_18 : decode cX2_parseWithNumberBehind 18 = .ok (.iload_n 2, 1) := by decide +kernel
theorem dX2_parseWithNumberBehind_19 : decode cX2_parseWithNumberBehind 19 = .ok (.invokevirtual 109, 3) := by decide +kernel
theorem dX2_parseWithNumberBehind_22 : decode cX2_parseWithNumberBehind 22 = .ok (.aload_n 0, 1) := by decide +kernel
theorem dX2_parseWithNumberBehind_23 : decode cX2_parseWithNumberBehind 23 = .ok (.getfield 33, 3) := by decide +kernel
theorem dX2_parseWithNumberBehind_26 : decode cX2_parseWithNumberBehind 26 = .ok (.getfield 106, 3) := by decide +kernel
theorem dX2_parseWithNumberBehind_29 : decode cX2_parseWithNumberBehind 29 = .ok (.iload_n 3, 1) := by decide +kernel
theorem dX2_parseWithNumberBehind_30 : decode cX2_parseWithNumberBehind 30 = .ok (.iconst 0, 1) := by decide +kernel
theorem dX2_parseWithNumberBehind_31 : decode cX2_parseWithNumberBehind 31 = .ok (.invokevirtual 49, 3) := by decide +kernel
theorem dX2_parseWithNumberBehind_34 : decode cX2_parseWithNumberBehind 34 = .ok (.aload_n 0, 1) := by decide +kernel
theorem dX2_parseWithNumberBehind_35 : decode cX2_parseWithNumberBehind 35 = .ok (.getfield 33, 3) := by decide +kernel
theorem dX2_parseWithNumberBehind_38 : decode cX2_parseWithNumberBehind 38 = .ok (.invokevirtual 100, 3) := by decide +kernel
theorem dX2_parseWithNumberBehind_41 : decode cX2_parseWithNumberBehind 41 = .ok (.return_, 1) := by decide +kernel
set_option maxRecDepth 20000 in
theorem ggX2_parseWithLetterBehind_X1_tell : GoodIn wsX2_parseWithLetterBehind wsX1_tell := goodIn_r _ [6, 7, 8, 9, 10, 11, 12, 13, 14, 15, 16, 17, 18, 19, 20, 21, 22, 23, 24, 25, 26, 27, 28, 29, 30, 69, 70, 71, 72, 73, 74] (by decide +kernel) (by decide +kernel)
set_option maxRecDepth 20000 in
theorem gX2_parseWithLetterBehind_X1_tell : GoodIn wsX2_parseWithLetterBehind (wsV RX2 96 RX1 yX1_tell wsX1_tell) := goodIn_app (goodIn_of _ (by decide +kernel)) ggX2_parseWithLetterBehind_X1_tell
set_option maxRecDepth 20000 in
theorem ggX2_parseWithLetterBehind_X0_put : GoodIn wsX2_parseWithLetterBehind wsX0_put := goodIn_r _ [30, 13, 26, 73, 74] (by decide +kernel) (by decide +kernel)
set_option maxRecDepth 20000 in
theorem gX2_parseWithLetterBehind_X0_put : GoodIn wsX2_parseWithLetterBehind (wsV RX2 109 RX0 yX0_put wsX0_put) := goodIn_app (goodIn_of _ (by decide +kernel)) ggX2_parseWithLetterBehind_X0_put
set_option maxRecDepth 20000 in
theorem ggX2_parseWithLetterBehind_X1_readTokens : GoodIn wsX2_parseWithLetterBehind wsX1_readTokens := goodIn_r _ [35, 36, 7, 37, 19, 20, 11, 21, 13, 38, 23, 24, 25, 26, 39, 40, 41, 42, 43, 5, 44, 45, 46, 47, 48, 49, 50, 51, 52, 53, 54, 55, 56, 57, 58, 59, 60, 61, 62, 69, 70, 71, 72, 73, 74] (by decide +kernel) (by decide +kernel)
set_option maxRecDepth 20000 in
theorem gX2_parseWithLetterBehind_X1_readTokens : GoodIn wsX2_parseWithLetterBehind (wsV RX2 100 RX1 yX1_readTokens wsX1_readTokens) := goodIn_app (goodIn_of _ (by decide +kernel)) ggX2_parseWithLetterBehind_X1_readTokens
theorem dX2_parseWithLetterBehind_0 : decode cX2_parseWithLetterBehind 0 = .ok (.aload_n 0, 1) := by decide +kernel
theorem dX2_parseWithLetterBehind_1 : decode cX2_parseWithLetterBehind 1 = .ok (.getfield 33, 3) := by decide +kernel
theorem dX2_parseWithLetterBehind_4 : decode cX2_parseWithLetterBehind 4 = .ok (.aload_n 1, 1) := by decide +kernel
theorem dX2_parseWithLetterBehind_5 : decode cX2_parseWithLetterBehind 5 = .ok (.getfield 106, 3) := by decide +kernel
theorem dX2_parseWithLetterBehind_8 : decode cX2_parseWithLetterBehind 8 = .ok (.invokevirtual 96, 3) := by decide +kernel
theorem dX2_parseWithLetterBehind_11 : decode cX2_parseWithLetterBehind 11 = .ok (.aload_n 0, 1) := by decide +kernel
theorem dX2_parseWithLetterBehind_12 : decode cX2_parseWithLetterBehind 12 = .ok (.getfield 33, 3) := by decide +kernel
theorem dX2_parseWithLetterBehind_15 : decode cX2_parseWithLetterBehind 15 = .ok (.getfield 106, 3) := by decide +kernel
theorem dX2_parseWithLetterBehind_18 : decode cX2_parseWithLetterBehind 18 = .ok (.bipush 45, 2) := by decide +kernel
theorem dX2_parseWithLetterBehind_20 : decode cX2_parseWithLetterBehind 20 = .ok (.invokevirtual 109, 3) := by decide +kernel
theorem dX2_parseWithLetterBehind_23 : decode cX2_parseWithLetterBehind 23 = .ok (.aload_n 0, 1) := by decide +kernel
theorem dX2_parseWithLetterBehind_24 : decode cX2_parseWithLetterBehind 24 = .ok (.getfield 33, 3) := by decide +kernel
theorem dX2_parseWithLetterBehind_27 : decode cX2_parseWithLetterBehind 27 = .ok (.getfield 106, 3) := by decide +kernel
theorem dX2_parseWithLetterBehind_30 : decode cX2_parseWithLetterBehind 30 = .ok (.iload_n 2, 1) := by decide +kernel
theorem dX2_parseWithLetterBehind_31 : decode cX2_parseWithLetterBehind 31 = .ok (.invokevirtual 109, 3) := by decide +kernel
theorem dX2_parseWithLetterBehind_34 : decode cX2_parseWithLetterBehind 34 = .ok (.aload_n 0, 1) := by decide +kernel
theorem dX2_parseWithLetterBehind_35 : decode cX2_parseWithLetterBehind 35 = .ok (.getfield 33, 3) := by decide +kernel
theorem dX2_parseWithLetterBehind_38 : decode cX2_parseWithLetterBehind 38 = .ok (.invokevirtual 100, 3) := by decide +kernel
theorem dX2_parseWithLetterBehind_41 : decode cX2_parseWithLetterBehind 41 = .ok (.return_, 1) := by decide +kernel
set_option maxRecDepth 20000 in
theorem ggX2_orderSlots_X2_versionIn : GoodIn wsX2_orderSlots wsX2_versionIn := goodIn_ca (goodIn_r _ [7, 1, 8, 9, 6, 10, 11, 12, 66, 67, 68, 69, 70, 71] (by decide +kernel) (by decide +kernel)) (goodIn_sub (fun _ h => List.mem_cons_of_mem _ (List.mem_append_right _ h)) (by decide +kernel))
set_option maxRecDepth 20000 in
theorem gX2_orderSlots_X2_versionIn : GoodIn wsX2_orderSlots (wsV RX2 112 RX2 yX2_versionIn wsX2_versionIn) := goodIn_app (goodIn_of _ (by decide +kernel)) ggX2_orderSlots_X2_versionIn
set_option maxRecDepth 20000 in
theorem ggX2_orderSlots_X1_orderTo : GoodIn wsX2_orderSlots wsX1_orderTo := goodIn_r _ [17, 18, 19, 20, 16, 21, 22, 23, 24, 25, 26, 27, 28, 29, 30, 31, 32, 33, 34, 35, 36, 37, 38, 39, 40, 41, 42, 43, 44, 45, 46, 47, 48, 49, 50, 51, 52, 53, 54, 55, 56, 57, 58, 59, 60, 61, 6, 62, 63, 64, 65, 72, 73, 74, 75, 76, 77] (by decide +kernel) (by decide +kernel)
set_option maxRecDepth 20000 in
theorem gX2_orderSlots_X1_orderTo : GoodIn wsX2_orderSlots (wsV RX2 135 RX1 yX1_orderTo wsX1_orderTo) := goodIn_app (goodIn_of _ (by decide +kernel)) ggX2_orderSlots_X1_orderTo
theorem dX2_orderSlots_0 : decode cX2_orderSlots 0 = .ok (.iconst 0, 1) := by decide +kernel
theorem dX2_orderSlots_1 : decode cX2_orderSlots 1 = .ok (.istore_n 1, 1) := by decide +kernel
theorem dX2_orderSlots_2 : decode cX2_orderSlots 2 = .ok (.iload_n 1, 1) := by decide +kernel
theorem dX2_orderSlots_3 : decode cX2_orderSlots 3 = .ok (.bipush 8, 2) := by decide +kernel
theorem dX2_orderSlots_5 : decode cX2_orderSlots 5 = .ok (.if_icmp .ge 66, 3) := by decide +kernel
theorem dX2_orderSlots_8 : decode cX2_orderSlots 8 = .ok (.iload_n 1, 1) := by decide +kernel
theorem dX2_orderSlots_9 : decode cX2_orderSlots 9 = .ok (.istore_n 2, 1) := by decide +kernel
theorem dX2_orderSlots_10 : decode cX2_orderSlots 10 = .ok (.iload_n 2, 1) := by decide +kernel
theorem dX2_orderSlots_11 : decode cX2_orderSlots 11 = .ok (.ifCond .le 47, 3) := by decide +kernel
theorem dX2_orderSlots_14 : decode cX2_orderSlots 14 = .ok (.aload_n 0, 1) := by decide +kernel
theorem dX2_orderSlots_15 : decode cX2_orderSlots 15 = .ok (.getfield 18, 3) := by decide +kernel
theorem dX2_orderSlots_18 : decode cX2_orderSlots 18 = .ok (.iload_n 1, 1) := by decide +kernel
theorem dX2_orderSlots_19 : decode cX2_orderSlots 19 = .ok (.aaload, 1) := by decide +kernel
theorem dX2_orderSlots_20 : decode cX2_orderSlots 20 = .ok (.aload_n 0, 1) := by decide +kernel
theorem dX2_orderSlots_21 : decode cX2_orderSlots 21 = .ok (.aload_n 0, 1) := by decide +kernel
theorem dX2_orderSlots_22 : decode cX2_orderSlots 22 = .ok (.getfield 25, 3) := by decide +kernel
theorem dX2_orderSlots_25 : decode cX2_orderSlots 25 = .ok (.iload_n 2, 1) := by decide +kernel
theorem dX2_orderSlots_26 : decode cX2_orderSlots 26 = .ok (.iconst 1, 1) := by decide +kernel
theorem dX2_orderSlots_27 : decode cX2_orderSlots 27 = .ok (.isub, 1) := by decide +kernel
theorem dX2_orderSlots_28 : decode cX2_orderSlots 28 = .ok (.iaload, 1) := by decide +kernel
theorem dX2_orderSlots_29 : decode cX2_orderSlots 29 = .ok (.invokevirtual 112, 3) := by decide +kernel
theorem dX2_orderSlots_32 : decode cX2_orderSlots 32 = .ok (.invokevirtual 135, 3) := by decide +kernel
theorem dX2_orderSlots_35 : decode cX2_orderSlots 35 = .ok (.ifCond .ge 23, 3) := by decide +kernel
theorem dX2_orderSlots_38 : decode cX2_orderSlots 38 = .ok (.aload_n 0, 1) := by decide +kernel
theorem dX2_orderSlots_39 : decode cX2_orderSlots 39 = .ok (.getfield 25, 3) := by decide +kernel
theorem dX2_orderSlots_42 : decode cX2_orderSlots 42 = .ok (.iload_n 2, 1) := by decide +kernel
theorem dX2_orderSlots_43 : decode cX2_orderSlots 43 = .ok (.aload_n 0, 1) := by decide +kernel
theorem dX2_orderSlots_44 : decode cX2_orderSlots 44 = .ok (.getfield 25, 3) := by decide +kernel
theorem dX2_orderSlots_47 : decode cX2_orderSlots 47 = .ok (.iload_n 2, 1) := by decide +kernel
theorem dX2_orderSlots_48 : decode cX2_orderSlots 48 = .ok (.iconst 1, 1) := by decide +kernel
theorem dX2_orderSlots_49 : decode cX2_orderSlots 49 = .ok (.isub, 1) := by decide +kernel
theorem dX2_orderSlots_50 : decode cX2_orderSlots 50 = .ok (.iaload, 1) := by decide +kernel
theorem dX2_orderSlots_51 : decode cX2_orderSlots 51 = .ok (.iastore, 1) := by decide +kernel
theorem dX2_orderSlots_52 : decode cX2_orderSlots 52 = .ok (.iinc 2 (-1), 3) := by decide +kernel
theorem dX2_orderSlots_55 : decode cX2_orderSlots 55 = .ok (.goto (-45), 3) := by decide +kernel
theorem dX2_orderSlots_58 : decode cX2_orderSlots 58 = .ok (.aload_n 0, 1) := by decide +kernel
theorem dX2_orderSlots_59 : decode cX2_orderSlots 59 = .ok (.getfield 25, 3) := by decide +kernel
theorem dX2_orderSlots_62 : decode cX2_orderSlots 62 = .ok (.iload_n 2, 1) := by decide +kernel
theorem dX2_orderSlots_63 : decode cX2_orderSlots 63 = .ok (.iload_n 1, 1) := by decide +kernel
theorem dX2_orderSlots_64 : decode cX2_orderSlots 64 = .ok (.iastore, 1) := by decide +kernel
theorem dX2_orderSlots_65 : decode cX2_orderSlots 65 = .ok (.iinc 1 1, 3) := by decide +kernel
theorem dX2_orderSlots_68 : decode cX2_orderSlots 68 = .ok (.goto (-66), 3) := by decide +kernel
theorem dX2_orderSlots_71 : decode cX2_orderSlots 71 = .ok (.return_, 1) := by decide +kernel
set_option maxRecDepth 20000 in
theorem ggX2_fillOrders_X1_orderTo : GoodIn wsX2_fillOrders wsX1_orderTo := goodIn_r _ [7, 8, 9, 10, 6, 11, 12, 13, 14, 15, 16, 17, 18, 19, 20, 21, 22, 23, 24, 25, 26, 27, 28, 29, 30, 31, 32, 33, 34, 35, 36, 37, 38, 39, 40, 41, 42, 43, 44, 45, 46, 47, 48, 49, 50, 51, 52, 53, 54, 55, 56, 63, 64, 65, 66, 67, 68] (by decide +kernel) (by decide +kernel)
set_option maxRecDepth 20000 in
theorem gX2_fillOrders_X1_orderTo : GoodIn wsX2_fillOrders (wsV RX2 135 RX1 yX1_orderTo wsX1_orderTo) := goodIn_app (goodIn_of _ (by decide +kernel)) ggX2_fillOrders_X1_orderTo
theorem dX2_fillOrders_0 : decode cX2_fillOrders 0 = .ok (.iconst 0, 1) := by decide +kernel
theorem dX2_fillOrders_1 : decode cX2_fillOrders 1 = .ok (.istore_n 1, 1) := by decide +kernel
theorem dX2_fillOrders_2 : decode cX2_fillOrders 2 = .ok (.iload_n 1, 1) := by decide +kernel
theorem dX2_fillOrders_3 : decode cX2_fillOrders 3 = .ok (.bipush 8, 2) := by decide +kernel
theorem dX2_fillOrders_5 : decode cX2_fillOrders 5 = .ok (.if_icmp .ge 49, 3) := by decide +kernel
theorem dX2_fillOrders_8 : decode cX2_fillOrders 8 = .ok (.iconst 0, 1) := by decide +kernel
theorem dX2_fillOrders_9 : decode cX2_fillOrders 9 = .ok (.istore_n 2, 1) := by decide +kernel
theorem dX2_fillOrders_10 : decode cX2_fillOrders 10 = .ok (.iload_n 2, 1) := by decide +kernel
theorem dX2_fillOrders_11 : decode cX2_fillOrders 11 = .ok (.bipush 8, 2) := by decide +kernel
theorem dX2_fillOrders_13 : decode cX2_fillOrders 13 = .ok (.if_icmp .ge 35, 3) := by decide +kernel
theorem dX2_fillOrders_16 : decode cX2_fillOrders 16 = .ok (.aload_n 0, 1) := by decide +kernel
theorem dX2_fillOrders_17 : decode cX2_fillOrders 17 = .ok (.getfield 29, 3) := by decide +kernel
theorem dX2_fillOrders_20 : decode cX2_fillOrders 20 = .ok (.iload_n 1, 1) := by decide +kernel
theorem dX2_fillOrders_21 : decode cX2_fillOrders 21 = .ok (.bipush 8, 2) := by decide +kernel
theorem dX2_fillOrders_23 : decode cX2_fillOrders 23 = .ok (.imul, 1) := by decide +kernel
theorem dX2_fillOrders_24 : decode cX2_fillOrders 24 = .ok (.iload_n 2, 1) := by decide +kernel
theorem dX2_fillOrders_25 : decode cX2_fillOrders 25 = .ok (.iadd, 1) := by decide +kernel
theorem dX2_fillOrders_26 : decode cX2_fillOrders 26 = .ok (.aload_n 0, 1) := by decide +kernel
theorem dX2_fillOrders_27 : decode cX2_fillOrders 27 = .ok (.getfield 18, 3) := by decide +kernel
theorem dX2_fillOrders_30 : decode cX2_fillOrders 30 = .ok (.iload_n 1, 1) := by decide +kernel
theorem dX2_fillOrders_31 : decode cX2_fillOrders 31 = .ok (.aaload, 1) := by decide +kernel
theorem dX2_fillOrders_32 : decode cX2_fillOrders 32 = .ok (.aload_n 0, 1) := by decide +kernel
theorem dX2_fillOrders_33 : decode cX2_fillOrders 33 = .ok (.getfield 18, 3) := by decide +kernel
theorem dX2_fillOrders_36 : decode cX2_fillOrders 36 = .ok (.iload_n 2, 1) := by decide +kernel
theorem dX2_fillOrders_37 : decode cX2_fillOrders 37 = .ok (.aaload, 1) := by decide +kernel
theorem dX2_fillOrders_38 : decode cX2_fillOrders 38 = .ok (.invokevirtual 135, 3) := by decide +kernel
theorem dX2_fillOrders_41 : decode cX2_fillOrders 41 = .ok (.iastore, 1) := by decide +kernel
theorem dX2_fillOrders_42 : decode cX2_fillOrders 42 = .ok (.iinc 2 1, 3) := by decide +kernel
theorem dX2_fillOrders_45 : decode cX2_fillOrders 45 = .ok (.goto (-35), 3) := by decide +kernel
theorem dX2_fillOrders_48 : decode cX2_fillOrders 48 = .ok (.iinc 1 1, 3) := by decide +kernel
theorem dX2_fillOrders_51 : decode cX2_fillOrders 51 = .ok (.goto (-49), 3) := by decide +kernel
theorem dX2_fillOrders_54 : decode cX2_fillOrders 54 = .ok (.return_, 1) := by decide +kernel
set_option maxRecDepth 20000 in
theorem ggX2_orderOf_X2_checkSlot : GoodIn wsX2_orderOf wsX2_checkSlot := goodIn_ca (goodIn_r _ [5, 6, 7] (by decide +kernel) (by decide +kernel)) (goodIn_sub (fun _ h => List.mem_cons_of_mem _ (List.mem_append_right _ h)) (by decide +kernel))
set_option maxRecDepth 20000 in
theorem gX2_orderOf_X2_checkSlot : GoodIn wsX2_orderOf (va_wsS RX2 91 yX2_checkSlot wsX2_checkSlot) := goodIn_app (goodIn_of _ (by decide +kernel)) ggX2_orderOf_X2_checkSlot
theorem dX2_orderOf_0 : decode cX2_orderOf 0 = .ok (.iload_n 1, 1) := by decide +kernel
theorem dX2_orderOf_1 : decode cX2_orderOf 1 = .ok (.invokestatic 91, 3) := by decide +kernel
theorem dX2_orderOf_4 : decode cX2_orderOf 4 = .ok (.iload_n 2, 1) := by decide +kernel
theorem dX2_orderOf_5 : decode cX2_orderOf 5 = .ok (.invokestatic 91, 3) := by decide +kernel
theorem dX2_orderOf_8 : decode cX2_orderOf 8 = .ok (.aload_n 0, 1) := by decide +kernel
theorem dX2_orderOf_9 : decode cX2_orderOf 9 = .ok (.getfield 29, 3) := by decide +kernel
theorem dX2_orderOf_12 : decode cX2_orderOf 12 = .ok (.iload_n 1, 1) := by decide +kernel
theorem dX2_orderOf_13 : decode cX2_orderOf 13 = .ok (.bipush 8, 2) := by decide +kernel
theorem dX2_orderOf_15 : decode cX2_orderOf 15 = .ok (.imul, 1) := by decide +kernel
theorem dX2_orderOf_16 : decode cX2_orderOf 16 = .ok (.iload_n 2, 1) := by decide +kernel
theorem dX2_orderOf_17 : decode cX2_orderOf 17 = .ok (.iadd, 1) := by decide +kernel
theorem dX2_orderOf_18 : decode cX2_orderOf 18 = .ok (.iaload, 1) := by decide +kernel
theorem dX2_orderOf_19 : decode cX2_orderOf 19 = .ok (.ireturn, 1) := by decide +kernel
set_option maxRecDepth 20000 in
theorem ggX2_isTrueOfOne_X2_parseAnew : GoodIn wsX2_isTrueOfOne wsX2_parseAnew := goodIn_r _ [6, 1, 7, 8, 9, 10, 11, 12, 13, 14, 15, 16, 17, 18, 19, 20, 21, 22, 23, 24, 25, 26, 27, 28, 29, 30, 31, 32, 33, 34, 35, 36, 37, 38, 39, 40, 41, 42, 43, 5, 44, 45, 46, 47, 48, 49, 50, 51, 52, 53, 54, 55, 56, 57, 58, 59, 60, 61, 62, 63, 64, 65, 119, 120, 121, 122, 123, 124, 125, 126, 127, 128, 129, 130] (by decide +kernel) (by decide +kernel)
set_option maxRecDepth 20000 in
theorem gX2_isTrueOfOne_X2_parseAnew : GoodIn wsX2_isTrueOfOne (wsV RX2 116 RX2 yX2_parseAnew wsX2_parseAnew) := goodIn_app (goodIn_of _ (by decide +kernel)) ggX2_isTrueOfOne_X2_parseAnew
set_option maxRecDepth 20000 in
theorem ggX2_isTrueOfOne_X0_isLike : GoodIn wsX2_isTrueOfOne wsX0_isLike := goodIn_r _ [69, 18, 23, 24, 25, 16, 26, 27, 28, 29, 30, 31, 129, 130] (by decide +kernel) (by decide +kernel)
set_option maxRecDepth 20000 in
theorem gX2_isTrueOfOne_X0_isLike : GoodIn wsX2_isTrueOfOne (wsV RX2 229 RX0 yX0_isLike wsX0_isLike) := goodIn_app (goodIn_of _ (by decide +kernel)) ggX2_isTrueOfOne_X0_isLike
set_option maxRecDepth 20000 in
theorem ggX2_isTrueOfOne_X1_orderTo : GoodIn wsX2_isTrueOfOne wsX1_orderTo := goodIn_r _ [73, 74, 75, 76, 10, 77, 78, 79, 80, 81, 82, 83, 84, 85, 54, 55, 56, 57, 40, 86, 87, 88, 89, 53, 62, 63, 64, 65, 90, 91, 92, 93, 12, 94, 95, 96, 97, 52, 42, 28, 29, 16, 30, 18, 31, 98, 5, 99, 100, 101, 102, 125, 126, 127, 128, 129, 130] (by decide +kernel) (by decide +kernel)
set_option maxRecDepth 20000 in
theorem gX2_isTrueOfOne_X1_orderTo : GoodIn wsX2_isTrueOfOne (wsV RX2 135 RX1 yX1_orderTo wsX1_orderTo) := goodIn_app (goodIn_of _ (by decide +kernel)) ggX2_isTrueOfOne_X1_orderTo
set_option maxRecDepth 20000 in
theorem ggX2_isTrueOfOne_X0_length : GoodIn wsX2_isTrueOfOne wsX0_length := goodIn_r _ [26, 18, 129, 130] (by decide +kernel) (by decide +kernel)
set_option maxRecDepth 20000 in
theorem gX2_isTrueOfOne_X0_length : GoodIn wsX2_isTrueOfOne (wsV RX2 53 RX0 yX0_length wsX0_length) := goodIn_app (goodIn_of _ (by decide +kernel)) ggX2_isTrueOfOne_X0_length
set_option maxRecDepth 20000 in
theorem ggX2_isTrueOfOne_X2_parseWithNumberBehind : GoodIn wsX2_isTrueOfOne wsX2_parseWithNumberBehind := goodIn_r _ [107, 1, 7, 8, 9, 10, 11, 12, 13, 14, 15, 16, 17, 18, 19, 20, 21, 22, 23, 24, 25, 26, 27, 28, 29, 30, 31, 32, 33, 34, 35, 108, 109, 110, 111, 112, 113, 36, 37, 38, 39, 40, 41, 42, 43, 5, 44, 45, 46, 47, 48, 49, 50, 51, 52, 53, 54, 55, 56, 57, 58, 59, 60, 61, 62, 63, 64, 65, 119, 120, 121, 122, 123, 124, 125, 126, 127, 128, 129, 130] (by decide +kernel) (by decide +kernel)
set_option maxRecDepth 20000 in
theorem gX2_isTrueOfOne_X2_parseWithNumberBehind : GoodIn wsX2_isTrueOfOne (wsV RX2 150 RX2 yX2_parseWithNumberBehind wsX2_parseWithNumberBehind) := goodIn_app (goodIn_of _ (by decide +kernel)) ggX2_isTrueOfOne_X2_parseWithNumberBehind
set_option maxRecDepth 20000 in
theorem ggX2_isTrueOfOne_X1_hasRow : GoodIn wsX2_isTrueOfOne wsX1_hasRow := goodIn_r _ [85, 54, 55, 56, 10, 57, 40, 125, 126, 127, 128] (by decide +kernel) (by decide +kernel)
set_option maxRecDepth 20000 in
theorem gX2_isTrueOfOne_X1_hasRow : GoodIn wsX2_isTrueOfOne (wsV RX2 156 RX1 yX1_hasRow wsX1_hasRow) := goodIn_app (goodIn_of _ (by decide +kernel)) ggX2_isTrueOfOne_X1_hasRow
set_option maxRecDepth 20000 in
theorem ggX2_isTrueOfOne_X2_parseWithLetterBehind : GoodIn wsX2_isTrueOfOne wsX2_parseWithLetterBehind := goodIn_r _ [118, 1, 7, 8, 9, 10, 11, 12, 13, 14, 15, 16, 17, 18, 19, 20, 21, 22, 23, 24, 25, 26, 27, 28, 29, 30, 31, 32, 33, 34, 35, 108, 36, 37, 38, 39, 40, 41, 42, 43, 5, 44, 45, 46, 47, 48, 49, 50, 51, 52, 53, 54, 55, 56, 57, 58, 59, 60, 61, 62, 63, 64, 65, 119, 120, 121, 122, 123, 124, 125, 126, 127, 128, 129, 130] (by decide +kernel) (by decide +kernel)
set_option maxRecDepth 20000 in
theorem gX2_isTrueOfOne_X2_parseWithLetterBehind : GoodIn wsX2_isTrueOfOne (wsV RX2 165 RX2 yX2_parseWithLetterBehind wsX2_parseWithLetterBehind) := goodIn_app (goodIn_of _ (by decide +kernel)) ggX2_isTrueOfOne_X2_parseWithLetterBehind
theorem dX2_isTrueOfOne_0 : decode cX2_isTrueOfOne 0 = .ok (.aload_n 0, 1) := by decide +kernel
theorem dX2_isTrueOfOne_1 : decode cX2_isTrueOfOne 1 = .ok (.aload_n 1, 1) := by decide +kernel
theorem dX2_isTrueOfOne_2 : decode cX2_isTrueOfOne 2 = .ok (.invokevirtual 116, 3) := by decide +kernel
theorem dX2_isTrueOfOne_5 : decode cX2_isTrueOfOne 5 = .ok (.aload_n 0, 1) := by decide +kernel
theorem dX2_isTrueOfOne_6 : decode cX2_isTrueOfOne 6 = .ok (.getfield 33, 3) := by decide +kernel
theorem dX2_isTrueOfOne_9 : decode cX2_isTrueOfOne 9 = .ok (.getfield 106, 3) := by decide +kernel
theorem dX2_isTrueOfOne_12 : decode cX2_isTrueOfOne 12 = .ok (.aload_n 1, 1) := by decide +kernel
theorem dX2_isTrueOfOne_13 : decode cX2_isTrueOfOne 13 = .ok (.getfield 106, 3) := by decide +kernel
theorem dX2_isTrueOfOne_16 : decode cX2_isTrueOfOne 16 = .ok (.invokevirtual 229, 3) := by decide +kernel
theorem dX2_isTrueOfOne_19 : decode cX2_isTrueOfOne 19 = .ok (.ifCond .eq 18, 3) := by decide +kernel
theorem dX2_isTrueOfOne_22 : decode cX2_isTrueOfOne 22 = .ok (.aload_n 0, 1) := by decide +kernel
theorem dX2_isTrueOfOne_23 : decode cX2_isTrueOfOne 23 = .ok (.getfield 33, 3) := by decide +kernel
theorem dX2_isTrueOfOne_26 : decode cX2_isTrueOfOne 26 = .ok (.aload_n 1, 1) := by decide +kernel
theorem dX2_isTrueOfOne_27 : decode cX2_isTrueOfOne 27 = .ok (.invokevirtual 135, 3) := by decide +kernel
theorem dX2_isTrueOfOne_30 : decode cX2_isTrueOfOne 30 = .ok (.ifCond .ne 7, 3) := by decide +kernel
theorem dX2_isTrueOfOne_33 : decode cX2_isTrueOfOne 33 = .ok (.iconst 1, 1) := by decide +kernel
theorem dX2_isTrueOfOne_34 : decode cX2_isTrueOfOne 34 = .ok (.goto 4, 3) := by decide +kernel
theorem dX2_isTrueOfOne_37 : decode cX2_isTrueOfOne 37 = .ok (.iconst 0, 1) := by decide +kernel
theorem dX2_isTrueOfOne_38 : decode cX2_isTrueOfOne 38 = .ok (.istore_n 2, 1) := by decide +kernel
theorem dX2_isTrueOfOne_39 : decode cX2_isTrueOfOne 39 = .ok (.aload_n 1, 1) := by decide +kernel
theorem dX2_isTrueOfOne_40 : decode cX2_isTrueOfOne 40 = .ok (.getfield 106, 3) := by decide +kernel
theorem dX2_isTrueOfOne_43 : decode cX2_isTrueOfOne 43 = .ok (.invokevirtual 53, 3) := by decide +kernel
theorem dX2_isTrueOfOne_46 : decode cX2_isTrueOfOne 46 = .ok (.iconst 2, 1) := by decide +kernel
theorem dX2_isTrueOfOne_47 : decode cX2_isTrueOfOne 47 = .ok (.iadd, 1) := by decide +kernel
theorem dX2_isTrueOfOne_48 : decode cX2_isTrueOfOne 48 = .ok (.bipush 60, 2) := by decide +kernel
theorem dX2_isTrueOfOne_50 : decode cX2_isTrueOfOne 50 = .ok (.if_icmp .gt 7, 3) := by decide +kernel
theorem dX2_isTrueOfOne_53 : decode cX2_isTrueOfOne 53 = .ok (.iconst 1, 1) := by decide +kernel
theorem dX2_isTrueOfOne_54 : decode cX2_isTrueOfOne 54 = .ok (.goto 4, 3) := by decide +kernel
theorem dX2_isTrueOfOne_57 : decode cX2_isTrueOfOne 57 = .ok (.iconst 0, 1) := by decide +kernel
theorem dX2_isTrueOfOne_58 : decode cX2_isTrueOfOne 58 = .ok (.istore_n 3, 1) := by decide +kernel
theorem dX2_isTrueOfOne_59 : decode cX2_isTrueOfOne 59 = .ok (.iload_n 3, 1) := by decide +kernel
theorem dX2_isTrueOfOne_60 : decode cX2_isTrueOfOne 60 = .ok (.ifCond .eq 61, 3) := by decide +kernel
theorem dX2_isTrueOfOne_63 : decode cX2_isTrueOfOne 63 = .ok (.aload_n 0, 1) := by decide +kernel
theorem dX2_isTrueOfOne_64 : decode cX2_isTrueOfOne 64 = .ok (.aload_n 1, 1) := by decide +kernel
theorem dX2_isTrueOfOne_65 : decode cX2_isTrueOfOne 65 = .ok (.bipush 46, 2) := by decide +kernel
theorem dX2_isTrueOfOne_67 : decode cX2_isTrueOfOne 67 = .ok (.iconst 0, 1) := by decide +kernel
theorem dX2_isTrueOfOne_68 : decode cX2_isTrueOfOne 68 = .ok (.invokevirtual 150, 3) := by decide +kernel
theorem dX2_isTrueOfOne_71 : decode cX2_isTrueOfOne 71 = .ok (.iload_n 2, 1) := by decide +kernel
theorem dX2_isTrueOfOne_72 : decode cX2_isTrueOfOne 72 = .ok (.ifCond .eq 18, 3) := by decide +kernel
theorem dX2_isTrueOfOne_75 : decode cX2_isTrueOfOne 75 = .ok (.aload_n 0, 1) := by decide +kernel
theorem dX2_isTrueOfOne_76 : decode cX2_isTrueOfOne 76 = .ok (.getfield 33, 3) := by decide +kernel
theorem dX2_isTrueOfOne_79 : decode cX2_isTrueOfOne 79 = .ok (.aload_n 1, 1) := by decide +kernel
theorem dX2_isTrueOfOne_80 : decode cX2_isTrueOfOne 80 = .ok (.invokevirtual 135, 3) := by decide +kernel
theorem dX2_isTrueOfOne_83 : decode cX2_isTrueOfOne 83 = .ok (.ifCond .ne 7, 3) := by decide +kernel
theorem dX2_isTrueOfOne_86 : decode cX2_isTrueOfOne 86 = .ok (.iconst 1, 1) := by decide +kernel
theorem dX2_isTrueOfOne_87 : decode cX2_isTrueOfOne 87 = .ok (.goto 4, 3) := by decide +kernel
theorem dX2_isTrueOfOne_90 : decode cX2_isTrueOfOne 90 = .ok (.iconst 0, 1) := by decide +kernel
theorem dX2_isTrueOfOne_91 : decode cX2_isTrueOfOne 91 = .ok (.istore_n 2, 1) := by decide +kernel
theorem dX2_isTrueOfOne_92 : decode cX2_isTrueOfOne 92 = .ok (.aload_n 0, 1) := by decide +kernel
theorem dX2_isTrueOfOne_93 : decode cX2_isTrueOfOne 93 = .ok (.aload_n 1, 1) := by decide +kernel
theorem dX2_isTrueOfOne_94 : decode cX2_isTrueOfOne 94 = .ok (.bipush 46, 2) := by decide +kernel
theorem dX2_isTrueOfOne_96 : decode cX2_isTrueOfOne 96 = .ok (.iconst 1, 1) := by decide +kernel
theorem dX2_isTrueOfOne_97 : decode cX2_isTrueOfOne 97 = .ok (.invokevirtual 150, 3) := by decide +kernel
theorem dX2_isTrueOfOne_100 : decode cX2_isTrueOfOne 100 = .ok (.iload_n 2, 1) := by decide +kernel
theorem dX2_isTrueOfOne_101 : decode cX2_isTrueOfOne 101 = .ok (.ifCond .eq 18, 3) := by decide +kernel
theorem dX2_isTrueOfOne_104 : decode cX2_isTrueOfOne 104 = .ok (.aload_n 0, 1) := by decide +kernel
theorem dX2_isTrueOfOne_105 : decode cX2_isTrueOfOne 105 = .ok (.getfield 33, 3) := by decide +kernel
theorem dX2_isTrueOfOne_108 : decode cX2_isTrueOfOne 108 = .ok (.aload_n 1, 1) := by decide +kernel
theorem dX2_isTrueOfOne_109 : decode cX2_isTrueOfOne 109 = .ok (.invokevirtual 135, 3) := by decide +kernel
theorem dX2_isTrueOfOne_112 : decode cX2_isTrueOfOne 112 = .ok (.ifCond .le 7, 3) := by decide +kernel
theorem dX2_isTrueOfOne_115 : decode cX2_isTrueOfOne 115 = .ok (.iconst 1, 1) := by decide +kernel
theorem dX2_isTrueOfOne_116 : decode cX2_isTrueOfOne 116 = .ok (.goto 4, 3) := by decide +kernel
theorem dX2_isTrueOfOne_119 : decode cX2_isTrueOfOne 119 = .ok (.iconst 0, 1) := by decide +kernel
theorem dX2_isTrueOfOne_120 : decode cX2_isTrueOfOne 120 = .ok (.istore_n 2, 1) := by decide +kernel
theorem dX2_isTrueOfOne_121 : decode cX2_isTrueOfOne 121 = .ok (.iload_n 3, 1) := by decide +kernel
theorem dX2_isTrueOfOne_122 : decode cX2_isTrueOfOne 122 = .ok (.ifCond .eq 39, 3) := by decide +kernel
theorem dX2_isTrueOfOne_125 : decode cX2_isTrueOfOne 125 = .ok (.aload_n 1, 1) := by decide +kernel
theorem dX2_isTrueOfOne_126 : decode cX2_isTrueOfOne 126 = .ok (.iconst 1, 1) := by decide +kernel
theorem dX2_isTrueOfOne_127 : decode cX2_isTrueOfOne 127 = .ok (.invokevirtual 156, 3) := by decide +kernel
theorem dX2_isTrueOfOne_130 : decode cX2_isTrueOfOne 130 = .ok (.ifCond .ne 31, 3) := by decide +kernel
theorem dX2_isTrueOfOne_133 : decode cX2_isTrueOfOne 133 = .ok (.aload_n 0, 1) := by decide +kernel
theorem dX2_isTrueOfOne_134 : decode cX2_isTrueOfOne 134 = .ok (.aload_n 1, 1) := by decide +kernel
theorem dX2_isTrueOfOne_135 : decode cX2_isTrueOfOne 135 = .ok (.bipush 97, 2) := by decide +kernel
theorem dX2_isTrueOfOne_137 : decode cX2_isTrueOfOne 137 = .ok (.invokevirtual 165, 3) := by decide +kernel
theorem dX2_isTrueOfOne_140 : decode cX2_isTrueOfOne 140 = .ok (.iload_n 2, 1) := by decide +kernel
theorem dX2_isTrueOfOne_141 : decode cX2_isTrueOfOne 141 = .ok (.ifCond .eq 18, 3) := by decide +kernel
theorem dX2_isTrueOfOne_144 : decode cX2_isTrueOfOne 144 = .ok (.aload_n 0, 1) := by decide +kernel
theorem dX2_isTrueOfOne_145 : decode cX2_isTrueOfOne 145 = .ok (.getfield 33, 3) := by decide +kernel
theorem dX2_isTrueOfOne_148 : decode cX2_isTrueOfOne 148 = .ok (.aload_n 1, 1) := by decide +kernel
theorem dX2_isTrueOfOne_149 : decode cX2_isTrueOfOne 149 = .ok (.invokevirtual 135, 3) := by decide +kernel
theorem dX2_isTrueOfOne_152 : decode cX2_isTrueOfOne 152 = .ok (.ifCond .ge 7, 3) := by decide +kernel
theorem dX2_isTrueOfOne_155 : decode cX2_isTrueOfOne 155 = .ok (.iconst 1, 1) := by decide +kernel
theorem dX2_isTrueOfOne_156 : decode cX2_isTrueOfOne 156 = .ok (.goto 4, 3) := by decide +kernel
theorem dX2_isTrueOfOne_159 : decode cX2_isTrueOfOne 159 = .ok (.iconst 0, 1) := by decide +kernel
theorem dX2_isTrueOfOne_160 : decode cX2_isTrueOfOne 160 = .ok (.istore_n 2, 1) := by decide +kernel
theorem dX2_isTrueOfOne_161 : decode cX2_isTrueOfOne 161 = .ok (.iload_n 2, 1) := by decide +kernel
theorem dX2_isTrueOfOne_162 : decode cX2_isTrueOfOne 162 = .ok (.ireturn, 1) := by decide +kernel
set_option maxRecDepth 20000 in
theorem ggX2_isTrueOfTwo_X2_orderOf : GoodIn wsX2_isTrueOfTwo wsX2_orderOf := goodIn_ca (goodIn_r _ [5, 6, 7, 8, 4, 9, 10, 11, 70, 71, 72, 73, 74, 75] (by decide +kernel) (by decide +kernel)) (goodIn_sub (fun _ h => List.mem_cons_of_mem _ (List.mem_append_right _ h)) (by decide +kernel))
set_option maxRecDepth 20000 in
theorem gX2_isTrueOfTwo_X2_orderOf : GoodIn wsX2_isTrueOfTwo (wsV RX2 197 RX2 yX2_orderOf wsX2_orderOf) := goodIn_app (goodIn_of _ (by decide +kernel)) ggX2_isTrueOfTwo_X2_orderOf
set_option maxRecDepth 20000 in
theorem ggX2_isTrueOfTwo_X2_versionIn : GoodIn wsX2_isTrueOfTwo wsX2_versionIn := goodIn_ca (goodIn_r _ [15, 16, 7, 8, 4, 9, 10, 11, 70, 71, 72, 73, 74, 75] (by decide +kernel) (by decide +kernel)) (goodIn_sub (fun _ h => List.mem_cons_of_mem _ (List.mem_append_right _ h)) (by decide +kernel))
set_option maxRecDepth 20000 in
theorem gX2_isTrueOfTwo_X2_versionIn : GoodIn wsX2_isTrueOfTwo (wsV RX2 112 RX2 yX2_versionIn wsX2_versionIn) := goodIn_app (goodIn_of _ (by decide +kernel)) ggX2_isTrueOfTwo_X2_versionIn
set_option maxRecDepth 20000 in
theorem ggX2_isTrueOfTwo_X1_tellingRow : GoodIn wsX2_isTrueOfTwo wsX1_tellingRow := goodIn_r _ [21, 22, 23, 24, 20, 25, 26, 27, 28, 29, 30, 31, 32, 33, 34, 35, 36, 37, 38, 39, 40, 41, 42, 43, 44, 45, 46, 47, 48, 49, 50, 51, 52, 53, 54, 55, 56, 57, 58, 59, 60, 61, 62, 63, 64, 65, 4, 66, 67, 68, 69, 76, 77, 78, 79, 80, 81] (by decide +kernel) (by decide +kernel)
set_option maxRecDepth 20000 in
theorem gX2_isTrueOfTwo_X1_tellingRow : GoodIn wsX2_isTrueOfTwo (wsV RX2 139 RX1 yX1_tellingRow wsX1_tellingRow) := goodIn_app (goodIn_of _ (by decide +kernel)) ggX2_isTrueOfTwo_X1_tellingRow
theorem dX2_isTrueOfTwo_0 : decode cX2_isTrueOfTwo 0 = .ok (.aload_n 0, 1) := by decide +kernel
theorem dX2_isTrueOfTwo_1 : decode cX2_isTrueOfTwo 1 = .ok (.iload_n 1, 1) := by decide +kernel
theorem dX2_isTrueOfTwo_2 : decode cX2_isTrueOfTwo 2 = .ok (.iload_n 2, 1) := by decide +kernel
theorem dX2_isTrueOfTwo_3 : decode cX2_isTrueOfTwo 3 = .ok (.invokevirtual 197, 3) := by decide +kernel
theorem dX2_isTrueOfTwo_6 : decode cX2_isTrueOfTwo 6 = .ok (.istore_n 3, 1) := by decide +kernel
theorem dX2_isTrueOfTwo_7 : decode cX2_isTrueOfTwo 7 = .ok (.aload_n 0, 1) := by decide +kernel
theorem dX2_isTrueOfTwo_8 : decode cX2_isTrueOfTwo 8 = .ok (.iload_n 1, 1) := by decide +kernel
theorem dX2_isTrueOfTwo_9 : decode cX2_isTrueOfTwo 9 = .ok (.invokevirtual 112, 3) := by decide +kernel
theorem dX2_isTrueOfTwo_12 : decode cX2_isTrueOfTwo 12 = .ok (.aload_n 0, 1) := by decide +kernel
theorem dX2_isTrueOfTwo_13 : decode cX2_isTrueOfTwo 13 = .ok (.iload_n 2, 1) := by decide +kernel
theorem dX2_isTrueOfTwo_14 : decode cX2_isTrueOfTwo 14 = .ok (.invokevirtual 112, 3) := by decide +kernel
theorem dX2_isTrueOfTwo_17 : decode cX2_isTrueOfTwo 17 = .ok (.invokevirtual 139, 3) := by decide +kernel
theorem dX2_isTrueOfTwo_20 : decode cX2_isTrueOfTwo 20 = .ok (.istore 4, 2) := by decide +kernel
theorem dX2_isTrueOfTwo_22 : decode cX2_isTrueOfTwo 22 = .ok (.iload_n 3, 1) := by decide +kernel
theorem dX2_isTrueOfTwo_23 : decode cX2_isTrueOfTwo 23 = .ok (.aload_n 0, 1) := by decide +kernel
theorem dX2_isTrueOfTwo_24 : decode cX2_isTrueOfTwo 24 = .ok (.iload_n 2, 1) := by decide +kernel
theorem dX2_isTrueOfTwo_25 : decode cX2_isTrueOfTwo 25 = .ok (.iload_n 1, 1) := by decide +kernel
theorem dX2_isTrueOfTwo_26 : decode cX2_isTrueOfTwo 26 = .ok (.invokevirtual 197, 3) := by decide +kernel
theorem dX2_isTrueOfTwo_29 : decode cX2_isTrueOfTwo 29 = .ok (.ineg, 1) := by decide +kernel
theorem dX2_isTrueOfTwo_30 : decode cX2_isTrueOfTwo 30 = .ok (.if_icmp .ne 30, 3) := by decide +kernel
theorem dX2_isTrueOfTwo_33 : decode cX2_isTrueOfTwo 33 = .ok (.iload_n 3, 1) := by decide +kernel
theorem dX2_isTrueOfTwo_34 : decode cX2_isTrueOfTwo 34 = .ok (.ifCond .ne 7, 3) := by decide +kernel
theorem dX2_isTrueOfTwo_37 : decode cX2_isTrueOfTwo 37 = .ok (.iconst 1, 1) := by decide +kernel
theorem dX2_isTrueOfTwo_38 : decode cX2_isTrueOfTwo 38 = .ok (.goto 4, 3) := by decide +kernel
theorem dX2_isTrueOfTwo_41 : decode cX2_isTrueOfTwo 41 = .ok (.iconst 0, 1) := by decide +kernel
theorem dX2_isTrueOfTwo_42 : decode cX2_isTrueOfTwo 42 = .ok (.iload 4, 2) := by decide +kernel
theorem dX2_isTrueOfTwo_44 : decode cX2_isTrueOfTwo 44 = .ok (.iconst (-1), 1) := by decide +kernel
theorem dX2_isTrueOfTwo_45 : decode cX2_isTrueOfTwo 45 = .ok (.if_icmp .ne 7, 3) := by decide +kernel
theorem dX2_isTrueOfTwo_48 : decode cX2_isTrueOfTwo 48 = .ok (.iconst 1, 1) := by decide +kernel
theorem dX2_isTrueOfTwo_49 : decode cX2_isTrueOfTwo 49 = .ok (.goto 4, 3) := by decide +kernel
theorem dX2_isTrueOfTwo_52 : decode cX2_isTrueOfTwo 52 = .ok (.iconst 0, 1) := by decide +kernel
theorem dX2_isTrueOfTwo_53 : decode cX2_isTrueOfTwo 53 = .ok (.if_icmp .ne 7, 3) := by decide +kernel
theorem dX2_isTrueOfTwo_56 : decode cX2_isTrueOfTwo 56 = .ok (.iconst 1, 1) := by decide +kernel
theorem dX2_isTrueOfTwo_57 : decode cX2_isTrueOfTwo 57 = .ok (.goto 4, 3) := by decide +kernel
theorem dX2_isTrueOfTwo_60 : decode cX2_isTrueOfTwo 60 = .ok (.iconst 0, 1) := by decide +kernel
theorem dX2_isTrueOfTwo_61 : decode cX2_isTrueOfTwo 61 = .ok (.ireturn, 1) := by decide +kernel
theorem dX2_isTrueOfThree_0 : decode cX2_isTrueOfThree 0 = .ok (.iload_n 0, 1) := by decide +kernel
theorem dX2_isTrueOfThree_1 : decode cX2_isTrueOfThree 1 = .ok (.ifCond .ne 14, 3) := by decide +kernel
theorem dX2_isTrueOfThree_4 : decode cX2_isTrueOfThree 4 = .ok (.iload_n 2, 1) := by decide +kernel
theorem dX2_isTrueOfThree_5 : decode cX2_isTrueOfThree 5 = .ok (.iload_n 1, 1) := by decide +kernel
theorem dX2_isTrueOfThree_6 : decode cX2_isTrueOfThree 6 = .ok (.if_icmp .ne 7, 3) := by decide +kernel
theorem dX2_isTrueOfThree_9 : decode cX2_isTrueOfThree 9 = .ok (.iconst 1, 1) := by decide +kernel
theorem dX2_isTrueOfThree_10 : decode cX2_isTrueOfThree 10 = .ok (.goto 4, 3) := by decide +kernel
theorem dX2_isTrueOfThree_13 : decode cX2_isTrueOfThree 13 = .ok (.iconst 0, 1) := by decide +kernel
theorem dX2_isTrueOfThree_14 : decode cX2_isTrueOfThree 14 = .ok (.ireturn, 1) := by decide +kernel
theorem dX2_isTrueOfThree_15 : decode cX2_isTrueOfThree 15 = .ok (.iload_n 0, 1) := by decide +kernel
theorem dX2_isTrueOfThree_16 : decode cX2_isTrueOfThree 16 = .ok (.ifCond .gt 11, 3) := by decide +kernel
theorem dX2_isTrueOfThree_19 : decode cX2_isTrueOfThree 19 = .ok (.iload_n 1, 1) := by decide +kernel
theorem dX2_isTrueOfThree_20 : decode cX2_isTrueOfThree 20 = .ok (.ifCond .ge 7, 3) := by decide +kernel
theorem dX2_isTrueOfThree_23 : decode cX2_isTrueOfThree 23 = .ok (.iload_n 2, 1) := by decide +kernel
theorem dX2_isTrueOfThree_24 : decode cX2_isTrueOfThree 24 = .ok (.ifCond .ge 7, 3) := by decide +kernel
theorem dX2_isTrueOfThree_27 : decode cX2_isTrueOfThree 27 = .ok (.iconst 1, 1) := by decide +kernel
theorem dX2_isTrueOfThree_28 : decode cX2_isTrueOfThree 28 = .ok (.goto 4, 3) := by decide +kernel
theorem dX2_isTrueOfThree_31 : decode cX2_isTrueOfThree 31 = .ok (.iconst 0, 1) := by decide +kernel
theorem dX2_isTrueOfThree_32 : decode cX2_isTrueOfThree 32 = .ok (.ireturn, 1) := by decide +kernel
theorem dX2_kindOf_0 : decode cX2_kindOf 0 = .ok (.iload_n 0, 1) := by decide +kernel
theorem dX2_kindOf_1 : decode cX2_kindOf 1 = .ok (.bipush 48, 2) := by decide +kernel
theorem dX2_kindOf_3 : decode cX2_kindOf 3 = .ok (.if_icmp .lt 11, 3) := by decide +kernel
theorem dX2_kindOf_6 : decode cX2_kindOf 6 = .ok (.iload_n 0, 1) := by decide +kernel
theorem dX2_kindOf_7 : decode cX2_kindOf 7 = .ok (.bipush 57, 2) := by decide +kernel
theorem dX2_kindOf_9 : decode cX2_kindOf 9 = .ok (.if_icmp .gt 5, 3) := by decide +kernel
theorem dX2_kindOf_12 : decode cX2_kindOf 12 = .ok (.iconst 1, 1) := by decide +kernel
theorem dX2_kindOf_13 : decode cX2_kindOf 13 = .ok (.ireturn, 1) := by decide +kernel
theorem dX2_kindOf_14 : decode cX2_kindOf 14 = .ok (.iload_n 0, 1) := by decide +kernel
theorem dX2_kindOf_15 : decode cX2_kindOf 15 = .ok (.bipush 46, 2) := by decide +kernel
theorem dX2_kindOf_17 : decode cX2_kindOf 17 = .ok (.if_icmp .eq 15, 3) := by decide +kernel
theorem dX2_kindOf_20 : decode cX2_kindOf 20 = .ok (.iload_n 0, 1) := by decide +kernel
theorem dX2_kindOf_21 : decode cX2_kindOf 21 = .ok (.bipush 45, 2) := by decide +kernel
theorem dX2_kindOf_23 : decode cX2_kindOf 23 = .ok (.if_icmp .eq 9, 3) := by decide +kernel
theorem dX2_kindOf_26 : decode cX2_kindOf 26 = .ok (.iload_n 0, 1) := by decide +kernel
theorem dX2_kindOf_27 : decode cX2_kindOf 27 = .ok (.bipush 43, 2) := by decide +kernel
theorem dX2_kindOf_29 : decode cX2_kindOf 29 = .ok (.if_icmp .ne 7, 3) := by decide +kernel
theorem dX2_kindOf_32 : decode cX2_kindOf 32 = .ok (.iconst 0, 1) := by decide +kernel
theorem dX2_kindOf_33 : decode cX2_kindOf 33 = .ok (.goto 4, 3) := by decide +kernel
theorem dX2_kindOf_36 : decode cX2_kindOf 36 = .ok (.iconst 2, 1) := by decide +kernel
theorem dX2_kindOf_37 : decode cX2_kindOf 37 = .ok (.ireturn, 1) := by decide +kernel
theorem dX2_digitsOf_0 : decode cX2_digitsOf 0 = .ok (.iconst 1, 1) := by decide +kernel
theorem dX2_digitsOf_1 : decode cX2_digitsOf 1 = .ok (.istore_n 1, 1) := by decide +kernel
theorem dX2_digitsOf_2 : decode cX2_digitsOf 2 = .ok (.iload_n 0, 1) := by decide +kernel
theorem dX2_digitsOf_3 : decode cX2_digitsOf 3 = .ok (.istore_n 2, 1) := by decide +kernel
theorem dX2_digitsOf_4 : decode cX2_digitsOf 4 = .ok (.iload_n 2, 1) := by decide +kernel
theorem dX2_digitsOf_5 : decode cX2_digitsOf 5 = .ok (.bipush 10, 2) := by decide +kernel
theorem dX2_digitsOf_7 : decode cX2_digitsOf 7 = .ok (.if_icmp .lt 14, 3) := by decide +kernel
theorem dX2_digitsOf_10 : decode cX2_digitsOf 10 = .ok (.iinc 1 1, 3) := by decide +kernel
theorem dX2_digitsOf_13 : decode cX2_digitsOf 13 = .ok (.iload_n 2, 1) := by decide +kernel
theorem dX2_digitsOf_14 : decode cX2_digitsOf 14 = .ok (.bipush 10, 2) := by decide +kernel
theorem dX2_digitsOf_16 : decode cX2_digitsOf 16 = .ok (.idiv, 1) := by decide +kernel
theorem dX2_digitsOf_17 : decode cX2_digitsOf 17 = .ok (.istore_n 2, 1) := by decide +kernel
theorem dX2_digitsOf_18 : decode cX2_digitsOf 18 = .ok (.goto (-14), 3) := by decide +kernel
theorem dX2_digitsOf_21 : decode cX2_digitsOf 21 = .ok (.iload_n 1, 1) := by decide +kernel
theorem dX2_digitsOf_22 : decode cX2_digitsOf 22 = .ok (.ireturn, 1) := by decide +kernel
theorem dX2_letterOf_0 : decode cX2_letterOf 0 = .ok (.iload_n 0, 1) := by decide +kernel
theorem dX2_letterOf_1 : decode cX2_letterOf 1 = .ok (.bipush 26, 2) := by decide +kernel
theorem dX2_letterOf_3 : decode cX2_letterOf 3 = .ok (.if_icmp .ge 11, 3) := by decide +kernel
theorem dX2_letterOf_6 : decode cX2_letterOf 6 = .ok (.bipush 97, 2) := by decide +kernel
theorem dX2_letterOf_8 : decode cX2_letterOf 8 = .ok (.iload_n 0, 1) := by decide +kernel
theorem dX2_letterOf_9 : decode cX2_letterOf 9 = .ok (.iadd, 1) := by decide +kernel
theorem dX2_letterOf_10 : decode cX2_letterOf 10 = .ok (.i2c, 1) := by decide +kernel
theorem dX2_letterOf_11 : decode cX2_letterOf 11 = .ok (.goto 11, 3) := by decide +kernel
theorem dX2_letterOf_14 : decode cX2_letterOf 14 = .ok (.bipush 65, 2) := by decide +kernel
theorem dX2_letterOf_16 : decode cX2_letterOf 16 = .ok (.iload_n 0, 1) := by decide +kernel
theorem dX2_letterOf_17 : decode cX2_letterOf 17 = .ok (.iadd, 1) := by decide +kernel
theorem dX2_letterOf_18 : decode cX2_letterOf 18 = .ok (.bipush 26, 2) := by decide +kernel
theorem dX2_letterOf_20 : decode cX2_letterOf 20 = .ok (.isub, 1) := by decide +kernel
theorem dX2_letterOf_21 : decode cX2_letterOf 21 = .ok (.i2c, 1) := by decide +kernel
theorem dX2_letterOf_22 : decode cX2_letterOf 22 = .ok (.ireturn, 1) := by decide +kernel
theorem dX2_orderOfNumbers_0 : decode cX2_orderOfNumbers 0 = .ok (.iload_n 0, 1) := by decide +kernel
theorem dX2_orderOfNumbers_1 : decode cX2_orderOfNumbers 1 = .ok (.iload_n 1, 1) := by decide +kernel
theorem dX2_orderOfNumbers_2 : decode cX2_orderOfNumbers 2 = .ok (.if_icmp .ne 5, 3) := by decide +kernel
theorem dX2_orderOfNumbers_5 : decode cX2_orderOfNumbers 5 = .ok (.iconst 0, 1) := by decide +kernel
theorem dX2_orderOfNumbers_6 : decode cX2_orderOfNumbers 6 = .ok (.ireturn, 1) := by decide +kernel
theorem dX2_orderOfNumbers_7 : decode cX2_orderOfNumbers 7 = .ok (.iload_n 0, 1) := by decide +kernel
theorem dX2_orderOfNumbers_8 : decode cX2_orderOfNumbers 8 = .ok (.iload_n 1, 1) := by decide +kernel
theorem dX2_orderOfNumbers_9 : decode cX2_orderOfNumbers 9 = .ok (.if_icmp .ge 7, 3) := by decide +kernel
theorem dX2_orderOfNumbers_12 : decode cX2_orderOfNumbers 12 = .ok (.iconst (-1), 1) := by decide +kernel
theorem dX2_orderOfNumbers_13 : decode cX2_orderOfNumbers 13 = .ok (.goto 4, 3) := by decide +kernel
theorem dX2_orderOfNumbers_16 : decode cX2_orderOfNumbers 16 = .ok (.iconst 1, 1) := by decide +kernel
theorem dX2_orderOfNumbers_17 : decode cX2_orderOfNumbers 17 = .ok (.ireturn, 1) := by decide +kernel
end
section
theorem dX3_init_0 : decode cX3_init 0 = .ok (.aload_n 0, 1) := by decide +kernel
theorem dX3_init_1 : decode cX3_init 1 = .ok (.invokespecial 1, 3) := by decide +kernel
theorem dX3_init_4 : decode cX3_init 4 = .ok (.aload_n 0, 1) := by decide +kernel
theorem dX3_init_5 : decode cX3_init 5 = .ok (.bipush 60, 2) := by decide +kernel
theorem dX3_init_7 : decode cX3_init 7 = .ok (.newarray .char, 2) := by decide +kernel
theorem dX3_init_9 : decode cX3_init 9 = .ok (.putfield 9, 3) := by decide +kernel
theorem dX3_init_12 : decode cX3_init 12 = .ok (.aload_n 0, 1) := by decide +kernel
theorem dX3_init_13 : decode cX3_init 13 = .ok (.bipush 8, 2) := by decide +kernel
theorem dX3_init_15 : decode cX3_init 15 = .ok (.bipush 60, 2) := by decide +kernel
theorem dX3_init_17 : decode cX3_init 17 = .ok (.multianewarray 13 2, 4) := by decide +kernel
theorem dX3_init_21 : decode cX3_init 21 = .ok (.putfield 15, 3) := by decide +kernel
theorem dX3_init_24 : decode cX3_init 24 = .ok (.aload_n 0, 1) := by decide +kernel
theorem dX3_init_25 : decode cX3_init 25 = .ok (.bipush 8, 2) := by decide +kernel
theorem dX3_init_27 : decode cX3_init 27 = .ok (.newarray .int, 2) := by decide +kernel
theorem dX3_init_29 : decode cX3_init 29 = .ok (.putfield 18, 3) := by decide +kernel
theorem dX3_init_32 : decode cX3_init 32 = .ok (.aload_n 0, 1) := by decide +kernel
theorem dX3_init_33 : decode cX3_init 33 = .ok (.iconst 2, 1) := by decide +kernel
theorem dX3_init_34 : decode cX3_init 34 = .ok (.anewarray 22, 3) := by decide +kernel
theorem dX3_init_37 : decode cX3_init 37 = .ok (.putfield 23, 3) := by decide +kernel
theorem dX3_init_40 : decode cX3_init 40 = .ok (.aload_n 0, 1) := by decide +kernel
theorem dX3_init_41 : decode cX3_init 41 = .ok (.iconst 2, 1) := by decide +kernel
theorem dX3_init_42 : decode cX3_init 42 = .ok (.iconst 3, 1) := by decide +kernel
theorem dX3_init_43 : decode cX3_init 43 = .ok (.multianewarray 26 2, 4) := by decide +kernel
theorem dX3_init_47 : decode cX3_init 47 = .ok (.putfield 28, 3) := by decide +kernel
theorem dX3_init_50 : decode cX3_init 50 = .ok (.aload_n 0, 1) := by decide +kernel
theorem dX3_init_51 : decode cX3_init 51 = .ok (.iconst 2, 1) := by decide +kernel
theorem dX3_init_52 : decode cX3_init 52 = .ok (.iconst 3, 1) := by decide +kernel
theorem dX3_init_53 : decode cX3_init 53 = .ok (.bipush 60, 2) := by decide +kernel
theorem dX3_init_55 : decode cX3_init 55 = .ok (.multianewarray 31 3, 4) := by decide +kernel
theorem dX3_init_59 : decode cX3_init 59 = .ok (.putfield 33, 3) := by decide +kernel
theorem dX3_init_62 : decode cX3_init 62 = .ok (.aload_n 0, 1) := by decide +kernel
theorem dX3_init_63 : decode cX3_init 63 = .ok (.iconst 2, 1) := by decide +kernel
theorem dX3_init_64 : decode cX3_init 64 = .ok (.iconst 3, 1) := by decide +kernel
theorem dX3_init_65 : decode cX3_init 65 = .ok (.bipush 60, 2) := by decide +kernel
theorem dX3_init_67 : decode cX3_init 67 = .ok (.multianewarray 31 3, 4) := by decide +kernel
theorem dX3_init_71 : decode cX3_init 71 = .ok (.putfield 36, 3) := by decide +kernel
theorem dX3_init_74 : decode cX3_init 74 = .ok (.iconst 0, 1) := by decide +kernel
theorem dX3_init_75 : decode cX3_init 75 = .ok (.istore_n 1, 1) := by decide +kernel
theorem dX3_init_76 : decode cX3_init 76 = .ok (.iload_n 1, 1) := by decide +kernel
theorem dX3_init_77 : decode cX3_init 77 = .ok (.bipush 8, 2) := by decide +kernel
theorem dX3_init_79 : decode cX3_init 79 = .ok (.if_icmp .ge 26, 3) := by decide +kernel
theorem dX3_init_82 : decode cX3_init 82 = .ok (.aload_n 0, 1) := by decide +kernel
theorem dX3_init_83 : decode cX3_init 83 = .ok (.getfield 15, 3) := by decide +kernel
theorem dX3_init_86 : decode cX3_init 86 = .ok (.iload_n 1, 1) := by decide +kernel
theorem dX3_init_87 : decode cX3_init 87 = .ok (.aaload, 1) := by decide +kernel
theorem dX3_init_88 : decode cX3_init 88 = .ok (.iconst 0, 1) := by decide +kernel
theorem dX3_init_89 : decode cX3_init 89 = .ok (.bipush 48, 2) := by decide +kernel
theorem dX3_init_91 : decode cX3_init 91 = .ok (.castore, 1) := by decide +kernel
theorem dX3_init_92 : decode cX3_init 92 = .ok (.aload_n 0, 1) := by decide +kernel
theorem dX3_init_93 : decode cX3_init 93 = .ok (.getfield 18, 3) := by decide +kernel
theorem dX3_init_96 : decode cX3_init 96 = .ok (.iload_n 1, 1) := by decide +kernel
theorem dX3_init_97 : decode cX3_init 97 = .ok (.iconst 1, 1) := by decide +kernel
theorem dX3_init_98 : decode cX3_init 98 = .ok (.iastore, 1) := by decide +kernel
theorem dX3_init_99 : decode cX3_init 99 = .ok (.iinc 1 1, 3) := by decide +kernel
theorem dX3_init_102 : decode cX3_init 102 = .ok (.goto (-26), 3) := by decide +kernel
theorem dX3_init_105 : decode cX3_init 105 = .ok (.return_, 1) := by decide +kernel
theorem dX3_thrown_0 : decode cX3_thrown 0 = .ok (.aload_n 0, 1) := by decide +kernel
theorem dX3_thrown_1 : decode cX3_thrown 1 = .ok (.getfield 39, 3) := by decide +kernel
theorem dX3_thrown_4 : decode cX3_thrown 4 = .ok (.ireturn, 1) := by decide +kernel
theorem dX3_no_0 : decode cX3_no 0 = .ok (.aload_n 0, 1) := by decide +kernel
theorem dX3_no_1 : decode cX3_no 1 = .ok (.iload_n 1, 1) := by decide +kernel
theorem dX3_no_2 : decode cX3_no 2 = .ok (.ifCond .eq 7, 3) := by decide +kernel
theorem dX3_no_5 : decode cX3_no 5 = .ok (.iconst 0, 1) := by decide +kernel
theorem dX3_no_6 : decode cX3_no 6 = .ok (.goto 4, 3) := by decide +kernel
theorem dX3_no_9 : decode cX3_no 9 = .ok (.iload_n 2, 1) := by decide +kernel
theorem dX3_no_10 : decode cX3_no 10 = .ok (.putfield 39, 3) := by decide +kernel
theorem dX3_no_13 : decode cX3_no 13 = .ok (.iload_n 1, 1) := by decide +kernel
theorem dX3_no_14 : decode cX3_no 14 = .ok (.ifCond .ne 7, 3) := by decide +kernel
theorem dX3_no_17 : decode cX3_no 17 = .ok (.iconst 1, 1) := by decide +kernel
theorem dX3_no_18 : decode cX3_no 18 = .ok (.goto 4, 3) := by decide +kernel
theorem dX3_no_21 : decode cX3_no 21 = .ok (.iconst 0, 1) := by decide +kernel
theorem dX3_no_22 : decode cX3_no 22 = .ok (.ireturn, 1) := by decide +kernel
theorem dX3_in_0 : decode cX3_in 0 = .ok (.iload_n 0, 1) := by decide +kernel
theorem dX3_in_1 : decode cX3_in 1 = .ok (.iload_n 1, 1) := by decide +kernel
theorem dX3_in_2 : decode cX3_in 2 = .ok (.if_icmp .lt 12, 3) := by decide +kernel
theorem dX3_in_5 : decode cX3_in 5 = .ok (.iload_n 0, 1) := by decide +kernel
theorem dX3_in_6 : decode cX3_in 6 = .ok (.iload_n 2, 1) := by decide +kernel
theorem dX3_in_7 : decode cX3_in 7 = .ok (.if_icmp .gt 7, 3) := by decide +kernel
theorem dX3_in_10 : decode cX3_in 10 = .ok (.iconst 1, 1) := by decide +kernel
theorem dX3_in_11 : decode cX3_in 11 = .ok (.goto 4, 3) := by decide +kernel
theorem dX3_in_14 : decode cX3_in 14 = .ok (.iconst 0, 1) := by decide +kernel
theorem dX3_in_15 : decode cX3_in 15 = .ok (.ireturn, 1) := by decide +kernel
set_option maxRecDepth 20000 in
theorem ggX3_isSlot_X3_in : GoodIn wsX3_isSlot wsX3_in := goodIn_r _ [4] (by decide +kernel) (by decide +kernel)
set_option maxRecDepth 20000 in
theorem gX3_isSlot_X3_in : GoodIn wsX3_isSlot (va_wsS RX3 43 yX3_in wsX3_in) := goodIn_app (goodIn_of _ (by decide +kernel)) ggX3_isSlot_X3_in
theorem dX3_isSlot_0 : decode cX3_isSlot 0 = .ok (.iload_n 0, 1) := by decide +kernel
theorem dX3_isSlot_1 : decode cX3_isSlot 1 = .ok (.iconst 0, 1) := by decide +kernel
theorem dX3_isSlot_2 : decode cX3_isSlot 2 = .ok (.bipush 7, 2) := by decide +kernel
theorem dX3_isSlot_4 : decode cX3_isSlot 4 = .ok (.invokestatic 43, 3) := by decide +kernel
theorem dX3_isSlot_7 : decode cX3_isSlot 7 = .ok (.ireturn, 1) := by decide +kernel
theorem dX3_isDigit_0 : decode cX3_isDigit 0 = .ok (.iload_n 0, 1) := by decide +kernel
theorem dX3_isDigit_1 : decode cX3_isDigit 1 = .ok (.bipush 48, 2) := by decide +kernel
theorem dX3_isDigit_3 : decode cX3_isDigit 3 = .ok (.if_icmp .lt 13, 3) := by decide +kernel
theorem dX3_isDigit_6 : decode cX3_isDigit 6 = .ok (.iload_n 0, 1) := by decide +kernel
theorem dX3_isDigit_7 : decode cX3_isDigit 7 = .ok (.bipush 57, 2) := by decide +kernel
theorem dX3_isDigit_9 : decode cX3_isDigit 9 = .ok (.if_icmp .gt 7, 3) := by decide +kernel
theorem dX3_isDigit_12 : decode cX3_isDigit 12 = .ok (.iconst 1, 1) := by decide +kernel
theorem dX3_isDigit_13 : decode cX3_isDigit 13 = .ok (.goto 4, 3) := by decide +kernel
theorem dX3_isDigit_16 : decode cX3_isDigit 16 = .ok (.iconst 0, 1) := by decide +kernel
theorem dX3_isDigit_17 : decode cX3_isDigit 17 = .ok (.ireturn, 1) := by decide +kernel
theorem dX3_isPoint_0 : decode cX3_isPoint 0 = .ok (.iload_n 0, 1) := by decide +kernel
theorem dX3_isPoint_1 : decode cX3_isPoint 1 = .ok (.bipush 46, 2) := by decide +kernel
theorem dX3_isPoint_3 : decode cX3_isPoint 3 = .ok (.if_icmp .eq 15, 3) := by decide +kernel
theorem dX3_isPoint_6 : decode cX3_isPoint 6 = .ok (.iload_n 0, 1) := by decide +kernel
theorem dX3_isPoint_7 : decode cX3_isPoint 7 = .ok (.bipush 45, 2) := by decide +kernel
theorem dX3_isPoint_9 : decode cX3_isPoint 9 = .ok (.if_icmp .eq 9, 3) := by decide +kernel
theorem dX3_isPoint_12 : decode cX3_isPoint 12 = .ok (.iload_n 0, 1) := by decide +kernel
theorem dX3_isPoint_13 : decode cX3_isPoint 13 = .ok (.bipush 43, 2) := by decide +kernel
theorem dX3_isPoint_15 : decode cX3_isPoint 15 = .ok (.if_icmp .ne 7, 3) := by decide +kernel
theorem dX3_isPoint_18 : decode cX3_isPoint 18 = .ok (.iconst 1, 1) := by decide +kernel
theorem dX3_isPoint_19 : decode cX3_isPoint 19 = .ok (.goto 4, 3) := by decide +kernel
theorem dX3_isPoint_22 : decode cX3_isPoint 22 = .ok (.iconst 0, 1) := by decide +kernel
theorem dX3_isPoint_23 : decode cX3_isPoint 23 = .ok (.ireturn, 1) := by decide +kernel
set_option maxRecDepth 20000 in
theorem ggX3_look_X3_isPoint : GoodIn wsX3_look wsX3_isPoint := goodIn_r _ [8] (by decide +kernel) (by decide +kernel)
set_option maxRecDepth 20000 in
theorem gX3_look_X3_isPoint : GoodIn wsX3_look (va_wsS RX3 47 yX3_isPoint wsX3_isPoint) := goodIn_app (goodIn_of _ (by decide +kernel)) ggX3_look_X3_isPoint
set_option maxRecDepth 20000 in
theorem ggX3_look_X3_isDigit : GoodIn wsX3_look wsX3_isDigit := goodIn_r _ [11] (by decide +kernel) (by decide +kernel)
set_option maxRecDepth 20000 in
theorem gX3_look_X3_isDigit : GoodIn wsX3_look (va_wsS RX3 51 yX3_isDigit wsX3_isDigit) := goodIn_app (goodIn_of _ (by decide +kernel)) ggX3_look_X3_isDigit
theorem dX3_look_0 : decode cX3_look 0 = .ok (.aload_n 0, 1) := by decide +kernel
theorem dX3_look_1 : decode cX3_look 1 = .ok (.getfield 23, 3) := by decide +kernel
theorem dX3_look_4 : decode cX3_look 4 = .ok (.iload_n 1, 1) := by decide +kernel
theorem dX3_look_5 : decode cX3_look 5 = .ok (.aload_n 2, 1) := by decide +kernel
theorem dX3_look_6 : decode cX3_look 6 = .ok (.aastore, 1) := by decide +kernel
theorem dX3_look_7 : decode cX3_look 7 = .ok (.iconst 0, 1) := by decide +kernel
theorem dX3_look_8 : decode cX3_look 8 = .ok (.istore 4, 2) := by decide +kernel
theorem dX3_look_10 : decode cX3_look 10 = .ok (.aload_n 0, 1) := by decide +kernel
theorem dX3_look_11 : decode cX3_look 11 = .ok (.getfield 28, 3) := by decide +kernel
theorem dX3_look_14 : decode cX3_look 14 = .ok (.iload_n 1, 1) := by decide +kernel
theorem dX3_look_15 : decode cX3_look 15 = .ok (.aaload, 1) := by decide +kernel
theorem dX3_look_16 : decode cX3_look 16 = .ok (.iconst 0, 1) := by decide +kernel
theorem dX3_look_17 : decode cX3_look 17 = .ok (.iconst 0, 1) := by decide +kernel
theorem dX3_look_18 : decode cX3_look 18 = .ok (.iastore, 1) := by decide +kernel
theorem dX3_look_19 : decode cX3_look 19 = .ok (.aload_n 0, 1) := by decide +kernel
theorem dX3_look_20 : decode cX3_look 20 = .ok (.getfield 28, 3) := by decide +kernel
theorem dX3_look_23 : decode cX3_look 23 = .ok (.iload_n 1, 1) := by decide +kernel
theorem dX3_look_24 : decode cX3_look 24 = .ok (.aaload, 1) := by decide +kernel
theorem dX3_look_25 : decode cX3_look 25 = .ok (.iconst 1, 1) := by decide +kernel
theorem dX3_look_26 : decode cX3_look 26 = .ok (.iconst 0, 1) := by decide +kernel
theorem dX3_look_27 : decode cX3_look 27 = .ok (.iastore, 1) := by decide +kernel
theorem dX3_look_28 : decode cX3_look 28 = .ok (.aload_n 0, 1) := by decide +kernel
theorem dX3_look_29 : decode cX3_look 29 = .ok (.getfield 28, 3) := by decide +kernel
theorem dX3_look_32 : decode cX3_look 32 = .ok (.iload_n 1, 1) := by decide +kernel
theorem dX3_look_33 : decode cX3_look 33 = .ok (.aaload, 1) := by decide +kernel
theorem dX3_look_34 : decode cX3_look 34 = .ok (.iconst 2, 1) := by decide +kernel
theorem dX3_look_35 : decode cX3_look 35 = .ok (.iconst 0, 1) := by decide +kernel
theorem dX3_look_36 : decode cX3_look 36 = .ok (.iastore, 1) := by decide +kernel
theorem dX3_look_37 : decode cX3_look 37 = .ok (.iconst 0, 1) := by decide +kernel
theorem dX3_look_38 : decode cX3_look 38 = .ok (.istore 5, 2) := by decide +kernel
theorem dX3_look_40 : decode cX3_look 40 = .ok (.iload 5, 2) := by decide +kernel
theorem dX3_look_42 : decode cX3_look 42 = .ok (.iload_n 3, 1) := by decide +kernel
theorem dX3_look_43 : decode cX3_look 43 = .ok (.if_icmp .ge 165, 3) := by decide +kernel
theorem dX3_look_46 : decode cX3_look 46 = .ok (.aload_n 2, 1) := by decide +kernel
theorem dX3_look_47 : decode cX3_look 47 = .ok (.iload 5, 2) := by decide +kernel
theorem dX3_look_49 : decode cX3_look 49 = .ok (.caload, 1) := by decide +kernel
theorem dX3_look_50 : decode cX3_look 50 = .ok (.istore 6, 2) := by decide +kernel
theorem dX3_look_52 : decode cX3_look 52 = .ok (.iload 6, 2) := by decide +kernel
theorem dX3_look_54 : decode cX3_look 54 = .ok (.invokestatic 47, 3) := by decide +kernel
theorem dX3_look_57 : decode cX3_look 57 = .ok (.ifCond .eq 46, 3) := by decide +kernel
theorem dX3_look_60 : decode cX3_look 60 = .ok (.iload 6, 2) := by decide +kernel
theorem dX3_look_62 : decode cX3_look 62 = .ok (.bipush 45, 2) := by decide +kernel
theorem dX3_look_64 : decode cX3_look 64 = .ok (.if_icmp .ne 12, 3) := by decide +kernel
theorem dX3_look_67 : decode cX3_look 67 = .ok (.iload 4, 2) := by decide +kernel
theorem dX3_look_69 : decode cX3_look 69 = .ok (.ifCond .ne 7, 3) := by decide +kernel
theorem dX3_look_72 : decode cX3_look 72 = .ok (.iconst 1, 1) := by decide +kernel
theorem dX3_look_73 : decode cX3_look 73 = .ok (.goto 22, 3) := by decide +kernel
theorem dX3_look_76 : decode cX3_look 76 = .ok (.iload 6, 2) := by decide +kernel
theorem dX3_look_78 : decode cX3_look 78 = .ok (.bipush 43, 2) := by decide +kernel
theorem dX3_look_80 : decode cX3_look 80 = .ok (.if_icmp .ne 13, 3) := by decide +kernel
theorem dX3_look_83 : decode cX3_look 83 = .ok (.iload 4, 2) := by decide +kernel
theorem dX3_look_85 : decode cX3_look 85 = .ok (.iconst 1, 1) := by decide +kernel
theorem dX3_look_86 : decode cX3_look 86 = .ok (.if_icmp .ne 7, 3) := by decide +kernel
theorem dX3_look_89 : decode cX3_look 89 = .ok (.iconst 2, 1) := by decide +kernel
theorem dX3_look_90 : decode cX3_look 90 = .ok (.goto 5, 3) := by decide +kernel
theorem dX3_look_93 : decode cX3_look 93 = .ok (.iload 4, 2) := by decide +kernel
theorem dX3_look_95 : decode cX3_look 95 = .ok (.istore 4, 2) := by decide +kernel
theorem dX3_look_97 : decode cX3_look 97 = .ok (.iinc 5 1, 3) := by decide +kernel
theorem dX3_look_100 : decode cX3_look 100 = .ok (.goto (-60), 3) := by decide +kernel
theorem dX3_look_103 : decode cX3_look 103 = .ok (.iload 5, 2) := by decide +kernel
theorem dX3_look_105 : decode cX3_look 105 = .ok (.iconst 1, 1) := by decide +kernel
theorem dX3_look_106 : decode cX3_look 106 = .ok (.iadd, 1) := by decide +kernel
theorem dX3_look_107 : decode cX3_look 107 = .ok (.istore 7, 2) := by decide +kernel
theorem dX3_look_109 : decode cX3_look 109 = .ok (.iload 7, 2) := by decide +kernel
theorem dX3_look_111 : decode cX3_look 111 = .ok (.iload_n 3, 1) := by decide +kernel
theorem dX3_look_112 : decode cX3_look 112 = .ok (.if_icmp .ge 34, 3) := by decide +kernel
theorem dX3_look_115 : decode cX3_look 115 = .ok (.aload_n 2, 1) := by decide +kernel
theorem dX3_look_116 : decode cX3_look 116 = .ok (.iload 7, 2) := by decide +kernel
theorem dX3_look_118 : decode cX3_look 118 = .ok (.caload, 1) := by decide +kernel
theorem dX3_look_119 : decode cX3_look 119 = .ok (.invokestatic 47, 3) := by decide +kernel
theorem dX3_look_122 : decode cX3_look 122 = .ok (.ifCond .ne 24, 3) := by decide +kernel
theorem dX3_look_125 : decode cX3_look 125 = .ok (.aload_n 2, 1) := by decide +kernel
theorem dX3_look_126 : decode cX3_look 126 = .ok (.iload 7, 2) := by decide +kernel
theorem dX3_look_128 : decode cX3_look 128 = .ok (.caload, 1) := by decide +kernel
theorem dX3_look_129 : decode cX3_look 129 = .ok (.invokestatic 51, 3) := by decide +kernel
theorem dX3_look_132 : decode cX3_look 132 = .ok (.iload 6, 2) := by decide +kernel
theorem dX3_look_134 : decode cX3_look 134 = .ok (.invokestatic 51, 3) := by decide +kernel
theorem dX3_look_137 : decode cX3_look 137 = .ok (.if_icmp .ne 9, 3) := by decide +kernel
theorem dX3_look_140 : decode cX3_look 140 = .ok (.iinc 7 1, 3) := by decide +kernel
theorem dX3_look_143 : decode cX3_look 143 = .ok (.goto (-34), 3) := by decide +kernel
theorem dX3_look_146 : decode cX3_look 146 = .ok (.aload_n 0, 1) := by decide +kernel
theorem dX3_look_147 : decode cX3_look 147 = .ok (.getfield 33, 3) := by decide +kernel
theorem dX3_look_150 : decode cX3_look 150 = .ok (.iload_n 1, 1) := by decide +kernel
theorem dX3_look_151 : decode cX3_look 151 = .ok (.aaload, 1) := by decide +kernel
theorem dX3_look_152 : decode cX3_look 152 = .ok (.iload 4, 2) := by decide +kernel
theorem dX3_look_154 : decode cX3_look 154 = .ok (.aaload, 1) := by decide +kernel
theorem dX3_look_155 : decode cX3_look 155 = .ok (.aload_n 0, 1) := by decide +kernel
theorem dX3_look_156 : decode cX3_look 156 = .ok (.getfield 28, 3) := by decide +kernel
theorem dX3_look_159 : decode cX3_look 159 = .ok (.iload_n 1, 1) := by decide +kernel
theorem dX3_look_160 : decode cX3_look 160 = .ok (.aaload, 1) := by decide +kernel
theorem dX3_look_161 : decode cX3_look 161 = .ok (.iload 4, 2) := by decide +kernel
theorem dX3_look_163 : decode cX3_look 163 = .ok (.iaload, 1) := by decide +kernel
theorem dX3_look_164 : decode cX3_look 164 = .ok (.iload 5, 2) := by decide +kernel
theorem dX3_look_166 : decode cX3_look 166 = .ok (.iastore, 1) := by decide +kernel
theorem dX3_look_167 : decode cX3_look 167 = .ok (.aload_n 0, 1) := by decide +kernel
theorem dX3_look_168 : decode cX3_look 168 = .ok (.getfield 36, 3) := by decide +kernel
theorem dX3_look_171 : decode cX3_look 171 = .ok (.iload_n 1, 1) := by decide +kernel
theorem dX3_look_172 : decode cX3_look 172 = .ok (.aaload, 1) := by decide +kernel
theorem dX3_look_173 : decode cX3_look 173 = .ok (.iload 4, 2) := by decide +kernel
theorem dX3_look_175 : decode cX3_look 175 = .ok (.aaload, 1) := by decide +kernel
theorem dX3_look_176 : decode cX3_look 176 = .ok (.aload_n 0, 1) := by decide +kernel
theorem dX3_look_177 : decode cX3_look 177 = .ok (.getfield 28, 3) := by decide +kernel
theorem dX3_look_180 : decode cX3_look 180 = .ok (.iload_n 1, 1) := by decide +kernel
theorem dX3_look_181 : decode cX3_look 181 = .ok (.aaload, 1) := by decide +kernel
theorem dX3_look_182 : decode cX3_look 182 = .ok (.iload 4, 2) := by decide +kernel
theorem dX3_look_184 : decode cX3_look 184 = .ok (.iaload, 1) := by decide +kernel
theorem dX3_look_185 : decode cX3_look 185 = .ok (.iload 7, 2) := by decide +kernel
theorem dX3_look_187 : decode cX3_look 187 = .ok (.iastore, 1) := by decide +kernel
theorem dX3_look_188 : decode cX3_look 188 = .ok (.aload_n 0, 1) := by decide +kernel
theorem dX3_look_189 : decode cX3_look 189 = .ok (.getfield 28, 3) := by decide +kernel
theorem dX3_look_192 : decode cX3_look 192 = .ok (.iload_n 1, 1) := by decide +kernel
theorem dX3_look_193 : decode cX3_look 193 = .ok (.aaload, 1) := by decide +kernel
theorem dX3_look_194 : decode cX3_look 194 = .ok (.iload 4, 2) := by decide +kernel
theorem dX3_look_196 : decode cX3_look 196 = .ok (.dup2, 1) := by decide +kernel
theorem dX3_look_197 : decode cX3_look 197 = .ok (.iaload, 1) := by decide +kernel
theorem dX3_look_198 : decode cX3_look 198 = .ok (.iconst 1, 1) := by decide +kernel
theorem dX3_look_199 : decode cX3_look 199 = .ok (.iadd, 1) := by decide +kernel
theorem dX3_look_200 : decode cX3_look 200 = .ok (.iastore, 1) := by decide +kernel
theorem dX3_look_201 : decode cX3_look 201 = .ok (.iload 7, 2) := by decide +kernel
theorem dX3_look_203 : decode cX3_look 203 = .ok (.istore 5, 2) := by decide +kernel
theorem dX3_look_205 : decode cX3_look 205 = .ok (.goto (-165), 3) := by decide +kernel
theorem dX3_look_208 : decode cX3_look 208 = .ok (.return_, 1) := by decide +kernel
set_option maxRecDepth 20000 in
theorem ggX3_look__X3_look : GoodIn wsX3_look_ wsX3_look := goodIn_r _ [7, 8, 9, 10, 11, 12, 13, 6, 14, 15, 16, 17, 18, 19, 20, 21, 22, 23, 24, 25, 26] (by decide +kernel) (by decide +kernel)
set_option maxRecDepth 20000 in
theorem gX3_look__X3_look : GoodIn wsX3_look_ (wsV RX3 54 RX3 yX3_look wsX3_look) := goodIn_app (goodIn_of _ (by decide +kernel)) ggX3_look__X3_look
theorem dX3_look__0 : decode cX3_look_ 0 = .ok (.aload_n 0, 1) := by decide +kernel
theorem dX3_look__1 : decode cX3_look_ 1 = .ok (.iload_n 1, 1) := by decide +kernel
theorem dX3_look__2 : decode cX3_look_ 2 = .ok (.aload_n 0, 1) := by decide +kernel
theorem dX3_look__3 : decode cX3_look_ 3 = .ok (.getfield 15, 3) := by decide +kernel
theorem dX3_look__6 : decode cX3_look_ 6 = .ok (.iload_n 2, 1) := by decide +kernel
theorem dX3_look__7 : decode cX3_look_ 7 = .ok (.aaload, 1) := by decide +kernel
theorem dX3_look__8 : decode cX3_look_ 8 = .ok (.aload_n 0, 1) := by decide +kernel
theorem dX3_look__9 : decode cX3_look_ 9 = .ok (.getfield 18, 3) := by decide +kernel
theorem dX3_look__12 : decode cX3_look_ 12 = .ok (.iload_n 2, 1) := by decide +kernel
theorem dX3_look__13 : decode cX3_look_ 13 = .ok (.iaload, 1) := by decide +kernel
theorem dX3_look__14 : decode cX3_look_ 14 = .ok (.invokevirtual 54, 3) := by decide +kernel
theorem dX3_look__17 : decode cX3_look_ 17 = .ok (.return_, 1) := by decide +kernel
set_option maxRecDepth 20000 in
theorem ggX3_isNumber_X3_isDigit : GoodIn wsX3_isNumber wsX3_isDigit := goodIn_r _ [7] (by decide +kernel) (by decide +kernel)
set_option maxRecDepth 20000 in
theorem gX3_isNumber_X3_isDigit : GoodIn wsX3_isNumber (va_wsS RX3 51 yX3_isDigit wsX3_isDigit) := goodIn_app (goodIn_of _ (by decide +kernel)) ggX3_isNumber_X3_isDigit
theorem dX3_isNumber_0 : decode cX3_isNumber 0 = .ok (.iload_n 3, 1) := by decide +kernel
theorem dX3_isNumber_1 : decode cX3_isNumber 1 = .ok (.aload_n 0, 1) := by decide +kernel
theorem dX3_isNumber_2 : decode cX3_isNumber 2 = .ok (.getfield 28, 3) := by decide +kernel
theorem dX3_isNumber_5 : decode cX3_isNumber 5 = .ok (.iload_n 1, 1) := by decide +kernel
theorem dX3_isNumber_6 : decode cX3_isNumber 6 = .ok (.aaload, 1) := by decide +kernel
theorem dX3_isNumber_7 : decode cX3_isNumber 7 = .ok (.iload_n 2, 1) := by decide +kernel
theorem dX3_isNumber_8 : decode cX3_isNumber 8 = .ok (.iaload, 1) := by decide +kernel
theorem dX3_isNumber_9 : decode cX3_isNumber 9 = .ok (.if_icmp .ge 26, 3) := by decide +kernel
theorem dX3_isNumber_12 : decode cX3_isNumber 12 = .ok (.aload_n 0, 1) := by decide +kernel
theorem dX3_isNumber_13 : decode cX3_isNumber 13 = .ok (.getfield 23, 3) := by decide +kernel
theorem dX3_isNumber_16 : decode cX3_isNumber 16 = .ok (.iload_n 1, 1) := by decide +kernel
theorem dX3_isNumber_17 : decode cX3_isNumber 17 = .ok (.aaload, 1) := by decide +kernel
theorem dX3_isNumber_18 : decode cX3_isNumber 18 = .ok (.aload_n 0, 1) := by decide +kernel
theorem dX3_isNumber_19 : decode cX3_isNumber 19 = .ok (.getfield 33, 3) := by decide +kernel
theorem dX3_isNumber_22 : decode cX3_isNumber 22 = .ok (.iload_n 1, 1) := by decide +kernel
theorem dX3_isNumber_23 : decode cX3_isNumber 23 = .ok (.aaload, 1) := by decide +kernel
theorem dX3_isNumber_24 : decode cX3_isNumber 24 = .ok (.iload_n 2, 1) := by decide +kernel
theorem dX3_isNumber_25 : decode cX3_isNumber 25 = .ok (.aaload, 1) := by decide +kernel
theorem dX3_isNumber_26 : decode cX3_isNumber 26 = .ok (.iload_n 3, 1) := by decide +kernel
theorem dX3_isNumber_27 : decode cX3_isNumber 27 = .ok (.iaload, 1) := by decide +kernel
theorem dX3_isNumber_28 : decode cX3_isNumber 28 = .ok (.caload, 1) := by decide +kernel
theorem dX3_isNumber_29 : decode cX3_isNumber 29 = .ok (.invokestatic 51, 3) := by decide +kernel
theorem dX3_isNumber_32 : decode cX3_isNumber 32 = .ok (.ifCond .eq 7, 3) := by decide +kernel
theorem dX3_isNumber_35 : decode cX3_isNumber 35 = .ok (.iconst 1, 1) := by decide +kernel
theorem dX3_isNumber_36 : decode cX3_isNumber 36 = .ok (.goto 4, 3) := by decide +kernel
theorem dX3_isNumber_39 : decode cX3_isNumber 39 = .ok (.iconst 0, 1) := by decide +kernel
theorem dX3_isNumber_40 : decode cX3_isNumber 40 = .ok (.ireturn, 1) := by decide +kernel
theorem dX3_number_0 : decode cX3_number 0 = .ok (.iconst 0, 1) := by decide +kernel
theorem dX3_number_1 : decode cX3_number 1 = .ok (.istore 4, 2) := by decide +kernel
theorem dX3_number_3 : decode cX3_number 3 = .ok (.iload_n 3, 1) := by decide +kernel
theorem dX3_number_4 : decode cX3_number 4 = .ok (.aload_n 0, 1) := by decide +kernel
theorem dX3_number_5 : decode cX3_number 5 = .ok (.getfield 28, 3) := by decide +kernel
theorem dX3_number_8 : decode cX3_number 8 = .ok (.iload_n 1, 1) := by decide +kernel
theorem dX3_number_9 : decode cX3_number 9 = .ok (.aaload, 1) := by decide +kernel
theorem dX3_number_10 : decode cX3_number 10 = .ok (.iload_n 2, 1) := by decide +kernel
theorem dX3_number_11 : decode cX3_number 11 = .ok (.iaload, 1) := by decide +kernel
theorem dX3_number_12 : decode cX3_number 12 = .ok (.if_icmp .ge 16, 3) := by decide +kernel
theorem dX3_number_15 : decode cX3_number 15 = .ok (.aload_n 0, 1) := by decide +kernel
theorem dX3_number_16 : decode cX3_number 16 = .ok (.getfield 33, 3) := by decide +kernel
theorem dX3_number_19 : decode cX3_number 19 = .ok (.iload_n 1, 1) := by decide +kernel
theorem dX3_number_20 : decode cX3_number 20 = .ok (.aaload, 1) := by decide +kernel
theorem dX3_number_21 : decode cX3_number 21 = .ok (.iload_n 2, 1) := by decide +kernel
theorem dX3_number_22 : decode cX3_number 22 = .ok (.aaload, 1) := by decide +kernel
theorem dX3_number_23 : decode cX3_number 23 = .ok (.iload_n 3, 1) := by decide +kernel
theorem dX3_number_24 : decode cX3_number 24 = .ok (.iaload, 1) := by decide +kernel
theorem dX3_number_25 : decode cX3_number 25 = .ok (.goto 5, 3) := by decide +kernel
theorem dX3_number_28 : decode cX3_number 28 = .ok (.bipush 60, 2) := by decide +kernel
theorem dX3_number_30 : decode cX3_number 30 = .ok (.istore 5, 2) := by decide +kernel
theorem dX3_number_32 : decode cX3_number 32 = .ok (.iload 5, 2) := by decide +kernel
theorem dX3_number_34 : decode cX3_number 34 = .ok (.bipush 60, 2) := by decide +kernel
theorem dX3_number_36 : decode cX3_number 36 = .ok (.if_icmp .ge 44, 3) := by decide +kernel
theorem dX3_number_39 : decode cX3_number 39 = .ok (.iload 5, 2) := by decide +kernel
theorem dX3_number_41 : decode cX3_number 41 = .ok (.aload_n 0, 1) := by decide +kernel
theorem dX3_number_42 : decode cX3_number 42 = .ok (.getfield 36, 3) := by decide +kernel
theorem dX3_number_45 : decode cX3_number 45 = .ok (.iload_n 1, 1) := by decide +kernel
theorem dX3_number_46 : decode cX3_number 46 = .ok (.aaload, 1) := by decide +kernel
theorem dX3_number_47 : decode cX3_number 47 = .ok (.iload_n 2, 1) := by decide +kernel
theorem dX3_number_48 : decode cX3_number 48 = .ok (.aaload, 1) := by decide +kernel
theorem dX3_number_49 : decode cX3_number 49 = .ok (.iload_n 3, 1) := by decide +kernel
theorem dX3_number_50 : decode cX3_number 50 = .ok (.iaload, 1) := by decide +kernel
theorem dX3_number_51 : decode cX3_number 51 = .ok (.if_icmp .ge 29, 3) := by decide +kernel
theorem dX3_number_54 : decode cX3_number 54 = .ok (.bipush 10, 2) := by decide +kernel
theorem dX3_number_56 : decode cX3_number 56 = .ok (.iload 4, 2) := by decide +kernel
theorem dX3_number_58 : decode cX3_number 58 = .ok (.imul, 1) := by decide +kernel
theorem dX3_number_59 : decode cX3_number 59 = .ok (.aload_n 0, 1) := by decide +kernel
theorem dX3_number_60 : decode cX3_number 60 = .ok (.getfield 23, 3) := by decide +kernel
theorem dX3_number_63 : decode cX3_number 63 = .ok (.iload_n 1, 1) := by decide +kernel
theorem dX3_number_64 : decode cX3_number 64 = .ok (.aaload, 1) := by decide +kernel
theorem dX3_number_65 : decode cX3_number 65 = .ok (.iload 5, 2) := by decide +kernel
theorem dX3_number_67 : decode cX3_number 67 = .ok (.caload, 1) := by decide +kernel
theorem dX3_number_68 : decode cX3_number 68 = .ok (.bipush 48, 2) := by decide +kernel
theorem dX3_number_70 : decode cX3_number 70 = .ok (.isub, 1) := by decide +kernel
theorem dX3_number_71 : decode cX3_number 71 = .ok (.iadd, 1) := by decide +kernel
theorem dX3_number_72 : decode cX3_number 72 = .ok (.istore 4, 2) := by decide +kernel
theorem dX3_number_74 : decode cX3_number 74 = .ok (.iinc 5 1, 3) := by decide +kernel
theorem dX3_number_77 : decode cX3_number 77 = .ok (.goto (-45), 3) := by decide +kernel
theorem dX3_number_80 : decode cX3_number 80 = .ok (.iload 4, 2) := by decide +kernel
theorem dX3_number_82 : decode cX3_number 82 = .ok (.ireturn, 1) := by decide +kernel
theorem dX3_words_0 : decode cX3_words 0 = .ok (.aload_n 0, 1) := by decide +kernel
theorem dX3_words_1 : decode cX3_words 1 = .ok (.getfield 36, 3) := by decide +kernel
theorem dX3_words_4 : decode cX3_words 4 = .ok (.iconst 0, 1) := by decide +kernel
theorem dX3_words_5 : decode cX3_words 5 = .ok (.aaload, 1) := by decide +kernel
theorem dX3_words_6 : decode cX3_words 6 = .ok (.iload_n 1, 1) := by decide +kernel
theorem dX3_words_7 : decode cX3_words 7 = .ok (.aaload, 1) := by decide +kernel
theorem dX3_words_8 : decode cX3_words 8 = .ok (.iload_n 2, 1) := by decide +kernel
theorem dX3_words_9 : decode cX3_words 9 = .ok (.iaload, 1) := by decide +kernel
theorem dX3_words_10 : decode cX3_words 10 = .ok (.aload_n 0, 1) := by decide +kernel
theorem dX3_words_11 : decode cX3_words 11 = .ok (.getfield 33, 3) := by decide +kernel
theorem dX3_words_14 : decode cX3_words 14 = .ok (.iconst 0, 1) := by decide +kernel
theorem dX3_words_15 : decode cX3_words 15 = .ok (.aaload, 1) := by decide +kernel
theorem dX3_words_16 : decode cX3_words 16 = .ok (.iload_n 1, 1) := by decide +kernel
theorem dX3_words_17 : decode cX3_words 17 = .ok (.aaload, 1) := by decide +kernel
theorem dX3_words_18 : decode cX3_words 18 = .ok (.iload_n 2, 1) := by decide +kernel
theorem dX3_words_19 : decode cX3_words 19 = .ok (.iaload, 1) := by decide +kernel
theorem dX3_words_20 : decode cX3_words 20 = .ok (.isub, 1) := by decide +kernel
theorem dX3_words_21 : decode cX3_words 21 = .ok (.istore_n 3, 1) := by decide +kernel
theorem dX3_words_22 : decode cX3_words 22 = .ok (.aload_n 0, 1) := by decide +kernel
theorem dX3_words_23 : decode cX3_words 23 = .ok (.getfield 36, 3) := by decide +kernel
theorem dX3_words_26 : decode cX3_words 26 = .ok (.iconst 1, 1) := by decide +kernel
theorem dX3_words_27 : decode cX3_words 27 = .ok (.aaload, 1) := by decide +kernel
theorem dX3_words_28 : decode cX3_words 28 = .ok (.iload_n 1, 1) := by decide +kernel
theorem dX3_words_29 : decode cX3_words 29 = .ok (.aaload, 1) := by decide +kernel
theorem dX3_words_30 : decode cX3_words 30 = .ok (.iload_n 2, 1) := by decide +kernel
theorem dX3_words_31 : decode cX3_words 31 = .ok (.iaload, 1) := by decide +kernel
theorem dX3_words_32 : decode cX3_words 32 = .ok (.aload_n 0, 1) := by decide +kernel
theorem dX3_words_33 : decode cX3_words 33 = .ok (.getfield 33, 3) := by decide +kernel
theorem dX3_words_36 : decode cX3_words 36 = .ok (.iconst 1, 1) := by decide +kernel
theorem dX3_words_37 : decode cX3_words 37 = .ok (.aaload, 1) := by decide +kernel
theorem dX3_words_38 : decode cX3_words 38 = .ok (.iload_n 1, 1) := by decide +kernel
theorem dX3_words_39 : decode cX3_words 39 = .ok (.aaload, 1) := by decide +kernel
theorem dX3_words_40 : decode cX3_words 40 = .ok (.iload_n 2, 1) := by decide +kernel
theorem dX3_words_41 : decode cX3_words 41 = .ok (.iaload, 1) := by decide +kernel
theorem dX3_words_42 : decode cX3_words 42 = .ok (.isub, 1) := by decide +kernel
theorem dX3_words_43 : decode cX3_words 43 = .ok (.istore 4, 2) := by decide +kernel
theorem dX3_words_45 : decode cX3_words 45 = .ok (.iconst 0, 1) := by decide +kernel
theorem dX3_words_46 : decode cX3_words 46 = .ok (.istore 5, 2) := by decide +kernel
theorem dX3_words_48 : decode cX3_words 48 = .ok (.iload 5, 2) := by decide +kernel
theorem dX3_words_50 : decode cX3_words 50 = .ok (.iload_n 3, 1) := by decide +kernel
theorem dX3_words_51 : decode cX3_words 51 = .ok (.if_icmp .ge 80, 3) := by decide +kernel
theorem dX3_words_54 : decode cX3_words 54 = .ok (.iload 5, 2) := by decide +kernel
theorem dX3_words_56 : decode cX3_words 56 = .ok (.iload 4, 2) := by decide +kernel
theorem dX3_words_58 : decode cX3_words 58 = .ok (.if_icmp .ge 73, 3) := by decide +kernel
theorem dX3_words_61 : decode cX3_words 61 = .ok (.aload_n 0, 1) := by decide +kernel
theorem dX3_words_62 : decode cX3_words 62 = .ok (.getfield 23, 3) := by decide +kernel
theorem dX3_words_65 : decode cX3_words 65 = .ok (.iconst 0, 1) := by decide +kernel
theorem dX3_words_66 : decode cX3_words 66 = .ok (.aaload, 1) := by decide +kernel
theorem dX3_words_67 : decode cX3_words 67 = .ok (.aload_n 0, 1) := by decide +kernel
theorem dX3_words_68 : decode cX3_words 68 = .ok (.getfield 33, 3) := by decide +kernel
theorem dX3_words_71 : decode cX3_words 71 = .ok (.iconst 0, 1) := by decide +kernel
theorem dX3_words_72 : decode cX3_words 72 = .ok (.aaload, 1) := by decide +kernel
theorem dX3_words_73 : decode cX3_words 73 = .ok (.iload_n 1, 1) := by decide +kernel
theorem dX3_words_74 : decode cX3_words 74 = .ok (.aaload, 1) := by decide +kernel
theorem dX3_words_75 : decode cX3_words 75 = .ok (.iload_n 2, 1) := by decide +kernel
theorem dX3_words_76 : decode cX3_words 76 = .ok (.iaload, 1) := by decide +kernel
theorem dX3_words_77 : decode cX3_words 77 = .ok (.iload 5, 2) := by decide +kernel
theorem dX3_words_79 : decode cX3_words 79 = .ok (.iadd, 1) := by decide +kernel
theorem dX3_words_80 : decode cX3_words 80 = .ok (.caload, 1) := by decide +kernel
theorem dX3_words_81 : decode cX3_words 81 = .ok (.istore 6, 2) := by decide +kernel
theorem dX3_words_83 : decode cX3_words 83 = .ok (.aload_n 0, 1) := by decide +kernel
theorem dX3_words_84 : decode cX3_words 84 = .ok (.getfield 23, 3) := by decide +kernel
theorem dX3_words_87 : decode cX3_words 87 = .ok (.iconst 1, 1) := by decide +kernel
theorem dX3_words_88 : decode cX3_words 88 = .ok (.aaload, 1) := by decide +kernel
theorem dX3_words_89 : decode cX3_words 89 = .ok (.aload_n 0, 1) := by decide +kernel
theorem dX3_words_90 : decode cX3_words 90 = .ok (.getfield 33, 3) := by decide +kernel
theorem dX3_words_93 : decode cX3_words 93 = .ok (.iconst 1, 1) := by decide +kernel
theorem dX3_words_94 : decode cX3_words 94 = .ok (.aaload, 1) := by decide +kernel
theorem dX3_words_95 : decode cX3_words 95 = .ok (.iload_n 1, 1) := by decide +kernel
theorem dX3_words_96 : decode cX3_words 96 = .ok (.aaload, 1) := by decide +kernel
theorem dX3_words_97 : decode cX3_words 97 = .ok (.iload_n 2, 1) := by decide +kernel
theorem dX3_words_98 : decode cX3_words 98 = .ok (.iaload, 1) := by decide +kernel
theorem dX3_words_99 : decode cX3_words 99 = .ok (.iload 5, 2) := by decide +kernel
theorem dX3_words_101 : decode cX3_words 101 = .ok (.iadd, 1) := by decide +kernel
theorem dX3_words_102 : decode cX3_words 102 = .ok (.caload, 1) := by decide +kernel
theorem dX3_words_103 : decode cX3_words 103 = .ok (.istore 7, 2) := by decide +kernel
theorem dX3_words_105 : decode cX3_words 105 = .ok (.iload 6, 2) := by decide +kernel
theorem dX3_words_107 : decode cX3_words 107 = .ok (.iload 7, 2) := by decide +kernel
theorem dX3_words_109 : decode cX3_words 109 = .ok (.if_icmp .eq 16, 3) := by decide +kernel
theorem dX3_words_112 : decode cX3_words 112 = .ok (.iload 6, 2) := by decide +kernel
theorem dX3_words_114 : decode cX3_words 114 = .ok (.iload 7, 2) := by decide +kernel
theorem dX3_words_116 : decode cX3_words 116 = .ok (.if_icmp .ge 7, 3) := by decide +kernel
theorem dX3_words_119 : decode cX3_words 119 = .ok (.iconst (-1), 1) := by decide +kernel
theorem dX3_words_120 : decode cX3_words 120 = .ok (.goto 4, 3) := by decide +kernel
theorem dX3_words_123 : decode cX3_words 123 = .ok (.iconst 1, 1) := by decide +kernel
theorem dX3_words_124 : decode cX3_words 124 = .ok (.ireturn, 1) := by decide +kernel
theorem dX3_words_125 : decode cX3_words 125 = .ok (.iinc 5 1, 3) := by decide +kernel
theorem dX3_words_128 : decode cX3_words 128 = .ok (.goto (-80), 3) := by decide +kernel
theorem dX3_words_131 : decode cX3_words 131 = .ok (.iload_n 3, 1) := by decide +kernel
theorem dX3_words_132 : decode cX3_words 132 = .ok (.iload 4, 2) := by decide +kernel
theorem dX3_words_134 : decode cX3_words 134 = .ok (.if_icmp .ge 7, 3) := by decide +kernel
theorem dX3_words_137 : decode cX3_words 137 = .ok (.iconst (-1), 1) := by decide +kernel
theorem dX3_words_138 : decode cX3_words 138 = .ok (.goto 14, 3) := by decide +kernel
theorem dX3_words_141 : decode cX3_words 141 = .ok (.iload_n 3, 1) := by decide +kernel
theorem dX3_words_142 : decode cX3_words 142 = .ok (.iload 4, 2) := by decide +kernel
theorem dX3_words_144 : decode cX3_words 144 = .ok (.if_icmp .le 7, 3) := by decide +kernel
theorem dX3_words_147 : decode cX3_words 147 = .ok (.iconst 1, 1) := by decide +kernel
theorem dX3_words_148 : decode cX3_words 148 = .ok (.goto 4, 3) := by decide +kernel
theorem dX3_words_151 : decode cX3_words 151 = .ok (.iconst 0, 1) := by decide +kernel
theorem dX3_words_152 : decode cX3_words 152 = .ok (.ireturn, 1) := by decide +kernel
set_option maxRecDepth 20000 in
theorem ggX3_rows_X3_isNumber : GoodIn wsX3_rows wsX3_isNumber := goodIn_r _ [6, 1, 7, 8, 9, 10, 5, 11, 21, 22, 23, 24, 25, 26, 27, 28, 29] (by decide +kernel) (by decide +kernel)
set_option maxRecDepth 20000 in
theorem gX3_rows_X3_isNumber : GoodIn wsX3_rows (wsV RX3 58 RX3 yX3_isNumber wsX3_isNumber) := goodIn_app (goodIn_of _ (by decide +kernel)) ggX3_rows_X3_isNumber
set_option maxRecDepth 20000 in
theorem ggX3_rows_X3_number : GoodIn wsX3_rows wsX3_number := goodIn_r _ [15, 1, 8, 16, 7, 21, 22, 23, 24, 25, 26, 27, 28, 29] (by decide +kernel) (by decide +kernel)
set_option maxRecDepth 20000 in
theorem gX3_rows_X3_number : GoodIn wsX3_rows (wsV RX3 61 RX3 yX3_number wsX3_number) := goodIn_app (goodIn_of _ (by decide +kernel)) ggX3_rows_X3_number
set_option maxRecDepth 20000 in
theorem ggX3_rows_X3_words : GoodIn wsX3_rows wsX3_words := goodIn_r _ [20, 16, 8, 7, 21, 22, 23, 24, 25, 26, 27, 28, 29] (by decide +kernel) (by decide +kernel)
set_option maxRecDepth 20000 in
theorem gX3_rows_X3_words : GoodIn wsX3_rows (wsV RX3 65 RX3 yX3_words wsX3_words) := goodIn_app (goodIn_of _ (by decide +kernel)) ggX3_rows_X3_words
theorem dX3_rows_0 : decode cX3_rows 0 = .ok (.iconst 0, 1) := by decide +kernel
theorem dX3_rows_1 : decode cX3_rows 1 = .ok (.istore_n 2, 1) := by decide +kernel
theorem dX3_rows_2 : decode cX3_rows 2 = .ok (.iload_n 2, 1) := by decide +kernel
theorem dX3_rows_3 : decode cX3_rows 3 = .ok (.aload_n 0, 1) := by decide +kernel
theorem dX3_rows_4 : decode cX3_rows 4 = .ok (.getfield 28, 3) := by decide +kernel
theorem dX3_rows_7 : decode cX3_rows 7 = .ok (.iconst 0, 1) := by decide +kernel
theorem dX3_rows_8 : decode cX3_rows 8 = .ok (.aaload, 1) := by decide +kernel
theorem dX3_rows_9 : decode cX3_rows 9 = .ok (.iload_n 1, 1) := by decide +kernel
theorem dX3_rows_10 : decode cX3_rows 10 = .ok (.iaload, 1) := by decide +kernel
theorem dX3_rows_11 : decode cX3_rows 11 = .ok (.if_icmp .lt 15, 3) := by decide +kernel
theorem dX3_rows_14 : decode cX3_rows 14 = .ok (.iload_n 2, 1) := by decide +kernel
theorem dX3_rows_15 : decode cX3_rows 15 = .ok (.aload_n 0, 1) := by decide +kernel
theorem dX3_rows_16 : decode cX3_rows 16 = .ok (.getfield 28, 3) := by decide +kernel
theorem dX3_rows_19 : decode cX3_rows 19 = .ok (.iconst 1, 1) := by decide +kernel
theorem dX3_rows_20 : decode cX3_rows 20 = .ok (.aaload, 1) := by decide +kernel
theorem dX3_rows_21 : decode cX3_rows 21 = .ok (.iload_n 1, 1) := by decide +kernel
theorem dX3_rows_22 : decode cX3_rows 22 = .ok (.iaload, 1) := by decide +kernel
theorem dX3_rows_23 : decode cX3_rows 23 = .ok (.if_icmp .ge 101, 3) := by decide +kernel
theorem dX3_rows_26 : decode cX3_rows 26 = .ok (.aload_n 0, 1) := by decide +kernel
theorem dX3_rows_27 : decode cX3_rows 27 = .ok (.iconst 0, 1) := by decide +kernel
theorem dX3_rows_28 : decode cX3_rows 28 = .ok (.iload_n 1, 1) := by decide +kernel
theorem dX3_rows_29 : decode cX3_rows 29 = .ok (.iload_n 2, 1) := by decide +kernel
theorem dX3_rows_30 : decode cX3_rows 30 = .ok (.invokevirtual 58, 3) := by decide +kernel
theorem dX3_rows_33 : decode cX3_rows 33 = .ok (.istore_n 3, 1) := by decide +kernel
theorem dX3_rows_34 : decode cX3_rows 34 = .ok (.aload_n 0, 1) := by decide +kernel
theorem dX3_rows_35 : decode cX3_rows 35 = .ok (.iconst 1, 1) := by decide +kernel
theorem dX3_rows_36 : decode cX3_rows 36 = .ok (.iload_n 1, 1) := by decide +kernel
theorem dX3_rows_37 : decode cX3_rows 37 = .ok (.iload_n 2, 1) := by decide +kernel
theorem dX3_rows_38 : decode cX3_rows 38 = .ok (.invokevirtual 58, 3) := by decide +kernel
theorem dX3_rows_41 : decode cX3_rows 41 = .ok (.istore 4, 2) := by decide +kernel
theorem dX3_rows_43 : decode cX3_rows 43 = .ok (.iload_n 3, 1) := by decide +kernel
theorem dX3_rows_44 : decode cX3_rows 44 = .ok (.iload 4, 2) := by decide +kernel
theorem dX3_rows_46 : decode cX3_rows 46 = .ok (.if_icmp .eq 13, 3) := by decide +kernel
theorem dX3_rows_49 : decode cX3_rows 49 = .ok (.iload_n 3, 1) := by decide +kernel
theorem dX3_rows_50 : decode cX3_rows 50 = .ok (.ifCond .eq 7, 3) := by decide +kernel
theorem dX3_rows_53 : decode cX3_rows 53 = .ok (.iconst (-1), 1) := by decide +kernel
theorem dX3_rows_54 : decode cX3_rows 54 = .ok (.goto 4, 3) := by decide +kernel
theorem dX3_rows_57 : decode cX3_rows 57 = .ok (.iconst 1, 1) := by decide +kernel
theorem dX3_rows_58 : decode cX3_rows 58 = .ok (.ireturn, 1) := by decide +kernel
theorem dX3_rows_59 : decode cX3_rows 59 = .ok (.iload_n 3, 1) := by decide +kernel
theorem dX3_rows_60 : decode cX3_rows 60 = .ok (.ifCond .eq 13, 3) := by decide +kernel
theorem dX3_rows_63 : decode cX3_rows 63 = .ok (.aload_n 0, 1) := by decide +kernel
theorem dX3_rows_64 : decode cX3_rows 64 = .ok (.iconst 0, 1) := by decide +kernel
theorem dX3_rows_65 : decode cX3_rows 65 = .ok (.iload_n 1, 1) := by decide +kernel
theorem dX3_rows_66 : decode cX3_rows 66 = .ok (.iload_n 2, 1) := by decide +kernel
theorem dX3_rows_67 : decode cX3_rows 67 = .ok (.invokevirtual 61, 3) := by decide +kernel
theorem dX3_rows_70 : decode cX3_rows 70 = .ok (.goto 9, 3) := by decide +kernel
theorem dX3_rows_73 : decode cX3_rows 73 = .ok (.aload_n 0, 1) := by decide +kernel
theorem dX3_rows_74 : decode cX3_rows 74 = .ok (.iload_n 1, 1) := by decide +kernel
theorem dX3_rows_75 : decode cX3_rows 75 = .ok (.iload_n 2, 1) := by decide +kernel
theorem dX3_rows_76 : decode cX3_rows 76 = .ok (.invokevirtual 65, 3) := by decide +kernel
theorem dX3_rows_79 : decode cX3_rows 79 = .ok (.istore 5, 2) := by decide +kernel
theorem dX3_rows_81 : decode cX3_rows 81 = .ok (.iload_n 3, 1) := by decide +kernel
theorem dX3_rows_82 : decode cX3_rows 82 = .ok (.ifCond .eq 13, 3) := by decide +kernel
theorem dX3_rows_85 : decode cX3_rows 85 = .ok (.aload_n 0, 1) := by decide +kernel
theorem dX3_rows_86 : decode cX3_rows 86 = .ok (.iconst 1, 1) := by decide +kernel
theorem dX3_rows_87 : decode cX3_rows 87 = .ok (.iload_n 1, 1) := by decide +kernel
theorem dX3_rows_88 : decode cX3_rows 88 = .ok (.iload_n 2, 1) := by decide +kernel
theorem dX3_rows_89 : decode cX3_rows 89 = .ok (.invokevirtual 61, 3) := by decide +kernel
theorem dX3_rows_92 : decode cX3_rows 92 = .ok (.goto 4, 3) := by decide +kernel
theorem dX3_rows_95 : decode cX3_rows 95 = .ok (.iconst 0, 1) := by decide +kernel
theorem dX3_rows_96 : decode cX3_rows 96 = .ok (.istore 6, 2) := by decide +kernel
theorem dX3_rows_98 : decode cX3_rows 98 = .ok (.iload 5, 2) := by decide +kernel
theorem dX3_rows_100 : decode cX3_rows 100 = .ok (.iload 6, 2) := by decide +kernel
theorem dX3_rows_102 : decode cX3_rows 102 = .ok (.if_icmp .eq 16, 3) := by decide +kernel
theorem dX3_rows_105 : decode cX3_rows 105 = .ok (.iload 5, 2) := by decide +kernel
theorem dX3_rows_107 : decode cX3_rows 107 = .ok (.iload 6, 2) := by decide +kernel
theorem dX3_rows_109 : decode cX3_rows 109 = .ok (.if_icmp .ge 7, 3) := by decide +kernel
theorem dX3_rows_112 : decode cX3_rows 112 = .ok (.iconst (-1), 1) := by decide +kernel
theorem dX3_rows_113 : decode cX3_rows 113 = .ok (.goto 4, 3) := by decide +kernel
theorem dX3_rows_116 : decode cX3_rows 116 = .ok (.iconst 1, 1) := by decide +kernel
theorem dX3_rows_117 : decode cX3_rows 117 = .ok (.ireturn, 1) := by decide +kernel
theorem dX3_rows_118 : decode cX3_rows 118 = .ok (.iinc 2 1, 3) := by decide +kernel
theorem dX3_rows_121 : decode cX3_rows 121 = .ok (.goto (-119), 3) := by decide +kernel
theorem dX3_rows_124 : decode cX3_rows 124 = .ok (.iconst 0, 1) := by decide +kernel
theorem dX3_rows_125 : decode cX3_rows 125 = .ok (.ireturn, 1) := by decide +kernel
set_option maxRecDepth 20000 in
theorem ggX3_judged_X3_rows : GoodIn wsX3_judged wsX3_rows := goodIn_r _ [7, 2, 8, 9, 10, 6, 11, 12, 13, 14, 15, 16, 17, 18, 19, 20, 21, 22, 23, 24, 25, 26, 27, 28, 29, 30, 31, 32, 33, 34] (by decide +kernel) (by decide +kernel)
set_option maxRecDepth 20000 in
theorem gX3_judged_X3_rows : GoodIn wsX3_judged (wsV RX3 69 RX3 yX3_rows wsX3_rows) := goodIn_app (goodIn_of _ (by decide +kernel)) ggX3_judged_X3_rows
theorem dX3_judged_0 : decode cX3_judged 0 = .ok (.aload_n 0, 1) := by decide +kernel
theorem dX3_judged_1 : decode cX3_judged 1 = .ok (.iconst 0, 1) := by decide +kernel
theorem dX3_judged_2 : decode cX3_judged 2 = .ok (.invokevirtual 69, 3) := by decide +kernel
theorem dX3_judged_5 : decode cX3_judged 5 = .ok (.istore_n 1, 1) := by decide +kernel
theorem dX3_judged_6 : decode cX3_judged 6 = .ok (.iload_n 1, 1) := by decide +kernel
theorem dX3_judged_7 : decode cX3_judged 7 = .ok (.ifCond .eq 15, 3) := by decide +kernel
theorem dX3_judged_10 : decode cX3_judged 10 = .ok (.iconst 2, 1) := by decide +kernel
theorem dX3_judged_11 : decode cX3_judged 11 = .ok (.newarray .int, 2) := by decide +kernel
theorem dX3_judged_13 : decode cX3_judged 13 = .ok (.dup, 1) := by decide +kernel
theorem dX3_judged_14 : decode cX3_judged 14 = .ok (.iconst 0, 1) := by decide +kernel
theorem dX3_judged_15 : decode cX3_judged 15 = .ok (.iload_n 1, 1) := by decide +kernel
theorem dX3_judged_16 : decode cX3_judged 16 = .ok (.iastore, 1) := by decide +kernel
theorem dX3_judged_17 : decode cX3_judged 17 = .ok (.dup, 1) := by decide +kernel
theorem dX3_judged_18 : decode cX3_judged 18 = .ok (.iconst 1, 1) := by decide +kernel
theorem dX3_judged_19 : decode cX3_judged 19 = .ok (.iconst 0, 1) := by decide +kernel
theorem dX3_judged_20 : decode cX3_judged 20 = .ok (.iastore, 1) := by decide +kernel
theorem dX3_judged_21 : decode cX3_judged 21 = .ok (.areturn, 1) := by decide +kernel
theorem dX3_judged_22 : decode cX3_judged 22 = .ok (.aload_n 0, 1) := by decide +kernel
theorem dX3_judged_23 : decode cX3_judged 23 = .ok (.getfield 28, 3) := by decide +kernel
theorem dX3_judged_26 : decode cX3_judged 26 = .ok (.iconst 0, 1) := by decide +kernel
theorem dX3_judged_27 : decode cX3_judged 27 = .ok (.aaload, 1) := by decide +kernel
theorem dX3_judged_28 : decode cX3_judged 28 = .ok (.iconst 1, 1) := by decide +kernel
theorem dX3_judged_29 : decode cX3_judged 29 = .ok (.iaload, 1) := by decide +kernel
theorem dX3_judged_30 : decode cX3_judged 30 = .ok (.ifCond .ne 7, 3) := by decide +kernel
theorem dX3_judged_33 : decode cX3_judged 33 = .ok (.iconst 1, 1) := by decide +kernel
theorem dX3_judged_34 : decode cX3_judged 34 = .ok (.goto 4, 3) := by decide +kernel
theorem dX3_judged_37 : decode cX3_judged 37 = .ok (.iconst 0, 1) := by decide +kernel
theorem dX3_judged_38 : decode cX3_judged 38 = .ok (.aload_n 0, 1) := by decide +kernel
theorem dX3_judged_39 : decode cX3_judged 39 = .ok (.getfield 28, 3) := by decide +kernel
theorem dX3_judged_42 : decode cX3_judged 42 = .ok (.iconst 1, 1) := by decide +kernel
theorem dX3_judged_43 : decode cX3_judged 43 = .ok (.aaload, 1) := by decide +kernel
theorem dX3_judged_44 : decode cX3_judged 44 = .ok (.iconst 1, 1) := by decide +kernel
theorem dX3_judged_45 : decode cX3_judged 45 = .ok (.iaload, 1) := by decide +kernel
theorem dX3_judged_46 : decode cX3_judged 46 = .ok (.ifCond .ne 7, 3) := by decide +kernel
theorem dX3_judged_49 : decode cX3_judged 49 = .ok (.iconst 1, 1) := by decide +kernel
theorem dX3_judged_50 : decode cX3_judged 50 = .ok (.goto 4, 3) := by decide +kernel
theorem dX3_judged_53 : decode cX3_judged 53 = .ok (.iconst 0, 1) := by decide +kernel
theorem dX3_judged_54 : decode cX3_judged 54 = .ok (.if_icmp .eq 30, 3) := by decide +kernel
theorem dX3_judged_57 : decode cX3_judged 57 = .ok (.iconst 2, 1) := by decide +kernel
theorem dX3_judged_58 : decode cX3_judged 58 = .ok (.newarray .int, 2) := by decide +kernel
theorem dX3_judged_60 : decode cX3_judged 60 = .ok (.dup, 1) := by decide +kernel
theorem dX3_judged_61 : decode cX3_judged 61 = .ok (.iconst 0, 1) := by decide +kernel
theorem dX3_judged_62 : decode cX3_judged 62 = .ok (.aload_n 0, 1) := by decide +kernel
theorem dX3_judged_63 : decode cX3_judged 63 = .ok (.getfield 28, 3) := by decide +kernel
theorem dX3_judged_66 : decode cX3_judged 66 = .ok (.iconst 0, 1) := by decide +kernel
theorem dX3_judged_67 : decode cX3_judged 67 = .ok (.aaload, 1) := by decide +kernel
theorem dX3_judged_68 : decode cX3_judged 68 = .ok (.iconst 1, 1) := by decide +kernel
theorem dX3_judged_69 : decode cX3_judged 69 = .ok (.iaload, 1) := by decide +kernel
theorem dX3_judged_70 : decode cX3_judged 70 = .ok (.ifCond .ne 7, 3) := by decide +kernel
theorem dX3_judged_73 : decode cX3_judged 73 = .ok (.iconst 1, 1) := by decide +kernel
theorem dX3_judged_74 : decode cX3_judged 74 = .ok (.goto 4, 3) := by decide +kernel
theorem dX3_judged_77 : decode cX3_judged 77 = .ok (.iconst (-1), 1) := by decide +kernel
theorem dX3_judged_78 : decode cX3_judged 78 = .ok (.iastore, 1) := by decide +kernel
theorem dX3_judged_79 : decode cX3_judged 79 = .ok (.dup, 1) := by decide +kernel
theorem dX3_judged_80 : decode cX3_judged 80 = .ok (.iconst 1, 1) := by decide +kernel
theorem dX3_judged_81 : decode cX3_judged 81 = .ok (.iconst 1, 1) := by decide +kernel
theorem dX3_judged_82 : decode cX3_judged 82 = .ok (.iastore, 1) := by decide +kernel
theorem dX3_judged_83 : decode cX3_judged 83 = .ok (.areturn, 1) := by decide +kernel
theorem dX3_judged_84 : decode cX3_judged 84 = .ok (.aload_n 0, 1) := by decide +kernel
theorem dX3_judged_85 : decode cX3_judged 85 = .ok (.iconst 1, 1) := by decide +kernel
theorem dX3_judged_86 : decode cX3_judged 86 = .ok (.invokevirtual 69, 3) := by decide +kernel
theorem dX3_judged_89 : decode cX3_judged 89 = .ok (.istore_n 1, 1) := by decide +kernel
theorem dX3_judged_90 : decode cX3_judged 90 = .ok (.iload_n 1, 1) := by decide +kernel
theorem dX3_judged_91 : decode cX3_judged 91 = .ok (.ifCond .eq 15, 3) := by decide +kernel
theorem dX3_judged_94 : decode cX3_judged 94 = .ok (.iconst 2, 1) := by decide +kernel
theorem dX3_judged_95 : decode cX3_judged 95 = .ok (.newarray .int, 2) := by decide +kernel
theorem dX3_judged_97 : decode cX3_judged 97 = .ok (.dup, 1) := by decide +kernel
theorem dX3_judged_98 : decode cX3_judged 98 = .ok (.iconst 0, 1) := by decide +kernel
theorem dX3_judged_99 : decode cX3_judged 99 = .ok (.iload_n 1, 1) := by decide +kernel
theorem dX3_judged_100 : decode cX3_judged 100 = .ok (.iastore, 1) := by decide +kernel
theorem dX3_judged_101 : decode cX3_judged 101 = .ok (.dup, 1) := by decide +kernel
theorem dX3_judged_102 : decode cX3_judged 102 = .ok (.iconst 1, 1) := by decide +kernel
theorem dX3_judged_103 : decode cX3_judged 103 = .ok (.iconst 1, 1) := by decide +kernel
theorem dX3_judged_104 : decode cX3_judged 104 = .ok (.iastore, 1) := by decide +kernel
theorem dX3_judged_105 : decode cX3_judged 105 = .ok (.areturn, 1) := by decide +kernel
theorem dX3_judged_106 : decode cX3_judged 106 = .ok (.aload_n 0, 1) := by decide +kernel
theorem dX3_judged_107 : decode cX3_judged 107 = .ok (.iconst 2, 1) := by decide +kernel
theorem dX3_judged_108 : decode cX3_judged 108 = .ok (.invokevirtual 69, 3) := by decide +kernel
theorem dX3_judged_111 : decode cX3_judged 111 = .ok (.istore_n 1, 1) := by decide +kernel
theorem dX3_judged_112 : decode cX3_judged 112 = .ok (.iconst 2, 1) := by decide +kernel
theorem dX3_judged_113 : decode cX3_judged 113 = .ok (.newarray .int, 2) := by decide +kernel
theorem dX3_judged_115 : decode cX3_judged 115 = .ok (.dup, 1) := by decide +kernel
theorem dX3_judged_116 : decode cX3_judged 116 = .ok (.iconst 0, 1) := by decide +kernel
theorem dX3_judged_117 : decode cX3_judged 117 = .ok (.iload_n 1, 1) := by decide +kernel
theorem dX3_judged_118 : decode cX3_judged 118 = .ok (.iastore, 1) := by decide +kernel
theorem dX3_judged_119 : decode cX3_judged 119 = .ok (.dup, 1) := by decide +kernel
theorem dX3_judged_120 : decode cX3_judged 120 = .ok (.iconst 1, 1) := by decide +kernel
theorem dX3_judged_121 : decode cX3_judged 121 = .ok (.iload_n 1, 1) := by decide +kernel
theorem dX3_judged_122 : decode cX3_judged 122 = .ok (.ifCond .ne 7, 3) := by decide +kernel
theorem dX3_judged_125 : decode cX3_judged 125 = .ok (.iconst (-1), 1) := by decide +kernel
theorem dX3_judged_126 : decode cX3_judged 126 = .ok (.goto 4, 3) := by decide +kernel
theorem dX3_judged_129 : decode cX3_judged 129 = .ok (.iconst 2, 1) := by decide +kernel
theorem dX3_judged_130 : decode cX3_judged 130 = .ok (.iastore, 1) := by decide +kernel
theorem dX3_judged_131 : decode cX3_judged 131 = .ok (.areturn, 1) := by decide +kernel
set_option maxRecDepth 20000 in
theorem ggX3_order_X3_look_ : GoodIn wsX3_order wsX3_look_ := goodIn_r _ [5, 6, 7, 8, 9, 10, 4, 11, 12, 13, 14, 15, 16, 17, 18, 19, 20, 21, 43, 44, 45, 46, 47, 48, 49, 50, 51] (by decide +kernel) (by decide +kernel)
set_option maxRecDepth 20000 in
theorem gX3_order_X3_look_ : GoodIn wsX3_order (wsV RX3 73 RX3 yX3_look_ wsX3_look_) := goodIn_app (goodIn_of _ (by decide +kernel)) ggX3_order_X3_look_
set_option maxRecDepth 20000 in
theorem ggX3_order_X3_judged : GoodIn wsX3_order wsX3_judged := goodIn_r _ [25, 26, 13, 27, 28, 29, 4, 30, 31, 32, 33, 34, 12, 14, 19, 20, 21, 35, 36, 37, 38, 15, 39, 40, 41, 42, 43, 44, 45, 46, 47, 48, 49, 50, 51] (by decide +kernel) (by decide +kernel)
set_option maxRecDepth 20000 in
theorem gX3_order_X3_judged : GoodIn wsX3_order (wsV RX3 76 RX3 yX3_judged wsX3_judged) := goodIn_app (goodIn_of _ (by decide +kernel)) ggX3_order_X3_judged
theorem dX3_order_0 : decode cX3_order 0 = .ok (.aload_n 0, 1) := by decide +kernel
theorem dX3_order_1 : decode cX3_order 1 = .ok (.iconst 0, 1) := by decide +kernel
theorem dX3_order_2 : decode cX3_order 2 = .ok (.iload_n 1, 1) := by decide +kernel
theorem dX3_order_3 : decode cX3_order 3 = .ok (.invokevirtual 73, 3) := by decide +kernel
theorem dX3_order_6 : decode cX3_order 6 = .ok (.aload_n 0, 1) := by decide +kernel
theorem dX3_order_7 : decode cX3_order 7 = .ok (.iconst 1, 1) := by decide +kernel
theorem dX3_order_8 : decode cX3_order 8 = .ok (.iload_n 2, 1) := by decide +kernel
theorem dX3_order_9 : decode cX3_order 9 = .ok (.invokevirtual 73, 3) := by decide +kernel
theorem dX3_order_12 : decode cX3_order 12 = .ok (.aload_n 0, 1) := by decide +kernel
theorem dX3_order_13 : decode cX3_order 13 = .ok (.invokevirtual 76, 3) := by decide +kernel
theorem dX3_order_16 : decode cX3_order 16 = .ok (.iconst 0, 1) := by decide +kernel
theorem dX3_order_17 : decode cX3_order 17 = .ok (.iaload, 1) := by decide +kernel
theorem dX3_order_18 : decode cX3_order 18 = .ok (.ireturn, 1) := by decide +kernel
set_option maxRecDepth 20000 in
theorem ggX3_lay_X3_look : GoodIn wsX3_lay wsX3_look := goodIn_r _ [8, 9, 10, 11, 12, 13, 14, 7, 15, 16, 17, 18, 44, 45, 46, 47, 48, 49, 50, 51, 52] (by decide +kernel) (by decide +kernel)
set_option maxRecDepth 20000 in
theorem gX3_lay_X3_look : GoodIn wsX3_lay (wsV RX3 54 RX3 yX3_look wsX3_look) := goodIn_app (goodIn_of _ (by decide +kernel)) ggX3_lay_X3_look
set_option maxRecDepth 20000 in
theorem ggX3_lay_X3_look_ : GoodIn wsX3_lay wsX3_look_ := goodIn_r _ [22, 2, 3, 4, 5, 6, 7, 8, 9, 10, 11, 12, 13, 14, 15, 16, 17, 18, 44, 45, 46, 47, 48, 49, 50, 51, 52] (by decide +kernel) (by decide +kernel)
set_option maxRecDepth 20000 in
theorem gX3_lay_X3_look_ : GoodIn wsX3_lay (wsV RX3 73 RX3 yX3_look_ wsX3_look_) := goodIn_app (goodIn_of _ (by decide +kernel)) ggX3_lay_X3_look_
set_option maxRecDepth 20000 in
theorem ggX3_lay_X3_judged : GoodIn wsX3_lay wsX3_judged := goodIn_r _ [26, 27, 10, 28, 29, 30, 7, 31, 32, 33, 34, 35, 9, 11, 16, 17, 18, 36, 37, 38, 39, 12, 40, 41, 42, 43, 44, 45, 46, 47, 48, 49, 50, 51, 52] (by decide +kernel) (by decide +kernel)
set_option maxRecDepth 20000 in
theorem gX3_lay_X3_judged : GoodIn wsX3_lay (wsV RX3 76 RX3 yX3_judged wsX3_judged) := goodIn_app (goodIn_of _ (by decide +kernel)) ggX3_lay_X3_judged
theorem dX3_lay_0 : decode cX3_lay 0 = .ok (.aload_n 0, 1) := by decide +kernel
theorem dX3_lay_1 : decode cX3_lay 1 = .ok (.iconst 0, 1) := by decide +kernel
theorem dX3_lay_2 : decode cX3_lay 2 = .ok (.aload_n 2, 1) := by decide +kernel
theorem dX3_lay_3 : decode cX3_lay 3 = .ok (.iload_n 3, 1) := by decide +kernel
theorem dX3_lay_4 : decode cX3_lay 4 = .ok (.invokevirtual 54, 3) := by decide +kernel
theorem dX3_lay_7 : decode cX3_lay 7 = .ok (.aload_n 0, 1) := by decide +kernel
theorem dX3_lay_8 : decode cX3_lay 8 = .ok (.iconst 1, 1) := by decide +kernel
theorem dX3_lay_9 : decode cX3_lay 9 = .ok (.iload_n 1, 1) := by decide +kernel
theorem dX3_lay_10 : decode cX3_lay 10 = .ok (.invokevirtual 73, 3) := by decide +kernel
theorem dX3_lay_13 : decode cX3_lay 13 = .ok (.aload_n 0, 1) := by decide +kernel
theorem dX3_lay_14 : decode cX3_lay 14 = .ok (.invokevirtual 76, 3) := by decide +kernel
theorem dX3_lay_17 : decode cX3_lay 17 = .ok (.iconst 0, 1) := by decide +kernel
theorem dX3_lay_18 : decode cX3_lay 18 = .ok (.iaload, 1) := by decide +kernel
theorem dX3_lay_19 : decode cX3_lay 19 = .ok (.istore 4, 2) := by decide +kernel
theorem dX3_lay_21 : decode cX3_lay 21 = .ok (.bipush 60, 2) := by decide +kernel
theorem dX3_lay_23 : decode cX3_lay 23 = .ok (.newarray .char, 2) := by decide +kernel
theorem dX3_lay_25 : decode cX3_lay 25 = .ok (.astore 5, 2) := by decide +kernel
theorem dX3_lay_27 : decode cX3_lay 27 = .ok (.iconst 0, 1) := by decide +kernel
theorem dX3_lay_28 : decode cX3_lay 28 = .ok (.istore 6, 2) := by decide +kernel
theorem dX3_lay_30 : decode cX3_lay 30 = .ok (.iload 6, 2) := by decide +kernel
theorem dX3_lay_32 : decode cX3_lay 32 = .ok (.iload_n 3, 1) := by decide +kernel
theorem dX3_lay_33 : decode cX3_lay 33 = .ok (.if_icmp .ge 18, 3) := by decide +kernel
theorem dX3_lay_36 : decode cX3_lay 36 = .ok (.aload 5, 2) := by decide +kernel
theorem dX3_lay_38 : decode cX3_lay 38 = .ok (.iload 6, 2) := by decide +kernel
theorem dX3_lay_40 : decode cX3_lay 40 = .ok (.aload_n 2, 1) := by decide +kernel
theorem dX3_lay_41 : decode cX3_lay 41 = .ok (.iload 6, 2) := by decide +kernel
theorem dX3_lay_43 : decode cX3_lay 43 = .ok (.caload, 1) := by decide +kernel
theorem dX3_lay_44 : decode cX3_lay 44 = .ok (.castore, 1) := by decide +kernel
theorem dX3_lay_45 : decode cX3_lay 45 = .ok (.iinc 6 1, 3) := by decide +kernel
theorem dX3_lay_48 : decode cX3_lay 48 = .ok (.goto (-18), 3) := by decide +kernel
theorem dX3_lay_51 : decode cX3_lay 51 = .ok (.aload_n 0, 1) := by decide +kernel
theorem dX3_lay_52 : decode cX3_lay 52 = .ok (.getfield 15, 3) := by decide +kernel
theorem dX3_lay_55 : decode cX3_lay 55 = .ok (.iload_n 1, 1) := by decide +kernel
theorem dX3_lay_56 : decode cX3_lay 56 = .ok (.aload 5, 2) := by decide +kernel
theorem dX3_lay_58 : decode cX3_lay 58 = .ok (.aastore, 1) := by decide +kernel
theorem dX3_lay_59 : decode cX3_lay 59 = .ok (.aload_n 0, 1) := by decide +kernel
theorem dX3_lay_60 : decode cX3_lay 60 = .ok (.getfield 18, 3) := by decide +kernel
theorem dX3_lay_63 : decode cX3_lay 63 = .ok (.iload_n 1, 1) := by decide +kernel
theorem dX3_lay_64 : decode cX3_lay 64 = .ok (.iload_n 3, 1) := by decide +kernel
theorem dX3_lay_65 : decode cX3_lay 65 = .ok (.iastore, 1) := by decide +kernel
theorem dX3_lay_66 : decode cX3_lay 66 = .ok (.iload 4, 2) := by decide +kernel
theorem dX3_lay_68 : decode cX3_lay 68 = .ok (.ireturn, 1) := by decide +kernel
theorem dX3_length_0 : decode cX3_length 0 = .ok (.iconst 1, 1) := by decide +kernel
theorem dX3_length_1 : decode cX3_length 1 = .ok (.istore_n 1, 1) := by decide +kernel
theorem dX3_length_2 : decode cX3_length 2 = .ok (.iload_n 0, 1) := by decide +kernel
theorem dX3_length_3 : decode cX3_length 3 = .ok (.bipush 10, 2) := by decide +kernel
theorem dX3_length_5 : decode cX3_length 5 = .ok (.idiv, 1) := by decide +kernel
theorem dX3_length_6 : decode cX3_length 6 = .ok (.istore_n 2, 1) := by decide +kernel
theorem dX3_length_7 : decode cX3_length 7 = .ok (.iload_n 2, 1) := by decide +kernel
theorem dX3_length_8 : decode cX3_length 8 = .ok (.ifCond .le 14, 3) := by decide +kernel
theorem dX3_length_11 : decode cX3_length 11 = .ok (.iinc 1 1, 3) := by decide +kernel
theorem dX3_length_14 : decode cX3_length 14 = .ok (.iload_n 2, 1) := by decide +kernel
theorem dX3_length_15 : decode cX3_length 15 = .ok (.bipush 10, 2) := by decide +kernel
theorem dX3_length_17 : decode cX3_length 17 = .ok (.idiv, 1) := by decide +kernel
theorem dX3_length_18 : decode cX3_length 18 = .ok (.istore_n 2, 1) := by decide +kernel
theorem dX3_length_19 : decode cX3_length 19 = .ok (.goto (-12), 3) := by decide +kernel
theorem dX3_length_22 : decode cX3_length 22 = .ok (.iload_n 1, 1) := by decide +kernel
theorem dX3_length_23 : decode cX3_length 23 = .ok (.ireturn, 1) := by decide +kernel
set_option maxRecDepth 20000 in
theorem ggX3_digits_X3_length : GoodIn wsX3_digits wsX3_length := goodIn_r _ [4] (by decide +kernel) (by decide +kernel)
set_option maxRecDepth 20000 in
theorem gX3_digits_X3_length : GoodIn wsX3_digits (va_wsS RX3 80 yX3_length wsX3_length) := goodIn_app (goodIn_of _ (by decide +kernel)) ggX3_digits_X3_length
theorem dX3_digits_0 : decode cX3_digits 0 = .ok (.iload_n 3, 1) := by decide +kernel
theorem dX3_digits_1 : decode cX3_digits 1 = .ok (.iload_n 2, 1) := by decide +kernel
theorem dX3_digits_2 : decode cX3_digits 2 = .ok (.invokestatic 80, 3) := by decide +kernel
theorem dX3_digits_5 : decode cX3_digits 5 = .ok (.iadd, 1) := by decide +kernel
theorem dX3_digits_6 : decode cX3_digits 6 = .ok (.istore 4, 2) := by decide +kernel
theorem dX3_digits_8 : decode cX3_digits 8 = .ok (.iload_n 2, 1) := by decide +kernel
theorem dX3_digits_9 : decode cX3_digits 9 = .ok (.istore 5, 2) := by decide +kernel
theorem dX3_digits_11 : decode cX3_digits 11 = .ok (.iload 4, 2) := by decide +kernel
theorem dX3_digits_13 : decode cX3_digits 13 = .ok (.iconst 1, 1) := by decide +kernel
theorem dX3_digits_14 : decode cX3_digits 14 = .ok (.isub, 1) := by decide +kernel
theorem dX3_digits_15 : decode cX3_digits 15 = .ok (.istore 6, 2) := by decide +kernel
theorem dX3_digits_17 : decode cX3_digits 17 = .ok (.iload 6, 2) := by decide +kernel
theorem dX3_digits_19 : decode cX3_digits 19 = .ok (.ifCond .lt 31, 3) := by decide +kernel
theorem dX3_digits_22 : decode cX3_digits 22 = .ok (.aload_n 0, 1) := by decide +kernel
theorem dX3_digits_23 : decode cX3_digits 23 = .ok (.iload_n 1, 1) := by decide +kernel
theorem dX3_digits_24 : decode cX3_digits 24 = .ok (.iload 6, 2) := by decide +kernel
theorem dX3_digits_26 : decode cX3_digits 26 = .ok (.iadd, 1) := by decide +kernel
theorem dX3_digits_27 : decode cX3_digits 27 = .ok (.bipush 48, 2) := by decide +kernel
theorem dX3_digits_29 : decode cX3_digits 29 = .ok (.iload 5, 2) := by decide +kernel
theorem dX3_digits_31 : decode cX3_digits 31 = .ok (.bipush 10, 2) := by decide +kernel
theorem dX3_digits_33 : decode cX3_digits 33 = .ok (.irem, 1) := by decide +kernel
theorem dX3_digits_34 : decode cX3_digits 34 = .ok (.iadd, 1) := by decide +kernel
theorem dX3_digits_35 : decode cX3_digits 35 = .ok (.i2c, 1) := by decide +kernel
theorem dX3_digits_36 : decode cX3_digits 36 = .ok (.castore, 1) := by decide +kernel
theorem dX3_digits_37 : decode cX3_digits 37 = .ok (.iload 5, 2) := by decide +kernel
theorem dX3_digits_39 : decode cX3_digits 39 = .ok (.bipush 10, 2) := by decide +kernel
theorem dX3_digits_41 : decode cX3_digits 41 = .ok (.idiv, 1) := by decide +kernel
theorem dX3_digits_42 : decode cX3_digits 42 = .ok (.istore 5, 2) := by decide +kernel
theorem dX3_digits_44 : decode cX3_digits 44 = .ok (.iinc 6 (-1), 3) := by decide +kernel
theorem dX3_digits_47 : decode cX3_digits 47 = .ok (.goto (-30), 3) := by decide +kernel
theorem dX3_digits_50 : decode cX3_digits 50 = .ok (.iload_n 1, 1) := by decide +kernel
theorem dX3_digits_51 : decode cX3_digits 51 = .ok (.iload 4, 2) := by decide +kernel
theorem dX3_digits_53 : decode cX3_digits 53 = .ok (.iadd, 1) := by decide +kernel
theorem dX3_digits_54 : decode cX3_digits 54 = .ok (.ireturn, 1) := by decide +kernel
set_option maxRecDepth 20000 in
theorem ggX3_begin_X3_in : GoodIn wsX3_begin wsX3_in := goodIn_r _ [7] (by decide +kernel) (by decide +kernel)
set_option maxRecDepth 20000 in
theorem gX3_begin_X3_in : GoodIn wsX3_begin (va_wsS RX3 43 yX3_in wsX3_in) := goodIn_app (goodIn_of _ (by decide +kernel)) ggX3_begin_X3_in
set_option maxRecDepth 20000 in
theorem ggX3_begin_X3_no : GoodIn wsX3_begin wsX3_no := goodIn_r _ [11, 12, 19, 20, 21, 22, 23, 24, 25, 26, 27] (by decide +kernel) (by decide +kernel)
set_option maxRecDepth 20000 in
theorem gX3_begin_X3_no : GoodIn wsX3_begin (wsV RX3 84 RX3 yX3_no wsX3_no) := goodIn_app (goodIn_of _ (by decide +kernel)) ggX3_begin_X3_no
set_option maxRecDepth 20000 in
theorem ggX3_begin_X3_digits : GoodIn wsX3_begin wsX3_digits := goodIn_r _ [15, 16, 17, 6, 18] (by decide +kernel) (by decide +kernel)
set_option maxRecDepth 20000 in
theorem gX3_begin_X3_digits : GoodIn wsX3_begin (va_wsS RX3 88 yX3_digits wsX3_digits) := goodIn_app (goodIn_of _ (by decide +kernel)) ggX3_begin_X3_digits
theorem dX3_begin_0 : decode cX3_begin 0 = .ok (.aload_n 0, 1) := by decide +kernel
theorem dX3_begin_1 : decode cX3_begin 1 = .ok (.iload_n 1, 1) := by decide +kernel
theorem dX3_begin_2 : decode cX3_begin 2 = .ok (.iconst 0, 1) := by decide +kernel
theorem dX3_begin_3 : decode cX3_begin 3 = .ok (.ldc 83, 2) := by decide +kernel
theorem dX3_begin_5 : decode cX3_begin 5 = .ok (.invokestatic 43, 3) := by decide +kernel
theorem dX3_begin_8 : decode cX3_begin 8 = .ok (.ifCond .eq 16, 3) := by decide +kernel
theorem dX3_begin_11 : decode cX3_begin 11 = .ok (.iload_n 2, 1) := by decide +kernel
theorem dX3_begin_12 : decode cX3_begin 12 = .ok (.iconst 0, 1) := by decide +kernel
theorem dX3_begin_13 : decode cX3_begin 13 = .ok (.iconst 3, 1) := by decide +kernel
theorem dX3_begin_14 : decode cX3_begin 14 = .ok (.invokestatic 43, 3) := by decide +kernel
theorem dX3_begin_17 : decode cX3_begin 17 = .ok (.ifCond .eq 7, 3) := by decide +kernel
theorem dX3_begin_20 : decode cX3_begin 20 = .ok (.iconst 1, 1) := by decide +kernel
theorem dX3_begin_21 : decode cX3_begin 21 = .ok (.goto 4, 3) := by decide +kernel
theorem dX3_begin_24 : decode cX3_begin 24 = .ok (.iconst 0, 1) := by decide +kernel
theorem dX3_begin_25 : decode cX3_begin 25 = .ok (.iconst 1, 1) := by decide +kernel
theorem dX3_begin_26 : decode cX3_begin 26 = .ok (.invokevirtual 84, 3) := by decide +kernel
theorem dX3_begin_29 : decode cX3_begin 29 = .ok (.ifCond .eq 5, 3) := by decide +kernel
theorem dX3_begin_32 : decode cX3_begin 32 = .ok (.iconst 0, 1) := by decide +kernel
theorem dX3_begin_33 : decode cX3_begin 33 = .ok (.ireturn, 1) := by decide +kernel
theorem dX3_begin_34 : decode cX3_begin 34 = .ok (.aload_n 0, 1) := by decide +kernel
theorem dX3_begin_35 : decode cX3_begin 35 = .ok (.aload_n 0, 1) := by decide +kernel
theorem dX3_begin_36 : decode cX3_begin 36 = .ok (.getfield 9, 3) := by decide +kernel
theorem dX3_begin_39 : decode cX3_begin 39 = .ok (.iconst 0, 1) := by decide +kernel
theorem dX3_begin_40 : decode cX3_begin 40 = .ok (.iload_n 1, 1) := by decide +kernel
theorem dX3_begin_41 : decode cX3_begin 41 = .ok (.iload_n 2, 1) := by decide +kernel
theorem dX3_begin_42 : decode cX3_begin 42 = .ok (.invokestatic 88, 3) := by decide +kernel
theorem dX3_begin_45 : decode cX3_begin 45 = .ok (.putfield 92, 3) := by decide +kernel
theorem dX3_begin_48 : decode cX3_begin 48 = .ok (.aload_n 0, 1) := by decide +kernel
theorem dX3_begin_49 : decode cX3_begin 49 = .ok (.getfield 92, 3) := by decide +kernel
theorem dX3_begin_52 : decode cX3_begin 52 = .ok (.ireturn, 1) := by decide +kernel
set_option maxRecDepth 20000 in
theorem ggX3_isWay_X3_isPoint : GoodIn wsX3_isWay wsX3_isPoint := goodIn_r _ [4] (by decide +kernel) (by decide +kernel)
set_option maxRecDepth 20000 in
theorem gX3_isWay_X3_isPoint : GoodIn wsX3_isWay (va_wsS RX3 47 yX3_isPoint wsX3_isPoint) := goodIn_app (goodIn_of _ (by decide +kernel)) ggX3_isWay_X3_isPoint
theorem dX3_isWay_0 : decode cX3_isWay 0 = .ok (.iload_n 0, 1) := by decide +kernel
theorem dX3_isWay_1 : decode cX3_isWay 1 = .ok (.bipush 110, 2) := by decide +kernel
theorem dX3_isWay_3 : decode cX3_isWay 3 = .ok (.if_icmp .eq 10, 3) := by decide +kernel
theorem dX3_isWay_6 : decode cX3_isWay 6 = .ok (.iload_n 0, 1) := by decide +kernel
theorem dX3_isWay_7 : decode cX3_isWay 7 = .ok (.invokestatic 47, 3) := by decide +kernel
theorem dX3_isWay_10 : decode cX3_isWay 10 = .ok (.ifCond .eq 7, 3) := by decide +kernel
theorem dX3_isWay_13 : decode cX3_isWay 13 = .ok (.iconst 1, 1) := by decide +kernel
theorem dX3_isWay_14 : decode cX3_isWay 14 = .ok (.goto 4, 3) := by decide +kernel
theorem dX3_isWay_17 : decode cX3_isWay 17 = .ok (.iconst 0, 1) := by decide +kernel
theorem dX3_isWay_18 : decode cX3_isWay 18 = .ok (.ireturn, 1) := by decide +kernel
set_option maxRecDepth 20000 in
theorem ggX3_isJoined_X3_isDigit : GoodIn wsX3_isJoined wsX3_isDigit := goodIn_r _ [6] (by decide +kernel) (by decide +kernel)
set_option maxRecDepth 20000 in
theorem gX3_isJoined_X3_isDigit : GoodIn wsX3_isJoined (va_wsS RX3 51 yX3_isDigit wsX3_isDigit) := goodIn_app (goodIn_of _ (by decide +kernel)) ggX3_isJoined_X3_isDigit
theorem dX3_isJoined_0 : decode cX3_isJoined 0 = .ok (.aload_n 0, 1) := by decide +kernel
theorem dX3_isJoined_1 : decode cX3_isJoined 1 = .ok (.getfield 92, 3) := by decide +kernel
theorem dX3_isJoined_4 : decode cX3_isJoined 4 = .ok (.ifCond .eq 26, 3) := by decide +kernel
theorem dX3_isJoined_7 : decode cX3_isJoined 7 = .ok (.aload_n 0, 1) := by decide +kernel
theorem dX3_isJoined_8 : decode cX3_isJoined 8 = .ok (.getfield 92, 3) := by decide +kernel
theorem dX3_isJoined_11 : decode cX3_isJoined 11 = .ok (.iload_n 3, 1) := by decide +kernel
theorem dX3_isJoined_12 : decode cX3_isJoined 12 = .ok (.iadd, 1) := by decide +kernel
theorem dX3_isJoined_13 : decode cX3_isJoined 13 = .ok (.iload_n 2, 1) := by decide +kernel
theorem dX3_isJoined_14 : decode cX3_isJoined 14 = .ok (.bipush 110, 2) := by decide +kernel
theorem dX3_isJoined_16 : decode cX3_isJoined 16 = .ok (.if_icmp .ne 7, 3) := by decide +kernel
theorem dX3_isJoined_19 : decode cX3_isJoined 19 = .ok (.iconst 0, 1) := by decide +kernel
theorem dX3_isJoined_20 : decode cX3_isJoined 20 = .ok (.goto 4, 3) := by decide +kernel
theorem dX3_isJoined_23 : decode cX3_isJoined 23 = .ok (.iconst 1, 1) := by decide +kernel
theorem dX3_isJoined_24 : decode cX3_isJoined 24 = .ok (.iadd, 1) := by decide +kernel
theorem dX3_isJoined_25 : decode cX3_isJoined 25 = .ok (.bipush 60, 2) := by decide +kernel
theorem dX3_isJoined_27 : decode cX3_isJoined 27 = .ok (.if_icmp .le 5, 3) := by decide +kernel
theorem dX3_isJoined_30 : decode cX3_isJoined 30 = .ok (.iconst 0, 1) := by decide +kernel
theorem dX3_isJoined_31 : decode cX3_isJoined 31 = .ok (.ireturn, 1) := by decide +kernel
theorem dX3_isJoined_32 : decode cX3_isJoined 32 = .ok (.iconst 0, 1) := by decide +kernel
theorem dX3_isJoined_33 : decode cX3_isJoined 33 = .ok (.istore 4, 2) := by decide +kernel
theorem dX3_isJoined_35 : decode cX3_isJoined 35 = .ok (.iconst 0, 1) := by decide +kernel
theorem dX3_isJoined_36 : decode cX3_isJoined 36 = .ok (.istore 5, 2) := by decide +kernel
theorem dX3_isJoined_38 : decode cX3_isJoined 38 = .ok (.iload 5, 2) := by decide +kernel
theorem dX3_isJoined_40 : decode cX3_isJoined 40 = .ok (.aload_n 0, 1) := by decide +kernel
theorem dX3_isJoined_41 : decode cX3_isJoined 41 = .ok (.getfield 92, 3) := by decide +kernel
theorem dX3_isJoined_44 : decode cX3_isJoined 44 = .ok (.if_icmp .ge 33, 3) := by decide +kernel
theorem dX3_isJoined_47 : decode cX3_isJoined 47 = .ok (.iload 4, 2) := by decide +kernel
theorem dX3_isJoined_49 : decode cX3_isJoined 49 = .ok (.ifCond .ne 15, 3) := by decide +kernel
theorem dX3_isJoined_52 : decode cX3_isJoined 52 = .ok (.aload_n 0, 1) := by decide +kernel
theorem dX3_isJoined_53 : decode cX3_isJoined 53 = .ok (.getfield 9, 3) := by decide +kernel
theorem dX3_isJoined_56 : decode cX3_isJoined 56 = .ok (.iload 5, 2) := by decide +kernel
theorem dX3_isJoined_58 : decode cX3_isJoined 58 = .ok (.caload, 1) := by decide +kernel
theorem dX3_isJoined_59 : decode cX3_isJoined 59 = .ok (.bipush 45, 2) := by decide +kernel
theorem dX3_isJoined_61 : decode cX3_isJoined 61 = .ok (.if_icmp .ne 7, 3) := by decide +kernel
theorem dX3_isJoined_64 : decode cX3_isJoined 64 = .ok (.iconst 1, 1) := by decide +kernel
theorem dX3_isJoined_65 : decode cX3_isJoined 65 = .ok (.goto 4, 3) := by decide +kernel
theorem dX3_isJoined_68 : decode cX3_isJoined 68 = .ok (.iconst 0, 1) := by decide +kernel
theorem dX3_isJoined_69 : decode cX3_isJoined 69 = .ok (.istore 4, 2) := by decide +kernel
theorem dX3_isJoined_71 : decode cX3_isJoined 71 = .ok (.iinc 5 1, 3) := by decide +kernel
theorem dX3_isJoined_74 : decode cX3_isJoined 74 = .ok (.goto (-36), 3) := by decide +kernel
theorem dX3_isJoined_77 : decode cX3_isJoined 77 = .ok (.iload_n 2, 1) := by decide +kernel
theorem dX3_isJoined_78 : decode cX3_isJoined 78 = .ok (.bipush 110, 2) := by decide +kernel
theorem dX3_isJoined_80 : decode cX3_isJoined 80 = .ok (.if_icmp .ne 29, 3) := by decide +kernel
theorem dX3_isJoined_83 : decode cX3_isJoined 83 = .ok (.aload_n 0, 1) := by decide +kernel
theorem dX3_isJoined_84 : decode cX3_isJoined 84 = .ok (.getfield 9, 3) := by decide +kernel
theorem dX3_isJoined_87 : decode cX3_isJoined 87 = .ok (.aload_n 0, 1) := by decide +kernel
theorem dX3_isJoined_88 : decode cX3_isJoined 88 = .ok (.getfield 92, 3) := by decide +kernel
theorem dX3_isJoined_91 : decode cX3_isJoined 91 = .ok (.iconst 1, 1) := by decide +kernel
theorem dX3_isJoined_92 : decode cX3_isJoined 92 = .ok (.isub, 1) := by decide +kernel
theorem dX3_isJoined_93 : decode cX3_isJoined 93 = .ok (.caload, 1) := by decide +kernel
theorem dX3_isJoined_94 : decode cX3_isJoined 94 = .ok (.invokestatic 51, 3) := by decide +kernel
theorem dX3_isJoined_97 : decode cX3_isJoined 97 = .ok (.iload_n 1, 1) := by decide +kernel
theorem dX3_isJoined_98 : decode cX3_isJoined 98 = .ok (.if_icmp .eq 7, 3) := by decide +kernel
theorem dX3_isJoined_101 : decode cX3_isJoined 101 = .ok (.iconst 1, 1) := by decide +kernel
theorem dX3_isJoined_102 : decode cX3_isJoined 102 = .ok (.goto 23, 3) := by decide +kernel
theorem dX3_isJoined_105 : decode cX3_isJoined 105 = .ok (.iconst 0, 1) := by decide +kernel
theorem dX3_isJoined_106 : decode cX3_isJoined 106 = .ok (.goto 19, 3) := by decide +kernel
theorem dX3_isJoined_109 : decode cX3_isJoined 109 = .ok (.iload_n 2, 1) := by decide +kernel
theorem dX3_isJoined_110 : decode cX3_isJoined 110 = .ok (.bipush 43, 2) := by decide +kernel
theorem dX3_isJoined_112 : decode cX3_isJoined 112 = .ok (.if_icmp .ne 8, 3) := by decide +kernel
theorem dX3_isJoined_115 : decode cX3_isJoined 115 = .ok (.iload 4, 2) := by decide +kernel
theorem dX3_isJoined_117 : decode cX3_isJoined 117 = .ok (.ifCond .eq 7, 3) := by decide +kernel
theorem dX3_isJoined_120 : decode cX3_isJoined 120 = .ok (.iconst 1, 1) := by decide +kernel
theorem dX3_isJoined_121 : decode cX3_isJoined 121 = .ok (.goto 4, 3) := by decide +kernel
theorem dX3_isJoined_124 : decode cX3_isJoined 124 = .ok (.iconst 0, 1) := by decide +kernel
theorem dX3_isJoined_125 : decode cX3_isJoined 125 = .ok (.ireturn, 1) := by decide +kernel
theorem dX3_join_0 : decode cX3_join 0 = .ok (.iload_n 1, 1) := by decide +kernel
theorem dX3_join_1 : decode cX3_join 1 = .ok (.bipush 110, 2) := by decide +kernel
theorem dX3_join_3 : decode cX3_join 3 = .ok (.if_icmp .eq 23, 3) := by decide +kernel
theorem dX3_join_6 : decode cX3_join 6 = .ok (.aload_n 0, 1) := by decide +kernel
theorem dX3_join_7 : decode cX3_join 7 = .ok (.getfield 9, 3) := by decide +kernel
theorem dX3_join_10 : decode cX3_join 10 = .ok (.aload_n 0, 1) := by decide +kernel
theorem dX3_join_11 : decode cX3_join 11 = .ok (.getfield 92, 3) := by decide +kernel
theorem dX3_join_14 : decode cX3_join 14 = .ok (.iload_n 1, 1) := by decide +kernel
theorem dX3_join_15 : decode cX3_join 15 = .ok (.castore, 1) := by decide +kernel
theorem dX3_join_16 : decode cX3_join 16 = .ok (.aload_n 0, 1) := by decide +kernel
theorem dX3_join_17 : decode cX3_join 17 = .ok (.dup, 1) := by decide +kernel
theorem dX3_join_18 : decode cX3_join 18 = .ok (.getfield 92, 3) := by decide +kernel
theorem dX3_join_21 : decode cX3_join 21 = .ok (.iconst 1, 1) := by decide +kernel
theorem dX3_join_22 : decode cX3_join 22 = .ok (.iadd, 1) := by decide +kernel
theorem dX3_join_23 : decode cX3_join 23 = .ok (.putfield 92, 3) := by decide +kernel
theorem dX3_join_26 : decode cX3_join 26 = .ok (.return_, 1) := by decide +kernel
set_option maxRecDepth 20000 in
theorem ggX3_add_X3_in : GoodIn wsX3_add wsX3_in := goodIn_r _ [7] (by decide +kernel) (by decide +kernel)
set_option maxRecDepth 20000 in
theorem gX3_add_X3_in : GoodIn wsX3_add (va_wsS RX3 43 yX3_in wsX3_in) := goodIn_app (goodIn_of _ (by decide +kernel)) ggX3_add_X3_in
set_option maxRecDepth 20000 in
theorem ggX3_add_X3_isWay : GoodIn wsX3_add wsX3_isWay := goodIn_r _ [10, 11, 12, 6, 13] (by decide +kernel) (by decide +kernel)
set_option maxRecDepth 20000 in
theorem gX3_add_X3_isWay : GoodIn wsX3_add (va_wsS RX3 96 yX3_isWay wsX3_isWay) := goodIn_app (goodIn_of _ (by decide +kernel)) ggX3_add_X3_isWay
set_option maxRecDepth 20000 in
theorem ggX3_add_X3_no : GoodIn wsX3_add wsX3_no := goodIn_r _ [17, 18, 36, 37, 38, 39, 40, 41, 42, 43, 44] (by decide +kernel) (by decide +kernel)
set_option maxRecDepth 20000 in
theorem gX3_add_X3_no : GoodIn wsX3_add (wsV RX3 84 RX3 yX3_no wsX3_no) := goodIn_app (goodIn_of _ (by decide +kernel)) ggX3_add_X3_no
set_option maxRecDepth 20000 in
theorem ggX3_add_X3_length : GoodIn wsX3_add wsX3_length := goodIn_r _ [21] (by decide +kernel) (by decide +kernel)
set_option maxRecDepth 20000 in
theorem gX3_add_X3_length : GoodIn wsX3_add (va_wsS RX3 80 yX3_length wsX3_length) := goodIn_app (goodIn_of _ (by decide +kernel)) ggX3_add_X3_length
set_option maxRecDepth 20000 in
theorem ggX3_add_X3_isJoined : GoodIn wsX3_add wsX3_isJoined := goodIn_r _ [25, 3, 2, 26, 27, 6, 28, 36, 37, 38, 39, 40, 41, 42, 43, 44] (by decide +kernel) (by decide +kernel)
set_option maxRecDepth 20000 in
theorem gX3_add_X3_isJoined : GoodIn wsX3_add (wsV RX3 99 RX3 yX3_isJoined wsX3_isJoined) := goodIn_app (goodIn_of _ (by decide +kernel)) ggX3_add_X3_isJoined
set_option maxRecDepth 20000 in
theorem ggX3_add_X3_join : GoodIn wsX3_add wsX3_join := goodIn_r _ [32, 2, 3, 36, 37, 38, 39, 40, 41, 42, 43, 44] (by decide +kernel) (by decide +kernel)
set_option maxRecDepth 20000 in
theorem gX3_add_X3_join : GoodIn wsX3_add (wsV RX3 103 RX3 yX3_join wsX3_join) := goodIn_app (goodIn_of _ (by decide +kernel)) ggX3_add_X3_join
set_option maxRecDepth 20000 in
theorem ggX3_add_X3_digits : GoodIn wsX3_add wsX3_digits := goodIn_r _ [35, 19, 20, 6, 21] (by decide +kernel) (by decide +kernel)
set_option maxRecDepth 20000 in
theorem gX3_add_X3_digits : GoodIn wsX3_add (va_wsS RX3 88 yX3_digits wsX3_digits) := goodIn_app (goodIn_of _ (by decide +kernel)) ggX3_add_X3_digits
theorem dX3_add_0 : decode cX3_add 0 = .ok (.aload_n 0, 1) := by decide +kernel
theorem dX3_add_1 : decode cX3_add 1 = .ok (.iload_n 1, 1) := by decide +kernel
theorem dX3_add_2 : decode cX3_add 2 = .ok (.iconst 0, 1) := by decide +kernel
theorem dX3_add_3 : decode cX3_add 3 = .ok (.ldc 95, 2) := by decide +kernel
theorem dX3_add_5 : decode cX3_add 5 = .ok (.invokestatic 43, 3) := by decide +kernel
theorem dX3_add_8 : decode cX3_add 8 = .ok (.ifCond .eq 23, 3) := by decide +kernel
theorem dX3_add_11 : decode cX3_add 11 = .ok (.iload_n 2, 1) := by decide +kernel
theorem dX3_add_12 : decode cX3_add 12 = .ok (.iconst 0, 1) := by decide +kernel
theorem dX3_add_13 : decode cX3_add 13 = .ok (.iconst 3, 1) := by decide +kernel
theorem dX3_add_14 : decode cX3_add 14 = .ok (.invokestatic 43, 3) := by decide +kernel
theorem dX3_add_17 : decode cX3_add 17 = .ok (.ifCond .eq 14, 3) := by decide +kernel
theorem dX3_add_20 : decode cX3_add 20 = .ok (.iload_n 3, 1) := by decide +kernel
theorem dX3_add_21 : decode cX3_add 21 = .ok (.invokestatic 96, 3) := by decide +kernel
theorem dX3_add_24 : decode cX3_add 24 = .ok (.ifCond .eq 7, 3) := by decide +kernel
theorem dX3_add_27 : decode cX3_add 27 = .ok (.iconst 1, 1) := by decide +kernel
theorem dX3_add_28 : decode cX3_add 28 = .ok (.goto 4, 3) := by decide +kernel
theorem dX3_add_31 : decode cX3_add 31 = .ok (.iconst 0, 1) := by decide +kernel
theorem dX3_add_32 : decode cX3_add 32 = .ok (.iconst 1, 1) := by decide +kernel
theorem dX3_add_33 : decode cX3_add 33 = .ok (.invokevirtual 84, 3) := by decide +kernel
theorem dX3_add_36 : decode cX3_add 36 = .ok (.ifCond .ne 23, 3) := by decide +kernel
theorem dX3_add_39 : decode cX3_add 39 = .ok (.aload_n 0, 1) := by decide +kernel
theorem dX3_add_40 : decode cX3_add 40 = .ok (.aload_n 0, 1) := by decide +kernel
theorem dX3_add_41 : decode cX3_add 41 = .ok (.iconst 1, 1) := by decide +kernel
theorem dX3_add_42 : decode cX3_add 42 = .ok (.iload_n 3, 1) := by decide +kernel
theorem dX3_add_43 : decode cX3_add 43 = .ok (.iload_n 2, 1) := by decide +kernel
theorem dX3_add_44 : decode cX3_add 44 = .ok (.iload_n 1, 1) := by decide +kernel
theorem dX3_add_45 : decode cX3_add 45 = .ok (.invokestatic 80, 3) := by decide +kernel
theorem dX3_add_48 : decode cX3_add 48 = .ok (.iadd, 1) := by decide +kernel
theorem dX3_add_49 : decode cX3_add 49 = .ok (.invokevirtual 99, 3) := by decide +kernel
theorem dX3_add_52 : decode cX3_add 52 = .ok (.iconst 2, 1) := by decide +kernel
theorem dX3_add_53 : decode cX3_add 53 = .ok (.invokevirtual 84, 3) := by decide +kernel
theorem dX3_add_56 : decode cX3_add 56 = .ok (.ifCond .eq 5, 3) := by decide +kernel
theorem dX3_add_59 : decode cX3_add 59 = .ok (.iconst 0, 1) := by decide +kernel
theorem dX3_add_60 : decode cX3_add 60 = .ok (.ireturn, 1) := by decide +kernel
theorem dX3_add_61 : decode cX3_add 61 = .ok (.aload_n 0, 1) := by decide +kernel
theorem dX3_add_62 : decode cX3_add 62 = .ok (.iload_n 3, 1) := by decide +kernel
theorem dX3_add_63 : decode cX3_add 63 = .ok (.invokevirtual 103, 3) := by decide +kernel
theorem dX3_add_66 : decode cX3_add 66 = .ok (.aload_n 0, 1) := by decide +kernel
theorem dX3_add_67 : decode cX3_add 67 = .ok (.aload_n 0, 1) := by decide +kernel
theorem dX3_add_68 : decode cX3_add 68 = .ok (.getfield 9, 3) := by decide +kernel
theorem dX3_add_71 : decode cX3_add 71 = .ok (.aload_n 0, 1) := by decide +kernel
theorem dX3_add_72 : decode cX3_add 72 = .ok (.getfield 92, 3) := by decide +kernel
theorem dX3_add_75 : decode cX3_add 75 = .ok (.iload_n 1, 1) := by decide +kernel
theorem dX3_add_76 : decode cX3_add 76 = .ok (.iload_n 2, 1) := by decide +kernel
theorem dX3_add_77 : decode cX3_add 77 = .ok (.invokestatic 88, 3) := by decide +kernel
theorem dX3_add_80 : decode cX3_add 80 = .ok (.putfield 92, 3) := by decide +kernel
theorem dX3_add_83 : decode cX3_add 83 = .ok (.aload_n 0, 1) := by decide +kernel
theorem dX3_add_84 : decode cX3_add 84 = .ok (.getfield 92, 3) := by decide +kernel
theorem dX3_add_87 : decode cX3_add 87 = .ok (.ireturn, 1) := by decide +kernel
set_option maxRecDepth 20000 in
theorem ggX3_word_X3_in : GoodIn wsX3_word wsX3_in := goodIn_r _ [7] (by decide +kernel) (by decide +kernel)
set_option maxRecDepth 20000 in
theorem gX3_word_X3_in : GoodIn wsX3_word (va_wsS RX3 43 yX3_in wsX3_in) := goodIn_app (goodIn_of _ (by decide +kernel)) ggX3_word_X3_in
set_option maxRecDepth 20000 in
theorem ggX3_word_X3_isWay : GoodIn wsX3_word wsX3_isWay := goodIn_r _ [10, 11, 12, 6, 13] (by decide +kernel) (by decide +kernel)
set_option maxRecDepth 20000 in
theorem gX3_word_X3_isWay : GoodIn wsX3_word (va_wsS RX3 96 yX3_isWay wsX3_isWay) := goodIn_app (goodIn_of _ (by decide +kernel)) ggX3_word_X3_isWay
set_option maxRecDepth 20000 in
theorem ggX3_word_X3_no : GoodIn wsX3_word wsX3_no := goodIn_r _ [17, 18, 30, 31, 32, 33, 34, 35, 36, 37, 38] (by decide +kernel) (by decide +kernel)
set_option maxRecDepth 20000 in
theorem gX3_word_X3_no : GoodIn wsX3_word (wsV RX3 84 RX3 yX3_no wsX3_no) := goodIn_app (goodIn_of _ (by decide +kernel)) ggX3_word_X3_no
set_option maxRecDepth 20000 in
theorem ggX3_word_X3_isJoined : GoodIn wsX3_word wsX3_isJoined := goodIn_r _ [22, 3, 2, 23, 24, 6, 25, 30, 31, 32, 33, 34, 35, 36, 37, 38] (by decide +kernel) (by decide +kernel)
set_option maxRecDepth 20000 in
theorem gX3_word_X3_isJoined : GoodIn wsX3_word (wsV RX3 99 RX3 yX3_isJoined wsX3_isJoined) := goodIn_app (goodIn_of _ (by decide +kernel)) ggX3_word_X3_isJoined
set_option maxRecDepth 20000 in
theorem ggX3_word_X3_join : GoodIn wsX3_word wsX3_join := goodIn_r _ [29, 2, 3, 30, 31, 32, 33, 34, 35, 36, 37, 38] (by decide +kernel) (by decide +kernel)
set_option maxRecDepth 20000 in
theorem gX3_word_X3_join : GoodIn wsX3_word (wsV RX3 103 RX3 yX3_join wsX3_join) := goodIn_app (goodIn_of _ (by decide +kernel)) ggX3_word_X3_join
theorem dX3_word_0 : decode cX3_word 0 = .ok (.aload_n 0, 1) := by decide +kernel
theorem dX3_word_1 : decode cX3_word 1 = .ok (.iload_n 2, 1) := by decide +kernel
theorem dX3_word_2 : decode cX3_word 2 = .ok (.iconst 1, 1) := by decide +kernel
theorem dX3_word_3 : decode cX3_word 3 = .ok (.iconst 5, 1) := by decide +kernel
theorem dX3_word_4 : decode cX3_word 4 = .ok (.invokestatic 43, 3) := by decide +kernel
theorem dX3_word_7 : decode cX3_word 7 = .ok (.ifCond .eq 14, 3) := by decide +kernel
theorem dX3_word_10 : decode cX3_word 10 = .ok (.iload_n 3, 1) := by decide +kernel
theorem dX3_word_11 : decode cX3_word 11 = .ok (.invokestatic 96, 3) := by decide +kernel
theorem dX3_word_14 : decode cX3_word 14 = .ok (.ifCond .eq 7, 3) := by decide +kernel
theorem dX3_word_17 : decode cX3_word 17 = .ok (.iconst 1, 1) := by decide +kernel
theorem dX3_word_18 : decode cX3_word 18 = .ok (.goto 4, 3) := by decide +kernel
theorem dX3_word_21 : decode cX3_word 21 = .ok (.iconst 0, 1) := by decide +kernel
theorem dX3_word_22 : decode cX3_word 22 = .ok (.iconst 1, 1) := by decide +kernel
theorem dX3_word_23 : decode cX3_word 23 = .ok (.invokevirtual 84, 3) := by decide +kernel
theorem dX3_word_26 : decode cX3_word 26 = .ok (.ifCond .ne 18, 3) := by decide +kernel
theorem dX3_word_29 : decode cX3_word 29 = .ok (.aload_n 0, 1) := by decide +kernel
theorem dX3_word_30 : decode cX3_word 30 = .ok (.aload_n 0, 1) := by decide +kernel
theorem dX3_word_31 : decode cX3_word 31 = .ok (.iconst 0, 1) := by decide +kernel
theorem dX3_word_32 : decode cX3_word 32 = .ok (.iload_n 3, 1) := by decide +kernel
theorem dX3_word_33 : decode cX3_word 33 = .ok (.iload_n 2, 1) := by decide +kernel
theorem dX3_word_34 : decode cX3_word 34 = .ok (.invokevirtual 99, 3) := by decide +kernel
theorem dX3_word_37 : decode cX3_word 37 = .ok (.iconst 2, 1) := by decide +kernel
theorem dX3_word_38 : decode cX3_word 38 = .ok (.invokevirtual 84, 3) := by decide +kernel
theorem dX3_word_41 : decode cX3_word 41 = .ok (.ifCond .eq 5, 3) := by decide +kernel
theorem dX3_word_44 : decode cX3_word 44 = .ok (.iconst 0, 1) := by decide +kernel
theorem dX3_word_45 : decode cX3_word 45 = .ok (.ireturn, 1) := by decide +kernel
theorem dX3_word_46 : decode cX3_word 46 = .ok (.aload_n 0, 1) := by decide +kernel
theorem dX3_word_47 : decode cX3_word 47 = .ok (.iload_n 3, 1) := by decide +kernel
theorem dX3_word_48 : decode cX3_word 48 = .ok (.invokevirtual 103, 3) := by decide +kernel
theorem dX3_word_51 : decode cX3_word 51 = .ok (.iload_n 1, 1) := by decide +kernel
theorem dX3_word_52 : decode cX3_word 52 = .ok (.ldc 107, 2) := by decide +kernel
theorem dX3_word_54 : decode cX3_word 54 = .ok (.iand, 1) := by decide +kernel
theorem dX3_word_55 : decode cX3_word 55 = .ok (.istore 4, 2) := by decide +kernel
theorem dX3_word_57 : decode cX3_word 57 = .ok (.iconst 0, 1) := by decide +kernel
theorem dX3_word_58 : decode cX3_word 58 = .ok (.istore 5, 2) := by decide +kernel
theorem dX3_word_60 : decode cX3_word 60 = .ok (.iload 5, 2) := by decide +kernel
theorem dX3_word_62 : decode cX3_word 62 = .ok (.iload_n 2, 1) := by decide +kernel
theorem dX3_word_63 : decode cX3_word 63 = .ok (.if_icmp .ge 66, 3) := by decide +kernel
theorem dX3_word_66 : decode cX3_word 66 = .ok (.iload 4, 2) := by decide +kernel
theorem dX3_word_68 : decode cX3_word 68 = .ok (.bipush 52, 2) := by decide +kernel
theorem dX3_word_70 : decode cX3_word 70 = .ok (.irem, 1) := by decide +kernel
theorem dX3_word_71 : decode cX3_word 71 = .ok (.istore 6, 2) := by decide +kernel
theorem dX3_word_73 : decode cX3_word 73 = .ok (.aload_n 0, 1) := by decide +kernel
theorem dX3_word_74 : decode cX3_word 74 = .ok (.getfield 9, 3) := by decide +kernel
theorem dX3_word_77 : decode cX3_word 77 = .ok (.aload_n 0, 1) := by decide +kernel
theorem dX3_word_78 : decode cX3_word 78 = .ok (.getfield 92, 3) := by decide +kernel
theorem dX3_word_81 : decode cX3_word 81 = .ok (.iload 6, 2) := by decide +kernel
theorem dX3_word_83 : decode cX3_word 83 = .ok (.bipush 26, 2) := by decide +kernel
theorem dX3_word_85 : decode cX3_word 85 = .ok (.if_icmp .ge 11, 3) := by decide +kernel
theorem dX3_word_88 : decode cX3_word 88 = .ok (.bipush 97, 2) := by decide +kernel
theorem dX3_word_90 : decode cX3_word 90 = .ok (.iload 6, 2) := by decide +kernel
theorem dX3_word_92 : decode cX3_word 92 = .ok (.iadd, 1) := by decide +kernel
theorem dX3_word_93 : decode cX3_word 93 = .ok (.goto 11, 3) := by decide +kernel
theorem dX3_word_96 : decode cX3_word 96 = .ok (.bipush 65, 2) := by decide +kernel
theorem dX3_word_98 : decode cX3_word 98 = .ok (.iload 6, 2) := by decide +kernel
theorem dX3_word_100 : decode cX3_word 100 = .ok (.iadd, 1) := by decide +kernel
theorem dX3_word_101 : decode cX3_word 101 = .ok (.bipush 26, 2) := by decide +kernel
theorem dX3_word_103 : decode cX3_word 103 = .ok (.isub, 1) := by decide +kernel
theorem dX3_word_104 : decode cX3_word 104 = .ok (.i2c, 1) := by decide +kernel
theorem dX3_word_105 : decode cX3_word 105 = .ok (.castore, 1) := by decide +kernel
theorem dX3_word_106 : decode cX3_word 106 = .ok (.aload_n 0, 1) := by decide +kernel
theorem dX3_word_107 : decode cX3_word 107 = .ok (.dup, 1) := by decide +kernel
theorem dX3_word_108 : decode cX3_word 108 = .ok (.getfield 92, 3) := by decide +kernel
theorem dX3_word_111 : decode cX3_word 111 = .ok (.iconst 1, 1) := by decide +kernel
theorem dX3_word_112 : decode cX3_word 112 = .ok (.iadd, 1) := by decide +kernel
theorem dX3_word_113 : decode cX3_word 113 = .ok (.putfield 92, 3) := by decide +kernel
theorem dX3_word_116 : decode cX3_word 116 = .ok (.iload 4, 2) := by decide +kernel
theorem dX3_word_118 : decode cX3_word 118 = .ok (.bipush 52, 2) := by decide +kernel
theorem dX3_word_120 : decode cX3_word 120 = .ok (.idiv, 1) := by decide +kernel
theorem dX3_word_121 : decode cX3_word 121 = .ok (.istore 4, 2) := by decide +kernel
theorem dX3_word_123 : decode cX3_word 123 = .ok (.iinc 5 1, 3) := by decide +kernel
theorem dX3_word_126 : decode cX3_word 126 = .ok (.goto (-66), 3) := by decide +kernel
theorem dX3_word_129 : decode cX3_word 129 = .ok (.aload_n 0, 1) := by decide +kernel
theorem dX3_word_130 : decode cX3_word 130 = .ok (.getfield 92, 3) := by decide +kernel
theorem dX3_word_133 : decode cX3_word 133 = .ok (.ireturn, 1) := by decide +kernel
theorem dX3_drop_0 : decode cX3_drop 0 = .ok (.aload_n 0, 1) := by decide +kernel
theorem dX3_drop_1 : decode cX3_drop 1 = .ok (.iconst 0, 1) := by decide +kernel
theorem dX3_drop_2 : decode cX3_drop 2 = .ok (.putfield 39, 3) := by decide +kernel
theorem dX3_drop_5 : decode cX3_drop 5 = .ok (.aload_n 0, 1) := by decide +kernel
theorem dX3_drop_6 : decode cX3_drop 6 = .ok (.getfield 92, 3) := by decide +kernel
theorem dX3_drop_9 : decode cX3_drop 9 = .ok (.istore_n 1, 1) := by decide +kernel
theorem dX3_drop_10 : decode cX3_drop 10 = .ok (.aload_n 0, 1) := by decide +kernel
theorem dX3_drop_11 : decode cX3_drop 11 = .ok (.iconst 0, 1) := by decide +kernel
theorem dX3_drop_12 : decode cX3_drop 12 = .ok (.putfield 92, 3) := by decide +kernel
theorem dX3_drop_15 : decode cX3_drop 15 = .ok (.iload_n 1, 1) := by decide +kernel
theorem dX3_drop_16 : decode cX3_drop 16 = .ok (.ireturn, 1) := by decide +kernel
set_option maxRecDepth 20000 in
theorem ggX3_sign_X3_in : GoodIn wsX3_sign wsX3_in := goodIn_r _ [6] (by decide +kernel) (by decide +kernel)
set_option maxRecDepth 20000 in
theorem gX3_sign_X3_in : GoodIn wsX3_sign (va_wsS RX3 43 yX3_in wsX3_in) := goodIn_app (goodIn_of _ (by decide +kernel)) ggX3_sign_X3_in
set_option maxRecDepth 20000 in
theorem ggX3_sign_X3_no : GoodIn wsX3_sign wsX3_no := goodIn_r _ [10, 11, 12, 13, 14, 15, 16, 17, 18, 19, 20] (by decide +kernel) (by decide +kernel)
set_option maxRecDepth 20000 in
theorem gX3_sign_X3_no : GoodIn wsX3_sign (wsV RX3 84 RX3 yX3_no wsX3_no) := goodIn_app (goodIn_of _ (by decide +kernel)) ggX3_sign_X3_no
theorem dX3_sign_0 : decode cX3_sign 0 = .ok (.aload_n 0, 1) := by decide +kernel
theorem dX3_sign_1 : decode cX3_sign 1 = .ok (.iload_n 1, 1) := by decide +kernel
theorem dX3_sign_2 : decode cX3_sign 2 = .ok (.iconst 0, 1) := by decide +kernel
theorem dX3_sign_3 : decode cX3_sign 3 = .ok (.aload_n 0, 1) := by decide +kernel
theorem dX3_sign_4 : decode cX3_sign 4 = .ok (.getfield 92, 3) := by decide +kernel
theorem dX3_sign_7 : decode cX3_sign 7 = .ok (.iconst 1, 1) := by decide +kernel
theorem dX3_sign_8 : decode cX3_sign 8 = .ok (.isub, 1) := by decide +kernel
theorem dX3_sign_9 : decode cX3_sign 9 = .ok (.invokestatic 43, 3) := by decide +kernel
theorem dX3_sign_12 : decode cX3_sign 12 = .ok (.iconst 1, 1) := by decide +kernel
theorem dX3_sign_13 : decode cX3_sign 13 = .ok (.invokevirtual 84, 3) := by decide +kernel
theorem dX3_sign_16 : decode cX3_sign 16 = .ok (.ifCond .eq 8, 3) := by decide +kernel
theorem dX3_sign_19 : decode cX3_sign 19 = .ok (.bipush 32, 2) := by decide +kernel
theorem dX3_sign_21 : decode cX3_sign 21 = .ok (.goto 9, 3) := by decide +kernel
theorem dX3_sign_24 : decode cX3_sign 24 = .ok (.aload_n 0, 1) := by decide +kernel
theorem dX3_sign_25 : decode cX3_sign 25 = .ok (.getfield 9, 3) := by decide +kernel
theorem dX3_sign_28 : decode cX3_sign 28 = .ok (.iload_n 1, 1) := by decide +kernel
theorem dX3_sign_29 : decode cX3_sign 29 = .ok (.caload, 1) := by decide +kernel
theorem dX3_sign_30 : decode cX3_sign 30 = .ok (.ireturn, 1) := by decide +kernel
set_option maxRecDepth 20000 in
theorem ggX3_parse_X3_isSlot : GoodIn wsX3_parse wsX3_isSlot := goodIn_r _ [6, 7, 8, 5, 9] (by decide +kernel) (by decide +kernel)
set_option maxRecDepth 20000 in
theorem gX3_parse_X3_isSlot : GoodIn wsX3_parse (va_wsS RX3 108 yX3_isSlot wsX3_isSlot) := goodIn_app (goodIn_of _ (by decide +kernel)) ggX3_parse_X3_isSlot
set_option maxRecDepth 20000 in
theorem ggX3_parse_X3_no : GoodIn wsX3_parse wsX3_no := goodIn_r _ [13, 14, 61, 62, 63, 64, 65, 66, 67, 68, 69] (by decide +kernel) (by decide +kernel)
set_option maxRecDepth 20000 in
theorem gX3_parse_X3_no : GoodIn wsX3_parse (wsV RX3 84 RX3 yX3_no wsX3_no) := goodIn_app (goodIn_of _ (by decide +kernel)) ggX3_parse_X3_no
set_option maxRecDepth 20000 in
theorem ggX3_parse_X3_lay : GoodIn wsX3_parse wsX3_lay := goodIn_r _ [18, 19, 20, 21, 22, 23, 24, 5, 25, 26, 27, 28, 29, 30, 31, 32, 33, 34, 35, 36, 37, 38, 39, 40, 41, 42, 43, 44, 45, 46, 47, 48, 49, 50, 51, 52, 53, 54, 55, 56, 57, 58, 59, 60, 61, 62, 63, 64, 65, 66, 67, 68, 69] (by decide +kernel) (by decide +kernel)
set_option maxRecDepth 20000 in
theorem gX3_parse_X3_lay : GoodIn wsX3_parse (wsV RX3 112 RX3 yX3_lay wsX3_lay) := goodIn_app (goodIn_of _ (by decide +kernel)) ggX3_parse_X3_lay
theorem dX3_parse_0 : decode cX3_parse 0 = .ok (.aload_n 0, 1) := by decide +kernel
theorem dX3_parse_1 : decode cX3_parse 1 = .ok (.iload_n 1, 1) := by decide +kernel
theorem dX3_parse_2 : decode cX3_parse 2 = .ok (.invokestatic 108, 3) := by decide +kernel
theorem dX3_parse_5 : decode cX3_parse 5 = .ok (.iconst 1, 1) := by decide +kernel
theorem dX3_parse_6 : decode cX3_parse 6 = .ok (.invokevirtual 84, 3) := by decide +kernel
theorem dX3_parse_9 : decode cX3_parse 9 = .ok (.ifCond .ne 23, 3) := by decide +kernel
theorem dX3_parse_12 : decode cX3_parse 12 = .ok (.aload_n 0, 1) := by decide +kernel
theorem dX3_parse_13 : decode cX3_parse 13 = .ok (.aload_n 0, 1) := by decide +kernel
theorem dX3_parse_14 : decode cX3_parse 14 = .ok (.getfield 92, 3) := by decide +kernel
theorem dX3_parse_17 : decode cX3_parse 17 = .ok (.ifCond .le 7, 3) := by decide +kernel
theorem dX3_parse_20 : decode cX3_parse 20 = .ok (.iconst 1, 1) := by decide +kernel
theorem dX3_parse_21 : decode cX3_parse 21 = .ok (.goto 4, 3) := by decide +kernel
theorem dX3_parse_24 : decode cX3_parse 24 = .ok (.iconst 0, 1) := by decide +kernel
theorem dX3_parse_25 : decode cX3_parse 25 = .ok (.iconst 2, 1) := by decide +kernel
theorem dX3_parse_26 : decode cX3_parse 26 = .ok (.invokevirtual 84, 3) := by decide +kernel
theorem dX3_parse_29 : decode cX3_parse 29 = .ok (.ifCond .eq 5, 3) := by decide +kernel
theorem dX3_parse_32 : decode cX3_parse 32 = .ok (.iconst 0, 1) := by decide +kernel
theorem dX3_parse_33 : decode cX3_parse 33 = .ok (.ireturn, 1) := by decide +kernel
theorem dX3_parse_34 : decode cX3_parse 34 = .ok (.aload_n 0, 1) := by decide +kernel
theorem dX3_parse_35 : decode cX3_parse 35 = .ok (.iload_n 1, 1) := by decide +kernel
theorem dX3_parse_36 : decode cX3_parse 36 = .ok (.aload_n 0, 1) := by decide +kernel
theorem dX3_parse_37 : decode cX3_parse 37 = .ok (.getfield 9, 3) := by decide +kernel
theorem dX3_parse_40 : decode cX3_parse 40 = .ok (.aload_n 0, 1) := by decide +kernel
theorem dX3_parse_41 : decode cX3_parse 41 = .ok (.getfield 92, 3) := by decide +kernel
theorem dX3_parse_44 : decode cX3_parse 44 = .ok (.invokevirtual 112, 3) := by decide +kernel
theorem dX3_parse_47 : decode cX3_parse 47 = .ok (.ireturn, 1) := by decide +kernel
set_option maxRecDepth 20000 in
theorem ggX3_triple_X3_isSlot : GoodIn wsX3_triple wsX3_isSlot := goodIn_r _ [6, 7, 8, 5, 9] (by decide +kernel) (by decide +kernel)
set_option maxRecDepth 20000 in
theorem gX3_triple_X3_isSlot : GoodIn wsX3_triple (va_wsS RX3 108 yX3_isSlot wsX3_isSlot) := goodIn_app (goodIn_of _ (by decide +kernel)) ggX3_triple_X3_isSlot
set_option maxRecDepth 20000 in
theorem ggX3_triple_X3_no : GoodIn wsX3_triple wsX3_no := goodIn_r _ [13, 14, 66, 67, 68, 69, 70, 71, 72, 73, 74] (by decide +kernel) (by decide +kernel)
set_option maxRecDepth 20000 in
theorem gX3_triple_X3_no : GoodIn wsX3_triple (wsV RX3 84 RX3 yX3_no wsX3_no) := goodIn_app (goodIn_of _ (by decide +kernel)) ggX3_triple_X3_no
set_option maxRecDepth 20000 in
theorem ggX3_triple_X3_in : GoodIn wsX3_triple wsX3_in := goodIn_r _ [9] (by decide +kernel) (by decide +kernel)
set_option maxRecDepth 20000 in
theorem gX3_triple_X3_in : GoodIn wsX3_triple (va_wsS RX3 43 yX3_in wsX3_in) := goodIn_app (goodIn_of _ (by decide +kernel)) ggX3_triple_X3_in
set_option maxRecDepth 20000 in
theorem ggX3_triple_X3_digits : GoodIn wsX3_triple wsX3_digits := goodIn_r _ [17, 18, 19, 5, 20] (by decide +kernel) (by decide +kernel)
set_option maxRecDepth 20000 in
theorem gX3_triple_X3_digits : GoodIn wsX3_triple (va_wsS RX3 88 yX3_digits wsX3_digits) := goodIn_app (goodIn_of _ (by decide +kernel)) ggX3_triple_X3_digits
set_option maxRecDepth 20000 in
theorem ggX3_triple_X3_lay : GoodIn wsX3_triple wsX3_lay := goodIn_r _ [24, 2, 25, 26, 27, 28, 29, 5, 30, 31, 32, 33, 34, 35, 36, 37, 38, 39, 40, 41, 42, 43, 44, 45, 46, 47, 48, 49, 50, 51, 52, 53, 54, 55, 56, 57, 58, 59, 60, 61, 62, 63, 64, 65, 66, 67, 68, 69, 70, 71, 72, 73, 74] (by decide +kernel) (by decide +kernel)
set_option maxRecDepth 20000 in
theorem gX3_triple_X3_lay : GoodIn wsX3_triple (wsV RX3 112 RX3 yX3_lay wsX3_lay) := goodIn_app (goodIn_of _ (by decide +kernel)) ggX3_triple_X3_lay
theorem dX3_triple_0 : decode cX3_triple 0 = .ok (.aload_n 0, 1) := by decide +kernel
theorem dX3_triple_1 : decode cX3_triple 1 = .ok (.iload_n 1, 1) := by decide +kernel
theorem dX3_triple_2 : decode cX3_triple 2 = .ok (.invokestatic 108, 3) := by decide +kernel
theorem dX3_triple_5 : decode cX3_triple 5 = .ok (.iconst 1, 1) := by decide +kernel
theorem dX3_triple_6 : decode cX3_triple 6 = .ok (.invokevirtual 84, 3) := by decide +kernel
theorem dX3_triple_9 : decode cX3_triple 9 = .ok (.ifCond .ne 47, 3) := by decide +kernel
theorem dX3_triple_12 : decode cX3_triple 12 = .ok (.aload_n 0, 1) := by decide +kernel
theorem dX3_triple_13 : decode cX3_triple 13 = .ok (.iload_n 2, 1) := by decide +kernel
theorem dX3_triple_14 : decode cX3_triple 14 = .ok (.iconst 0, 1) := by decide +kernel
theorem dX3_triple_15 : decode cX3_triple 15 = .ok (.ldc 83, 2) := by decide +kernel
theorem dX3_triple_17 : decode cX3_triple 17 = .ok (.invokestatic 43, 3) := by decide +kernel
theorem dX3_triple_20 : decode cX3_triple 20 = .ok (.ifCond .eq 28, 3) := by decide +kernel
theorem dX3_triple_23 : decode cX3_triple 23 = .ok (.iload_n 3, 1) := by decide +kernel
theorem dX3_triple_24 : decode cX3_triple 24 = .ok (.iconst 0, 1) := by decide +kernel
theorem dX3_triple_25 : decode cX3_triple 25 = .ok (.ldc 83, 2) := by decide +kernel
theorem dX3_triple_27 : decode cX3_triple 27 = .ok (.invokestatic 43, 3) := by decide +kernel
theorem dX3_triple_30 : decode cX3_triple 30 = .ok (.ifCond .eq 18, 3) := by decide +kernel
theorem dX3_triple_33 : decode cX3_triple 33 = .ok (.iload 4, 2) := by decide +kernel
theorem dX3_triple_35 : decode cX3_triple 35 = .ok (.iconst 0, 1) := by decide +kernel
theorem dX3_triple_36 : decode cX3_triple 36 = .ok (.ldc 83, 2) := by decide +kernel
theorem dX3_triple_38 : decode cX3_triple 38 = .ok (.invokestatic 43, 3) := by decide +kernel
theorem dX3_triple_41 : decode cX3_triple 41 = .ok (.ifCond .eq 7, 3) := by decide +kernel
theorem dX3_triple_44 : decode cX3_triple 44 = .ok (.iconst 1, 1) := by decide +kernel
theorem dX3_triple_45 : decode cX3_triple 45 = .ok (.goto 4, 3) := by decide +kernel
theorem dX3_triple_48 : decode cX3_triple 48 = .ok (.iconst 0, 1) := by decide +kernel
theorem dX3_triple_49 : decode cX3_triple 49 = .ok (.iconst 2, 1) := by decide +kernel
theorem dX3_triple_50 : decode cX3_triple 50 = .ok (.invokevirtual 84, 3) := by decide +kernel
theorem dX3_triple_53 : decode cX3_triple 53 = .ok (.ifCond .eq 5, 3) := by decide +kernel
theorem dX3_triple_56 : decode cX3_triple 56 = .ok (.iconst 0, 1) := by decide +kernel
theorem dX3_triple_57 : decode cX3_triple 57 = .ok (.ireturn, 1) := by decide +kernel
theorem dX3_triple_58 : decode cX3_triple 58 = .ok (.bipush 60, 2) := by decide +kernel
theorem dX3_triple_60 : decode cX3_triple 60 = .ok (.newarray .char, 2) := by decide +kernel
theorem dX3_triple_62 : decode cX3_triple 62 = .ok (.astore 5, 2) := by decide +kernel
theorem dX3_triple_64 : decode cX3_triple 64 = .ok (.aload 5, 2) := by decide +kernel
theorem dX3_triple_66 : decode cX3_triple 66 = .ok (.iconst 0, 1) := by decide +kernel
theorem dX3_triple_67 : decode cX3_triple 67 = .ok (.iload_n 2, 1) := by decide +kernel
theorem dX3_triple_68 : decode cX3_triple 68 = .ok (.iconst 0, 1) := by decide +kernel
theorem dX3_triple_69 : decode cX3_triple 69 = .ok (.invokestatic 88, 3) := by decide +kernel
theorem dX3_triple_72 : decode cX3_triple 72 = .ok (.istore 6, 2) := by decide +kernel
theorem dX3_triple_74 : decode cX3_triple 74 = .ok (.aload 5, 2) := by decide +kernel
theorem dX3_triple_76 : decode cX3_triple 76 = .ok (.iload 6, 2) := by decide +kernel
theorem dX3_triple_78 : decode cX3_triple 78 = .ok (.bipush 46, 2) := by decide +kernel
theorem dX3_triple_80 : decode cX3_triple 80 = .ok (.castore, 1) := by decide +kernel
theorem dX3_triple_81 : decode cX3_triple 81 = .ok (.aload 5, 2) := by decide +kernel
theorem dX3_triple_83 : decode cX3_triple 83 = .ok (.iload 6, 2) := by decide +kernel
theorem dX3_triple_85 : decode cX3_triple 85 = .ok (.iconst 1, 1) := by decide +kernel
theorem dX3_triple_86 : decode cX3_triple 86 = .ok (.iadd, 1) := by decide +kernel
theorem dX3_triple_87 : decode cX3_triple 87 = .ok (.iload_n 3, 1) := by decide +kernel
theorem dX3_triple_88 : decode cX3_triple 88 = .ok (.iconst 0, 1) := by decide +kernel
theorem dX3_triple_89 : decode cX3_triple 89 = .ok (.invokestatic 88, 3) := by decide +kernel
theorem dX3_triple_92 : decode cX3_triple 92 = .ok (.istore 6, 2) := by decide +kernel
theorem dX3_triple_94 : decode cX3_triple 94 = .ok (.aload 5, 2) := by decide +kernel
theorem dX3_triple_96 : decode cX3_triple 96 = .ok (.iload 6, 2) := by decide +kernel
theorem dX3_triple_98 : decode cX3_triple 98 = .ok (.bipush 46, 2) := by decide +kernel
theorem dX3_triple_100 : decode cX3_triple 100 = .ok (.castore, 1) := by decide +kernel
theorem dX3_triple_101 : decode cX3_triple 101 = .ok (.aload_n 0, 1) := by decide +kernel
theorem dX3_triple_102 : decode cX3_triple 102 = .ok (.iload_n 1, 1) := by decide +kernel
theorem dX3_triple_103 : decode cX3_triple 103 = .ok (.aload 5, 2) := by decide +kernel
theorem dX3_triple_105 : decode cX3_triple 105 = .ok (.aload 5, 2) := by decide +kernel
theorem dX3_triple_107 : decode cX3_triple 107 = .ok (.iload 6, 2) := by decide +kernel
theorem dX3_triple_109 : decode cX3_triple 109 = .ok (.iconst 1, 1) := by decide +kernel
theorem dX3_triple_110 : decode cX3_triple 110 = .ok (.iadd, 1) := by decide +kernel
theorem dX3_triple_111 : decode cX3_triple 111 = .ok (.iload 4, 2) := by decide +kernel
theorem dX3_triple_113 : decode cX3_triple 113 = .ok (.iconst 0, 1) := by decide +kernel
theorem dX3_triple_114 : decode cX3_triple 114 = .ok (.invokestatic 88, 3) := by decide +kernel
theorem dX3_triple_117 : decode cX3_triple 117 = .ok (.invokevirtual 112, 3) := by decide +kernel
theorem dX3_triple_120 : decode cX3_triple 120 = .ok (.ireturn, 1) := by decide +kernel
set_option maxRecDepth 20000 in
theorem ggX3_copy_X3_isSlot : GoodIn wsX3_copy wsX3_isSlot := goodIn_r _ [6, 7, 8, 5, 9] (by decide +kernel) (by decide +kernel)
set_option maxRecDepth 20000 in
theorem gX3_copy_X3_isSlot : GoodIn wsX3_copy (va_wsS RX3 108 yX3_isSlot wsX3_isSlot) := goodIn_app (goodIn_of _ (by decide +kernel)) ggX3_copy_X3_isSlot
set_option maxRecDepth 20000 in
theorem ggX3_copy_X3_no : GoodIn wsX3_copy wsX3_no := goodIn_r _ [13, 14, 59, 60, 61, 62, 63, 64, 65, 66, 67] (by decide +kernel) (by decide +kernel)
set_option maxRecDepth 20000 in
theorem gX3_copy_X3_no : GoodIn wsX3_copy (wsV RX3 84 RX3 yX3_no wsX3_no) := goodIn_app (goodIn_of _ (by decide +kernel)) ggX3_copy_X3_no
set_option maxRecDepth 20000 in
theorem ggX3_copy_X3_lay : GoodIn wsX3_copy wsX3_lay := goodIn_r _ [18, 19, 1, 2, 20, 21, 22, 5, 23, 24, 25, 26, 27, 28, 29, 30, 31, 32, 33, 34, 35, 36, 37, 38, 39, 40, 41, 42, 43, 44, 45, 46, 47, 48, 49, 50, 51, 52, 53, 54, 55, 56, 57, 58, 59, 60, 61, 62, 63, 64, 65, 66, 67] (by decide +kernel) (by decide +kernel)
set_option maxRecDepth 20000 in
theorem gX3_copy_X3_lay : GoodIn wsX3_copy (wsV RX3 112 RX3 yX3_lay wsX3_lay) := goodIn_app (goodIn_of _ (by decide +kernel)) ggX3_copy_X3_lay
theorem dX3_copy_0 : decode cX3_copy 0 = .ok (.aload_n 0, 1) := by decide +kernel
theorem dX3_copy_1 : decode cX3_copy 1 = .ok (.iload_n 1, 1) := by decide +kernel
theorem dX3_copy_2 : decode cX3_copy 2 = .ok (.invokestatic 108, 3) := by decide +kernel
theorem dX3_copy_5 : decode cX3_copy 5 = .ok (.ifCond .eq 14, 3) := by decide +kernel
theorem dX3_copy_8 : decode cX3_copy 8 = .ok (.iload_n 2, 1) := by decide +kernel
theorem dX3_copy_9 : decode cX3_copy 9 = .ok (.invokestatic 108, 3) := by decide +kernel
theorem dX3_copy_12 : decode cX3_copy 12 = .ok (.ifCond .eq 7, 3) := by decide +kernel
theorem dX3_copy_15 : decode cX3_copy 15 = .ok (.iconst 1, 1) := by decide +kernel
theorem dX3_copy_16 : decode cX3_copy 16 = .ok (.goto 4, 3) := by decide +kernel
theorem dX3_copy_19 : decode cX3_copy 19 = .ok (.iconst 0, 1) := by decide +kernel
theorem dX3_copy_20 : decode cX3_copy 20 = .ok (.iconst 1, 1) := by decide +kernel
theorem dX3_copy_21 : decode cX3_copy 21 = .ok (.invokevirtual 84, 3) := by decide +kernel
theorem dX3_copy_24 : decode cX3_copy 24 = .ok (.ifCond .eq 7, 3) := by decide +kernel
theorem dX3_copy_27 : decode cX3_copy 27 = .ok (.iconst 0, 1) := by decide +kernel
theorem dX3_copy_28 : decode cX3_copy 28 = .ok (.goto 20, 3) := by decide +kernel
theorem dX3_copy_31 : decode cX3_copy 31 = .ok (.aload_n 0, 1) := by decide +kernel
theorem dX3_copy_32 : decode cX3_copy 32 = .ok (.iload_n 2, 1) := by decide +kernel
theorem dX3_copy_33 : decode cX3_copy 33 = .ok (.aload_n 0, 1) := by decide +kernel
theorem dX3_copy_34 : decode cX3_copy 34 = .ok (.getfield 15, 3) := by decide +kernel
theorem dX3_copy_37 : decode cX3_copy 37 = .ok (.iload_n 1, 1) := by decide +kernel
theorem dX3_copy_38 : decode cX3_copy 38 = .ok (.aaload, 1) := by decide +kernel
theorem dX3_copy_39 : decode cX3_copy 39 = .ok (.aload_n 0, 1) := by decide +kernel
theorem dX3_copy_40 : decode cX3_copy 40 = .ok (.getfield 18, 3) := by decide +kernel
theorem dX3_copy_43 : decode cX3_copy 43 = .ok (.iload_n 1, 1) := by decide +kernel
theorem dX3_copy_44 : decode cX3_copy 44 = .ok (.iaload, 1) := by decide +kernel
theorem dX3_copy_45 : decode cX3_copy 45 = .ok (.invokevirtual 112, 3) := by decide +kernel
theorem dX3_copy_48 : decode cX3_copy 48 = .ok (.ireturn, 1) := by decide +kernel
set_option maxRecDepth 20000 in
theorem ggX3_size_X3_isSlot : GoodIn wsX3_size wsX3_isSlot := goodIn_r _ [5, 6, 7, 4, 8] (by decide +kernel) (by decide +kernel)
set_option maxRecDepth 20000 in
theorem gX3_size_X3_isSlot : GoodIn wsX3_size (va_wsS RX3 108 yX3_isSlot wsX3_isSlot) := goodIn_app (goodIn_of _ (by decide +kernel)) ggX3_size_X3_isSlot
set_option maxRecDepth 20000 in
theorem ggX3_size_X3_no : GoodIn wsX3_size wsX3_no := goodIn_r _ [12, 13, 14, 15, 16, 17, 18, 19, 20, 21, 22] (by decide +kernel) (by decide +kernel)
set_option maxRecDepth 20000 in
theorem gX3_size_X3_no : GoodIn wsX3_size (wsV RX3 84 RX3 yX3_no wsX3_no) := goodIn_app (goodIn_of _ (by decide +kernel)) ggX3_size_X3_no
theorem dX3_size_0 : decode cX3_size 0 = .ok (.aload_n 0, 1) := by decide +kernel
theorem dX3_size_1 : decode cX3_size 1 = .ok (.iload_n 1, 1) := by decide +kernel
theorem dX3_size_2 : decode cX3_size 2 = .ok (.invokestatic 108, 3) := by decide +kernel
theorem dX3_size_5 : decode cX3_size 5 = .ok (.iconst 1, 1) := by decide +kernel
theorem dX3_size_6 : decode cX3_size 6 = .ok (.invokevirtual 84, 3) := by decide +kernel
theorem dX3_size_9 : decode cX3_size 9 = .ok (.ifCond .eq 7, 3) := by decide +kernel
theorem dX3_size_12 : decode cX3_size 12 = .ok (.iconst 0, 1) := by decide +kernel
theorem dX3_size_13 : decode cX3_size 13 = .ok (.goto 9, 3) := by decide +kernel
theorem dX3_size_16 : decode cX3_size 16 = .ok (.aload_n 0, 1) := by decide +kernel
theorem dX3_size_17 : decode cX3_size 17 = .ok (.getfield 18, 3) := by decide +kernel
theorem dX3_size_20 : decode cX3_size 20 = .ok (.iload_n 1, 1) := by decide +kernel
theorem dX3_size_21 : decode cX3_size 21 = .ok (.iaload, 1) := by decide +kernel
theorem dX3_size_22 : decode cX3_size 22 = .ok (.ireturn, 1) := by decide +kernel
set_option maxRecDepth 20000 in
theorem ggX3_text_X3_isSlot : GoodIn wsX3_text wsX3_isSlot := goodIn_r _ [6, 7, 8, 5, 9] (by decide +kernel) (by decide +kernel)
set_option maxRecDepth 20000 in
theorem gX3_text_X3_isSlot : GoodIn wsX3_text (va_wsS RX3 108 yX3_isSlot wsX3_isSlot) := goodIn_app (goodIn_of _ (by decide +kernel)) ggX3_text_X3_isSlot
set_option maxRecDepth 20000 in
theorem ggX3_text_X3_in : GoodIn wsX3_text wsX3_in := goodIn_r _ [9] (by decide +kernel) (by decide +kernel)
set_option maxRecDepth 20000 in
theorem gX3_text_X3_in : GoodIn wsX3_text (va_wsS RX3 43 yX3_in wsX3_in) := goodIn_app (goodIn_of _ (by decide +kernel)) ggX3_text_X3_in
set_option maxRecDepth 20000 in
theorem ggX3_text_X3_no : GoodIn wsX3_text wsX3_no := goodIn_r _ [13, 14, 15, 16, 17, 18, 19, 20, 21, 22, 23] (by decide +kernel) (by decide +kernel)
set_option maxRecDepth 20000 in
theorem gX3_text_X3_no : GoodIn wsX3_text (wsV RX3 84 RX3 yX3_no wsX3_no) := goodIn_app (goodIn_of _ (by decide +kernel)) ggX3_text_X3_no
theorem dX3_text_0 : decode cX3_text 0 = .ok (.aload_n 0, 1) := by decide +kernel
theorem dX3_text_1 : decode cX3_text 1 = .ok (.iload_n 1, 1) := by decide +kernel
theorem dX3_text_2 : decode cX3_text 2 = .ok (.invokestatic 108, 3) := by decide +kernel
theorem dX3_text_5 : decode cX3_text 5 = .ok (.ifCond .eq 23, 3) := by decide +kernel
theorem dX3_text_8 : decode cX3_text 8 = .ok (.iload_n 2, 1) := by decide +kernel
theorem dX3_text_9 : decode cX3_text 9 = .ok (.iconst 0, 1) := by decide +kernel
theorem dX3_text_10 : decode cX3_text 10 = .ok (.aload_n 0, 1) := by decide +kernel
theorem dX3_text_11 : decode cX3_text 11 = .ok (.getfield 18, 3) := by decide +kernel
theorem dX3_text_14 : decode cX3_text 14 = .ok (.iload_n 1, 1) := by decide +kernel
theorem dX3_text_15 : decode cX3_text 15 = .ok (.iaload, 1) := by decide +kernel
theorem dX3_text_16 : decode cX3_text 16 = .ok (.iconst 1, 1) := by decide +kernel
theorem dX3_text_17 : decode cX3_text 17 = .ok (.isub, 1) := by decide +kernel
theorem dX3_text_18 : decode cX3_text 18 = .ok (.invokestatic 43, 3) := by decide +kernel
theorem dX3_text_21 : decode cX3_text 21 = .ok (.ifCond .eq 7, 3) := by decide +kernel
theorem dX3_text_24 : decode cX3_text 24 = .ok (.iconst 1, 1) := by decide +kernel
theorem dX3_text_25 : decode cX3_text 25 = .ok (.goto 4, 3) := by decide +kernel
theorem dX3_text_28 : decode cX3_text 28 = .ok (.iconst 0, 1) := by decide +kernel
theorem dX3_text_29 : decode cX3_text 29 = .ok (.iconst 1, 1) := by decide +kernel
theorem dX3_text_30 : decode cX3_text 30 = .ok (.invokevirtual 84, 3) := by decide +kernel
theorem dX3_text_33 : decode cX3_text 33 = .ok (.ifCond .eq 8, 3) := by decide +kernel
theorem dX3_text_36 : decode cX3_text 36 = .ok (.bipush 32, 2) := by decide +kernel
theorem dX3_text_38 : decode cX3_text 38 = .ok (.goto 11, 3) := by decide +kernel
theorem dX3_text_41 : decode cX3_text 41 = .ok (.aload_n 0, 1) := by decide +kernel
theorem dX3_text_42 : decode cX3_text 42 = .ok (.getfield 15, 3) := by decide +kernel
theorem dX3_text_45 : decode cX3_text 45 = .ok (.iload_n 1, 1) := by decide +kernel
theorem dX3_text_46 : decode cX3_text 46 = .ok (.aaload, 1) := by decide +kernel
theorem dX3_text_47 : decode cX3_text 47 = .ok (.iload_n 2, 1) := by decide +kernel
theorem dX3_text_48 : decode cX3_text 48 = .ok (.caload, 1) := by decide +kernel
theorem dX3_text_49 : decode cX3_text 49 = .ok (.ireturn, 1) := by decide +kernel
set_option maxRecDepth 20000 in
theorem ggX3_tokens_X3_isSlot : GoodIn wsX3_tokens wsX3_isSlot := goodIn_r _ [5, 6, 7, 4, 8] (by decide +kernel) (by decide +kernel)
set_option maxRecDepth 20000 in
theorem gX3_tokens_X3_isSlot : GoodIn wsX3_tokens (va_wsS RX3 108 yX3_isSlot wsX3_isSlot) := goodIn_app (goodIn_of _ (by decide +kernel)) ggX3_tokens_X3_isSlot
set_option maxRecDepth 20000 in
theorem ggX3_tokens_X3_no : GoodIn wsX3_tokens wsX3_no := goodIn_r _ [12, 13, 33, 34, 35, 36, 37, 38, 39, 40, 41] (by decide +kernel) (by decide +kernel)
set_option maxRecDepth 20000 in
theorem gX3_tokens_X3_no : GoodIn wsX3_tokens (wsV RX3 84 RX3 yX3_no wsX3_no) := goodIn_app (goodIn_of _ (by decide +kernel)) ggX3_tokens_X3_no
set_option maxRecDepth 20000 in
theorem ggX3_tokens_X3_in : GoodIn wsX3_tokens wsX3_in := goodIn_r _ [8] (by decide +kernel) (by decide +kernel)
set_option maxRecDepth 20000 in
theorem gX3_tokens_X3_in : GoodIn wsX3_tokens (va_wsS RX3 43 yX3_in wsX3_in) := goodIn_app (goodIn_of _ (by decide +kernel)) ggX3_tokens_X3_in
set_option maxRecDepth 20000 in
theorem ggX3_tokens_X3_look_ : GoodIn wsX3_tokens wsX3_look_ := goodIn_r _ [17, 18, 19, 20, 21, 22, 4, 23, 24, 1, 25, 26, 27, 28, 29, 30, 31, 32, 33, 34, 35, 36, 37, 38, 39, 40, 41] (by decide +kernel) (by decide +kernel)
set_option maxRecDepth 20000 in
theorem gX3_tokens_X3_look_ : GoodIn wsX3_tokens (wsV RX3 73 RX3 yX3_look_ wsX3_look_) := goodIn_app (goodIn_of _ (by decide +kernel)) ggX3_tokens_X3_look_
theorem dX3_tokens_0 : decode cX3_tokens 0 = .ok (.aload_n 0, 1) := by decide +kernel
theorem dX3_tokens_1 : decode cX3_tokens 1 = .ok (.iload_n 1, 1) := by decide +kernel
theorem dX3_tokens_2 : decode cX3_tokens 2 = .ok (.invokestatic 108, 3) := by decide +kernel
theorem dX3_tokens_5 : decode cX3_tokens 5 = .ok (.iconst 1, 1) := by decide +kernel
theorem dX3_tokens_6 : decode cX3_tokens 6 = .ok (.invokevirtual 84, 3) := by decide +kernel
theorem dX3_tokens_9 : decode cX3_tokens 9 = .ok (.ifCond .ne 17, 3) := by decide +kernel
theorem dX3_tokens_12 : decode cX3_tokens 12 = .ok (.aload_n 0, 1) := by decide +kernel
theorem dX3_tokens_13 : decode cX3_tokens 13 = .ok (.iload_n 2, 1) := by decide +kernel
theorem dX3_tokens_14 : decode cX3_tokens 14 = .ok (.iconst 0, 1) := by decide +kernel
theorem dX3_tokens_15 : decode cX3_tokens 15 = .ok (.iconst 2, 1) := by decide +kernel
theorem dX3_tokens_16 : decode cX3_tokens 16 = .ok (.invokestatic 43, 3) := by decide +kernel
theorem dX3_tokens_19 : decode cX3_tokens 19 = .ok (.iconst 2, 1) := by decide +kernel
theorem dX3_tokens_20 : decode cX3_tokens 20 = .ok (.invokevirtual 84, 3) := by decide +kernel
theorem dX3_tokens_23 : decode cX3_tokens 23 = .ok (.ifCond .eq 5, 3) := by decide +kernel
theorem dX3_tokens_26 : decode cX3_tokens 26 = .ok (.iconst 0, 1) := by decide +kernel
theorem dX3_tokens_27 : decode cX3_tokens 27 = .ok (.ireturn, 1) := by decide +kernel
theorem dX3_tokens_28 : decode cX3_tokens 28 = .ok (.aload_n 0, 1) := by decide +kernel
theorem dX3_tokens_29 : decode cX3_tokens 29 = .ok (.iconst 0, 1) := by decide +kernel
theorem dX3_tokens_30 : decode cX3_tokens 30 = .ok (.iload_n 1, 1) := by decide +kernel
theorem dX3_tokens_31 : decode cX3_tokens 31 = .ok (.invokevirtual 73, 3) := by decide +kernel
theorem dX3_tokens_34 : decode cX3_tokens 34 = .ok (.aload_n 0, 1) := by decide +kernel
theorem dX3_tokens_35 : decode cX3_tokens 35 = .ok (.getfield 28, 3) := by decide +kernel
theorem dX3_tokens_38 : decode cX3_tokens 38 = .ok (.iconst 0, 1) := by decide +kernel
theorem dX3_tokens_39 : decode cX3_tokens 39 = .ok (.aaload, 1) := by decide +kernel
theorem dX3_tokens_40 : decode cX3_tokens 40 = .ok (.iload_n 2, 1) := by decide +kernel
theorem dX3_tokens_41 : decode cX3_tokens 41 = .ok (.iaload, 1) := by decide +kernel
theorem dX3_tokens_42 : decode cX3_tokens 42 = .ok (.ireturn, 1) := by decide +kernel
set_option maxRecDepth 20000 in
theorem ggX3_token_X3_isSlot : GoodIn wsX3_token wsX3_isSlot := goodIn_r _ [7, 8, 9, 6, 10] (by decide +kernel) (by decide +kernel)
set_option maxRecDepth 20000 in
theorem gX3_token_X3_isSlot : GoodIn wsX3_token (va_wsS RX3 108 yX3_isSlot wsX3_isSlot) := goodIn_app (goodIn_of _ (by decide +kernel)) ggX3_token_X3_isSlot
set_option maxRecDepth 20000 in
theorem ggX3_token_X3_no : GoodIn wsX3_token wsX3_no := goodIn_r _ [14, 15, 41, 42, 43, 44, 45, 46, 47, 48, 49] (by decide +kernel) (by decide +kernel)
set_option maxRecDepth 20000 in
theorem gX3_token_X3_no : GoodIn wsX3_token (wsV RX3 84 RX3 yX3_no wsX3_no) := goodIn_app (goodIn_of _ (by decide +kernel)) ggX3_token_X3_no
set_option maxRecDepth 20000 in
theorem ggX3_token_X3_in : GoodIn wsX3_token wsX3_in := goodIn_r _ [10] (by decide +kernel) (by decide +kernel)
set_option maxRecDepth 20000 in
theorem gX3_token_X3_in : GoodIn wsX3_token (va_wsS RX3 43 yX3_in wsX3_in) := goodIn_app (goodIn_of _ (by decide +kernel)) ggX3_token_X3_in
set_option maxRecDepth 20000 in
theorem ggX3_token_X3_look_ : GoodIn wsX3_token wsX3_look_ := goodIn_r _ [19, 20, 21, 22, 23, 24, 6, 25, 26, 1, 3, 2, 27, 28, 29, 30, 31, 32, 41, 42, 43, 44, 45, 46, 47, 48, 49] (by decide +kernel) (by decide +kernel)
set_option maxRecDepth 20000 in
theorem gX3_token_X3_look_ : GoodIn wsX3_token (wsV RX3 73 RX3 yX3_look_ wsX3_look_) := goodIn_app (goodIn_of _ (by decide +kernel)) ggX3_token_X3_look_
set_option maxRecDepth 20000 in
theorem ggX3_token_X3_isNumber : GoodIn wsX3_token wsX3_isNumber := goodIn_r _ [36, 1, 26, 3, 30, 31, 6, 32, 41, 42, 43, 44, 45, 46, 47, 48, 49] (by decide +kernel) (by decide +kernel)
set_option maxRecDepth 20000 in
theorem gX3_token_X3_isNumber : GoodIn wsX3_token (wsV RX3 58 RX3 yX3_isNumber wsX3_isNumber) := goodIn_app (goodIn_of _ (by decide +kernel)) ggX3_token_X3_isNumber
set_option maxRecDepth 20000 in
theorem ggX3_token_X3_number : GoodIn wsX3_token wsX3_number := goodIn_r _ [40, 1, 3, 2, 26, 41, 42, 43, 44, 45, 46, 47, 48, 49] (by decide +kernel) (by decide +kernel)
set_option maxRecDepth 20000 in
theorem gX3_token_X3_number : GoodIn wsX3_token (wsV RX3 61 RX3 yX3_number wsX3_number) := goodIn_app (goodIn_of _ (by decide +kernel)) ggX3_token_X3_number
theorem dX3_token_0 : decode cX3_token 0 = .ok (.aload_n 0, 1) := by decide +kernel
theorem dX3_token_1 : decode cX3_token 1 = .ok (.iload_n 1, 1) := by decide +kernel
theorem dX3_token_2 : decode cX3_token 2 = .ok (.invokestatic 108, 3) := by decide +kernel
theorem dX3_token_5 : decode cX3_token 5 = .ok (.iconst 1, 1) := by decide +kernel
theorem dX3_token_6 : decode cX3_token 6 = .ok (.invokevirtual 84, 3) := by decide +kernel
theorem dX3_token_9 : decode cX3_token 9 = .ok (.ifCond .ne 17, 3) := by decide +kernel
theorem dX3_token_12 : decode cX3_token 12 = .ok (.aload_n 0, 1) := by decide +kernel
theorem dX3_token_13 : decode cX3_token 13 = .ok (.iload_n 2, 1) := by decide +kernel
theorem dX3_token_14 : decode cX3_token 14 = .ok (.iconst 0, 1) := by decide +kernel
theorem dX3_token_15 : decode cX3_token 15 = .ok (.iconst 2, 1) := by decide +kernel
theorem dX3_token_16 : decode cX3_token 16 = .ok (.invokestatic 43, 3) := by decide +kernel
theorem dX3_token_19 : decode cX3_token 19 = .ok (.iconst 2, 1) := by decide +kernel
theorem dX3_token_20 : decode cX3_token 20 = .ok (.invokevirtual 84, 3) := by decide +kernel
theorem dX3_token_23 : decode cX3_token 23 = .ok (.ifCond .eq 5, 3) := by decide +kernel
theorem dX3_token_26 : decode cX3_token 26 = .ok (.iconst 0, 1) := by decide +kernel
theorem dX3_token_27 : decode cX3_token 27 = .ok (.ireturn, 1) := by decide +kernel
theorem dX3_token_28 : decode cX3_token 28 = .ok (.aload_n 0, 1) := by decide +kernel
theorem dX3_token_29 : decode cX3_token 29 = .ok (.iconst 0, 1) := by decide +kernel
theorem dX3_token_30 : decode cX3_token 30 = .ok (.iload_n 1, 1) := by decide +kernel
theorem dX3_token_31 : decode cX3_token 31 = .ok (.invokevirtual 73, 3) := by decide +kernel
theorem dX3_token_34 : decode cX3_token 34 = .ok (.aload_n 0, 1) := by decide +kernel
theorem dX3_token_35 : decode cX3_token 35 = .ok (.iload_n 3, 1) := by decide +kernel
theorem dX3_token_36 : decode cX3_token 36 = .ok (.iconst 0, 1) := by decide +kernel
theorem dX3_token_37 : decode cX3_token 37 = .ok (.aload_n 0, 1) := by decide +kernel
theorem dX3_token_38 : decode cX3_token 38 = .ok (.getfield 28, 3) := by decide +kernel
theorem dX3_token_41 : decode cX3_token 41 = .ok (.iconst 0, 1) := by decide +kernel
theorem dX3_token_42 : decode cX3_token 42 = .ok (.aaload, 1) := by decide +kernel
theorem dX3_token_43 : decode cX3_token 43 = .ok (.iload_n 2, 1) := by decide +kernel
theorem dX3_token_44 : decode cX3_token 44 = .ok (.iaload, 1) := by decide +kernel
theorem dX3_token_45 : decode cX3_token 45 = .ok (.iconst 1, 1) := by decide +kernel
theorem dX3_token_46 : decode cX3_token 46 = .ok (.isub, 1) := by decide +kernel
theorem dX3_token_47 : decode cX3_token 47 = .ok (.invokestatic 43, 3) := by decide +kernel
theorem dX3_token_50 : decode cX3_token 50 = .ok (.iconst 1, 1) := by decide +kernel
theorem dX3_token_51 : decode cX3_token 51 = .ok (.invokevirtual 84, 3) := by decide +kernel
theorem dX3_token_54 : decode cX3_token 54 = .ok (.ifCond .eq 5, 3) := by decide +kernel
theorem dX3_token_57 : decode cX3_token 57 = .ok (.iconst 0, 1) := by decide +kernel
theorem dX3_token_58 : decode cX3_token 58 = .ok (.ireturn, 1) := by decide +kernel
theorem dX3_token_59 : decode cX3_token 59 = .ok (.aload_n 0, 1) := by decide +kernel
theorem dX3_token_60 : decode cX3_token 60 = .ok (.iconst 0, 1) := by decide +kernel
theorem dX3_token_61 : decode cX3_token 61 = .ok (.iload_n 2, 1) := by decide +kernel
theorem dX3_token_62 : decode cX3_token 62 = .ok (.iload_n 3, 1) := by decide +kernel
theorem dX3_token_63 : decode cX3_token 63 = .ok (.invokevirtual 58, 3) := by decide +kernel
theorem dX3_token_66 : decode cX3_token 66 = .ok (.ifCond .eq 13, 3) := by decide +kernel
theorem dX3_token_69 : decode cX3_token 69 = .ok (.aload_n 0, 1) := by decide +kernel
theorem dX3_token_70 : decode cX3_token 70 = .ok (.iconst 0, 1) := by decide +kernel
theorem dX3_token_71 : decode cX3_token 71 = .ok (.iload_n 2, 1) := by decide +kernel
theorem dX3_token_72 : decode cX3_token 72 = .ok (.iload_n 3, 1) := by decide +kernel
theorem dX3_token_73 : decode cX3_token 73 = .ok (.invokevirtual 61, 3) := by decide +kernel
theorem dX3_token_76 : decode cX3_token 76 = .ok (.goto 26, 3) := by decide +kernel
theorem dX3_token_79 : decode cX3_token 79 = .ok (.iconst (-1), 1) := by decide +kernel
theorem dX3_token_80 : decode cX3_token 80 = .ok (.aload_n 0, 1) := by decide +kernel
theorem dX3_token_81 : decode cX3_token 81 = .ok (.getfield 36, 3) := by decide +kernel
theorem dX3_token_84 : decode cX3_token 84 = .ok (.iconst 0, 1) := by decide +kernel
theorem dX3_token_85 : decode cX3_token 85 = .ok (.aaload, 1) := by decide +kernel
theorem dX3_token_86 : decode cX3_token 86 = .ok (.iload_n 2, 1) := by decide +kernel
theorem dX3_token_87 : decode cX3_token 87 = .ok (.aaload, 1) := by decide +kernel
theorem dX3_token_88 : decode cX3_token 88 = .ok (.iload_n 3, 1) := by decide +kernel
theorem dX3_token_89 : decode cX3_token 89 = .ok (.iaload, 1) := by decide +kernel
theorem dX3_token_90 : decode cX3_token 90 = .ok (.aload_n 0, 1) := by decide +kernel
theorem dX3_token_91 : decode cX3_token 91 = .ok (.getfield 33, 3) := by decide +kernel
theorem dX3_token_94 : decode cX3_token 94 = .ok (.iconst 0, 1) := by decide +kernel
theorem dX3_token_95 : decode cX3_token 95 = .ok (.aaload, 1) := by decide +kernel
theorem dX3_token_96 : decode cX3_token 96 = .ok (.iload_n 2, 1) := by decide +kernel
theorem dX3_token_97 : decode cX3_token 97 = .ok (.aaload, 1) := by decide +kernel
theorem dX3_token_98 : decode cX3_token 98 = .ok (.iload_n 3, 1) := by decide +kernel
theorem dX3_token_99 : decode cX3_token 99 = .ok (.iaload, 1) := by decide +kernel
theorem dX3_token_100 : decode cX3_token 100 = .ok (.isub, 1) := by decide +kernel
theorem dX3_token_101 : decode cX3_token 101 = .ok (.isub, 1) := by decide +kernel
theorem dX3_token_102 : decode cX3_token 102 = .ok (.ireturn, 1) := by decide +kernel
set_option maxRecDepth 20000 in
theorem ggX3_compare_X3_isSlot : GoodIn wsX3_compare wsX3_isSlot := goodIn_r _ [4, 5, 6, 3, 7] (by decide +kernel) (by decide +kernel)
set_option maxRecDepth 20000 in
theorem gX3_compare_X3_isSlot : GoodIn wsX3_compare (va_wsS RX3 108 yX3_isSlot wsX3_isSlot) := goodIn_app (goodIn_of _ (by decide +kernel)) ggX3_compare_X3_isSlot
set_option maxRecDepth 20000 in
theorem ggX3_compare_X3_no : GoodIn wsX3_compare wsX3_no := goodIn_r _ [11, 12, 58, 59, 60, 61, 62, 63, 64, 65, 66] (by decide +kernel) (by decide +kernel)
set_option maxRecDepth 20000 in
theorem gX3_compare_X3_no : GoodIn wsX3_compare (wsV RX3 84 RX3 yX3_no wsX3_no) := goodIn_app (goodIn_of _ (by decide +kernel)) ggX3_compare_X3_no
set_option maxRecDepth 20000 in
theorem ggX3_compare_X3_order : GoodIn wsX3_compare wsX3_order := goodIn_r _ [16, 17, 18, 19, 3, 20, 21, 22, 23, 24, 25, 26, 27, 28, 29, 30, 31, 32, 33, 34, 35, 36, 37, 38, 39, 40, 41, 42, 43, 44, 45, 46, 47, 48, 49, 50, 51, 52, 53, 54, 55, 56, 57, 58, 59, 60, 61, 62, 63, 64, 65, 66] (by decide +kernel) (by decide +kernel)
set_option maxRecDepth 20000 in
theorem gX3_compare_X3_order : GoodIn wsX3_compare (wsV RX3 116 RX3 yX3_order wsX3_order) := goodIn_app (goodIn_of _ (by decide +kernel)) ggX3_compare_X3_order
theorem dX3_compare_0 : decode cX3_compare 0 = .ok (.aload_n 0, 1) := by decide +kernel
theorem dX3_compare_1 : decode cX3_compare 1 = .ok (.iload_n 1, 1) := by decide +kernel
theorem dX3_compare_2 : decode cX3_compare 2 = .ok (.invokestatic 108, 3) := by decide +kernel
theorem dX3_compare_5 : decode cX3_compare 5 = .ok (.ifCond .eq 14, 3) := by decide +kernel
theorem dX3_compare_8 : decode cX3_compare 8 = .ok (.iload_n 2, 1) := by decide +kernel
theorem dX3_compare_9 : decode cX3_compare 9 = .ok (.invokestatic 108, 3) := by decide +kernel
theorem dX3_compare_12 : decode cX3_compare 12 = .ok (.ifCond .eq 7, 3) := by decide +kernel
theorem dX3_compare_15 : decode cX3_compare 15 = .ok (.iconst 1, 1) := by decide +kernel
theorem dX3_compare_16 : decode cX3_compare 16 = .ok (.goto 4, 3) := by decide +kernel
theorem dX3_compare_19 : decode cX3_compare 19 = .ok (.iconst 0, 1) := by decide +kernel
theorem dX3_compare_20 : decode cX3_compare 20 = .ok (.iconst 1, 1) := by decide +kernel
theorem dX3_compare_21 : decode cX3_compare 21 = .ok (.invokevirtual 84, 3) := by decide +kernel
theorem dX3_compare_24 : decode cX3_compare 24 = .ok (.ifCond .eq 7, 3) := by decide +kernel
theorem dX3_compare_27 : decode cX3_compare 27 = .ok (.iconst 0, 1) := by decide +kernel
theorem dX3_compare_28 : decode cX3_compare 28 = .ok (.goto 9, 3) := by decide +kernel
theorem dX3_compare_31 : decode cX3_compare 31 = .ok (.aload_n 0, 1) := by decide +kernel
theorem dX3_compare_32 : decode cX3_compare 32 = .ok (.iload_n 1, 1) := by decide +kernel
theorem dX3_compare_33 : decode cX3_compare 33 = .ok (.iload_n 2, 1) := by decide +kernel
theorem dX3_compare_34 : decode cX3_compare 34 = .ok (.invokevirtual 116, 3) := by decide +kernel
theorem dX3_compare_37 : decode cX3_compare 37 = .ok (.ireturn, 1) := by decide +kernel
set_option maxRecDepth 20000 in
theorem ggX3_isSame_X3_isSlot : GoodIn wsX3_isSame wsX3_isSlot := goodIn_r _ [4, 5, 6, 3, 7] (by decide +kernel) (by decide +kernel)
set_option maxRecDepth 20000 in
theorem gX3_isSame_X3_isSlot : GoodIn wsX3_isSame (va_wsS RX3 108 yX3_isSlot wsX3_isSlot) := goodIn_app (goodIn_of _ (by decide +kernel)) ggX3_isSame_X3_isSlot
set_option maxRecDepth 20000 in
theorem ggX3_isSame_X3_no : GoodIn wsX3_isSame wsX3_no := goodIn_r _ [11, 12, 58, 59, 60, 61, 62, 63, 64, 65, 66] (by decide +kernel) (by decide +kernel)
set_option maxRecDepth 20000 in
theorem gX3_isSame_X3_no : GoodIn wsX3_isSame (wsV RX3 84 RX3 yX3_no wsX3_no) := goodIn_app (goodIn_of _ (by decide +kernel)) ggX3_isSame_X3_no
set_option maxRecDepth 20000 in
theorem ggX3_isSame_X3_order : GoodIn wsX3_isSame wsX3_order := goodIn_r _ [16, 17, 18, 19, 3, 20, 21, 22, 23, 24, 25, 26, 27, 28, 29, 30, 31, 32, 33, 34, 35, 36, 37, 38, 39, 40, 41, 42, 43, 44, 45, 46, 47, 48, 49, 50, 51, 52, 53, 54, 55, 56, 57, 58, 59, 60, 61, 62, 63, 64, 65, 66] (by decide +kernel) (by decide +kernel)
set_option maxRecDepth 20000 in
theorem gX3_isSame_X3_order : GoodIn wsX3_isSame (wsV RX3 116 RX3 yX3_order wsX3_order) := goodIn_app (goodIn_of _ (by decide +kernel)) ggX3_isSame_X3_order
theorem dX3_isSame_0 : decode cX3_isSame 0 = .ok (.aload_n 0, 1) := by decide +kernel
theorem dX3_isSame_1 : decode cX3_isSame 1 = .ok (.iload_n 1, 1) := by decide +kernel
theorem dX3_isSame_2 : decode cX3_isSame 2 = .ok (.invokestatic 108, 3) := by decide +kernel
theorem dX3_isSame_5 : decode cX3_isSame 5 = .ok (.ifCond .eq 14, 3) := by decide +kernel
theorem dX3_isSame_8 : decode cX3_isSame 8 = .ok (.iload_n 2, 1) := by decide +kernel
theorem dX3_isSame_9 : decode cX3_isSame 9 = .ok (.invokestatic 108, 3) := by decide +kernel
theorem dX3_isSame_12 : decode cX3_isSame 12 = .ok (.ifCond .eq 7, 3) := by decide +kernel
theorem dX3_isSame_15 : decode cX3_isSame 15 = .ok (.iconst 1, 1) := by decide +kernel
theorem dX3_isSame_16 : decode cX3_isSame 16 = .ok (.goto 4, 3) := by decide +kernel
theorem dX3_isSame_19 : decode cX3_isSame 19 = .ok (.iconst 0, 1) := by decide +kernel
theorem dX3_isSame_20 : decode cX3_isSame 20 = .ok (.iconst 1, 1) := by decide +kernel
theorem dX3_isSame_21 : decode cX3_isSame 21 = .ok (.invokevirtual 84, 3) := by decide +kernel
theorem dX3_isSame_24 : decode cX3_isSame 24 = .ok (.ifCond .ne 16, 3) := by decide +kernel
theorem dX3_isSame_27 : decode cX3_isSame 27 = .ok (.aload_n 0, 1) := by decide +kernel
theorem dX3_isSame_28 : decode cX3_isSame 28 = .ok (.iload_n 1, 1) := by decide +kernel
theorem dX3_isSame_29 : decode cX3_isSame 29 = .ok (.iload_n 2, 1) := by decide +kernel
theorem dX3_isSame_30 : decode cX3_isSame 30 = .ok (.invokevirtual 116, 3) := by decide +kernel
theorem dX3_isSame_33 : decode cX3_isSame 33 = .ok (.ifCond .ne 7, 3) := by decide +kernel
theorem dX3_isSame_36 : decode cX3_isSame 36 = .ok (.iconst 1, 1) := by decide +kernel
theorem dX3_isSame_37 : decode cX3_isSame 37 = .ok (.goto 4, 3) := by decide +kernel
theorem dX3_isSame_40 : decode cX3_isSame 40 = .ok (.iconst 0, 1) := by decide +kernel
theorem dX3_isSame_41 : decode cX3_isSame 41 = .ok (.ireturn, 1) := by decide +kernel
set_option maxRecDepth 20000 in
theorem ggX3_apart_X3_isSlot : GoodIn wsX3_apart wsX3_isSlot := goodIn_r _ [4, 5, 6, 3, 7] (by decide +kernel) (by decide +kernel)
set_option maxRecDepth 20000 in
theorem gX3_apart_X3_isSlot : GoodIn wsX3_apart (va_wsS RX3 108 yX3_isSlot wsX3_isSlot) := goodIn_app (goodIn_of _ (by decide +kernel)) ggX3_apart_X3_isSlot
set_option maxRecDepth 20000 in
theorem ggX3_apart_X3_no : GoodIn wsX3_apart wsX3_no := goodIn_r _ [11, 12, 54, 55, 56, 57, 58, 59, 60, 61, 62] (by decide +kernel) (by decide +kernel)
set_option maxRecDepth 20000 in
theorem gX3_apart_X3_no : GoodIn wsX3_apart (wsV RX3 84 RX3 yX3_no wsX3_no) := goodIn_app (goodIn_of _ (by decide +kernel)) ggX3_apart_X3_no
set_option maxRecDepth 20000 in
theorem ggX3_apart_X3_look_ : GoodIn wsX3_apart wsX3_look_ := goodIn_r _ [16, 17, 18, 19, 20, 21, 3, 22, 23, 24, 25, 26, 27, 28, 29, 30, 31, 32, 54, 55, 56, 57, 58, 59, 60, 61, 62] (by decide +kernel) (by decide +kernel)
set_option maxRecDepth 20000 in
theorem gX3_apart_X3_look_ : GoodIn wsX3_apart (wsV RX3 73 RX3 yX3_look_ wsX3_look_) := goodIn_app (goodIn_of _ (by decide +kernel)) ggX3_apart_X3_look_
set_option maxRecDepth 20000 in
theorem ggX3_apart_X3_judged : GoodIn wsX3_apart wsX3_judged := goodIn_r _ [36, 37, 24, 38, 39, 40, 3, 41, 42, 43, 44, 45, 23, 25, 30, 31, 32, 46, 47, 48, 49, 26, 50, 51, 52, 53, 54, 55, 56, 57, 58, 59, 60, 61, 62] (by decide +kernel) (by decide +kernel)
set_option maxRecDepth 20000 in
theorem gX3_apart_X3_judged : GoodIn wsX3_apart (wsV RX3 76 RX3 yX3_judged wsX3_judged) := goodIn_app (goodIn_of _ (by decide +kernel)) ggX3_apart_X3_judged
theorem dX3_apart_0 : decode cX3_apart 0 = .ok (.aload_n 0, 1) := by decide +kernel
theorem dX3_apart_1 : decode cX3_apart 1 = .ok (.iload_n 1, 1) := by decide +kernel
theorem dX3_apart_2 : decode cX3_apart 2 = .ok (.invokestatic 108, 3) := by decide +kernel
theorem dX3_apart_5 : decode cX3_apart 5 = .ok (.ifCond .eq 14, 3) := by decide +kernel
theorem dX3_apart_8 : decode cX3_apart 8 = .ok (.iload_n 2, 1) := by decide +kernel
theorem dX3_apart_9 : decode cX3_apart 9 = .ok (.invokestatic 108, 3) := by decide +kernel
theorem dX3_apart_12 : decode cX3_apart 12 = .ok (.ifCond .eq 7, 3) := by decide +kernel
theorem dX3_apart_15 : decode cX3_apart 15 = .ok (.iconst 1, 1) := by decide +kernel
theorem dX3_apart_16 : decode cX3_apart 16 = .ok (.goto 4, 3) := by decide +kernel
theorem dX3_apart_19 : decode cX3_apart 19 = .ok (.iconst 0, 1) := by decide +kernel
theorem dX3_apart_20 : decode cX3_apart 20 = .ok (.iconst 1, 1) := by decide +kernel
theorem dX3_apart_21 : decode cX3_apart 21 = .ok (.invokevirtual 84, 3) := by decide +kernel
theorem dX3_apart_24 : decode cX3_apart 24 = .ok (.ifCond .eq 5, 3) := by decide +kernel
theorem dX3_apart_27 : decode cX3_apart 27 = .ok (.iconst 0, 1) := by decide +kernel
theorem dX3_apart_28 : decode cX3_apart 28 = .ok (.ireturn, 1) := by decide +kernel
theorem dX3_apart_29 : decode cX3_apart 29 = .ok (.aload_n 0, 1) := by decide +kernel
theorem dX3_apart_30 : decode cX3_apart 30 = .ok (.iconst 0, 1) := by decide +kernel
theorem dX3_apart_31 : decode cX3_apart 31 = .ok (.iload_n 1, 1) := by decide +kernel
theorem dX3_apart_32 : decode cX3_apart 32 = .ok (.invokevirtual 73, 3) := by decide +kernel
theorem dX3_apart_35 : decode cX3_apart 35 = .ok (.aload_n 0, 1) := by decide +kernel
theorem dX3_apart_36 : decode cX3_apart 36 = .ok (.iconst 1, 1) := by decide +kernel
theorem dX3_apart_37 : decode cX3_apart 37 = .ok (.iload_n 2, 1) := by decide +kernel
theorem dX3_apart_38 : decode cX3_apart 38 = .ok (.invokevirtual 73, 3) := by decide +kernel
theorem dX3_apart_41 : decode cX3_apart 41 = .ok (.aload_n 0, 1) := by decide +kernel
theorem dX3_apart_42 : decode cX3_apart 42 = .ok (.invokevirtual 76, 3) := by decide +kernel
theorem dX3_apart_45 : decode cX3_apart 45 = .ok (.iconst 1, 1) := by decide +kernel
theorem dX3_apart_46 : decode cX3_apart 46 = .ok (.iaload, 1) := by decide +kernel
theorem dX3_apart_47 : decode cX3_apart 47 = .ok (.ireturn, 1) := by decide +kernel
set_option maxRecDepth 20000 in
theorem ggX3_rank_X3_isSlot : GoodIn wsX3_rank wsX3_isSlot := goodIn_r _ [4, 5, 6, 3, 7] (by decide +kernel) (by decide +kernel)
set_option maxRecDepth 20000 in
theorem gX3_rank_X3_isSlot : GoodIn wsX3_rank (va_wsS RX3 108 yX3_isSlot wsX3_isSlot) := goodIn_app (goodIn_of _ (by decide +kernel)) ggX3_rank_X3_isSlot
set_option maxRecDepth 20000 in
theorem ggX3_rank_X3_no : GoodIn wsX3_rank wsX3_no := goodIn_r _ [11, 12, 58, 59, 60, 61, 62, 63, 64, 65, 66] (by decide +kernel) (by decide +kernel)
set_option maxRecDepth 20000 in
theorem gX3_rank_X3_no : GoodIn wsX3_rank (wsV RX3 84 RX3 yX3_no wsX3_no) := goodIn_app (goodIn_of _ (by decide +kernel)) ggX3_rank_X3_no
set_option maxRecDepth 20000 in
theorem ggX3_rank_X3_order : GoodIn wsX3_rank wsX3_order := goodIn_r _ [16, 17, 18, 19, 3, 20, 21, 22, 23, 24, 25, 26, 27, 28, 29, 30, 31, 32, 33, 34, 35, 36, 37, 38, 39, 40, 41, 42, 43, 44, 45, 46, 47, 48, 49, 50, 51, 52, 53, 54, 55, 56, 57, 58, 59, 60, 61, 62, 63, 64, 65, 66] (by decide +kernel) (by decide +kernel)
set_option maxRecDepth 20000 in
theorem gX3_rank_X3_order : GoodIn wsX3_rank (wsV RX3 116 RX3 yX3_order wsX3_order) := goodIn_app (goodIn_of _ (by decide +kernel)) ggX3_rank_X3_order
theorem dX3_rank_0 : decode cX3_rank 0 = .ok (.aload_n 0, 1) := by decide +kernel
theorem dX3_rank_1 : decode cX3_rank 1 = .ok (.iload_n 1, 1) := by decide +kernel
theorem dX3_rank_2 : decode cX3_rank 2 = .ok (.invokestatic 108, 3) := by decide +kernel
theorem dX3_rank_5 : decode cX3_rank 5 = .ok (.iconst 1, 1) := by decide +kernel
theorem dX3_rank_6 : decode cX3_rank 6 = .ok (.invokevirtual 84, 3) := by decide +kernel
theorem dX3_rank_9 : decode cX3_rank 9 = .ok (.ifCond .eq 5, 3) := by decide +kernel
theorem dX3_rank_12 : decode cX3_rank 12 = .ok (.iconst 0, 1) := by decide +kernel
theorem dX3_rank_13 : decode cX3_rank 13 = .ok (.ireturn, 1) := by decide +kernel
theorem dX3_rank_14 : decode cX3_rank 14 = .ok (.iconst 0, 1) := by decide +kernel
theorem dX3_rank_15 : decode cX3_rank 15 = .ok (.istore_n 2, 1) := by decide +kernel
theorem dX3_rank_16 : decode cX3_rank 16 = .ok (.iconst 0, 1) := by decide +kernel
theorem dX3_rank_17 : decode cX3_rank 17 = .ok (.istore_n 3, 1) := by decide +kernel
theorem dX3_rank_18 : decode cX3_rank 18 = .ok (.iload_n 3, 1) := by decide +kernel
theorem dX3_rank_19 : decode cX3_rank 19 = .ok (.bipush 8, 2) := by decide +kernel
theorem dX3_rank_21 : decode cX3_rank 21 = .ok (.if_icmp .ge 26, 3) := by decide +kernel
theorem dX3_rank_24 : decode cX3_rank 24 = .ok (.iload_n 2, 1) := by decide +kernel
theorem dX3_rank_25 : decode cX3_rank 25 = .ok (.aload_n 0, 1) := by decide +kernel
theorem dX3_rank_26 : decode cX3_rank 26 = .ok (.iload_n 3, 1) := by decide +kernel
theorem dX3_rank_27 : decode cX3_rank 27 = .ok (.iload_n 1, 1) := by decide +kernel
theorem dX3_rank_28 : decode cX3_rank 28 = .ok (.invokevirtual 116, 3) := by decide +kernel
theorem dX3_rank_31 : decode cX3_rank 31 = .ok (.ifCond .ge 7, 3) := by decide +kernel
theorem dX3_rank_34 : decode cX3_rank 34 = .ok (.iconst 1, 1) := by decide +kernel
theorem dX3_rank_35 : decode cX3_rank 35 = .ok (.goto 4, 3) := by decide +kernel
theorem dX3_rank_38 : decode cX3_rank 38 = .ok (.iconst 0, 1) := by decide +kernel
theorem dX3_rank_39 : decode cX3_rank 39 = .ok (.iadd, 1) := by decide +kernel
theorem dX3_rank_40 : decode cX3_rank 40 = .ok (.istore_n 2, 1) := by decide +kernel
theorem dX3_rank_41 : decode cX3_rank 41 = .ok (.iinc 3 1, 3) := by decide +kernel
theorem dX3_rank_44 : decode cX3_rank 44 = .ok (.goto (-26), 3) := by decide +kernel
theorem dX3_rank_47 : decode cX3_rank 47 = .ok (.iload_n 2, 1) := by decide +kernel
theorem dX3_rank_48 : decode cX3_rank 48 = .ok (.ireturn, 1) := by decide +kernel
set_option maxRecDepth 20000 in
theorem ggX3_place_X3_order : GoodIn wsX3_place wsX3_order := goodIn_r _ [5, 6, 7, 8, 4, 9, 10, 11, 12, 13, 14, 15, 16, 17, 18, 19, 20, 21, 22, 23, 24, 25, 26, 27, 28, 29, 30, 31, 32, 33, 34, 35, 36, 37, 38, 39, 40, 41, 42, 43, 44, 45, 46, 47, 48, 49, 50, 51, 52, 53, 54, 55] (by decide +kernel) (by decide +kernel)
set_option maxRecDepth 20000 in
theorem gX3_place_X3_order : GoodIn wsX3_place (wsV RX3 116 RX3 yX3_order wsX3_order) := goodIn_app (goodIn_of _ (by decide +kernel)) ggX3_place_X3_order
theorem dX3_place_0 : decode cX3_place 0 = .ok (.iconst 0, 1) := by decide +kernel
theorem dX3_place_1 : decode cX3_place 1 = .ok (.istore_n 2, 1) := by decide +kernel
theorem dX3_place_2 : decode cX3_place 2 = .ok (.iconst 0, 1) := by decide +kernel
theorem dX3_place_3 : decode cX3_place 3 = .ok (.istore_n 3, 1) := by decide +kernel
theorem dX3_place_4 : decode cX3_place 4 = .ok (.iload_n 3, 1) := by decide +kernel
theorem dX3_place_5 : decode cX3_place 5 = .ok (.bipush 8, 2) := by decide +kernel
theorem dX3_place_7 : decode cX3_place 7 = .ok (.if_icmp .ge 40, 3) := by decide +kernel
theorem dX3_place_10 : decode cX3_place 10 = .ok (.aload_n 0, 1) := by decide +kernel
theorem dX3_place_11 : decode cX3_place 11 = .ok (.iload_n 3, 1) := by decide +kernel
theorem dX3_place_12 : decode cX3_place 12 = .ok (.iload_n 1, 1) := by decide +kernel
theorem dX3_place_13 : decode cX3_place 13 = .ok (.invokevirtual 116, 3) := by decide +kernel
theorem dX3_place_16 : decode cX3_place 16 = .ok (.istore 4, 2) := by decide +kernel
theorem dX3_place_18 : decode cX3_place 18 = .ok (.iload_n 2, 1) := by decide +kernel
theorem dX3_place_19 : decode cX3_place 19 = .ok (.iload 4, 2) := by decide +kernel
theorem dX3_place_21 : decode cX3_place 21 = .ok (.ifCond .lt 13, 3) := by decide +kernel
theorem dX3_place_24 : decode cX3_place 24 = .ok (.iload 4, 2) := by decide +kernel
theorem dX3_place_26 : decode cX3_place 26 = .ok (.ifCond .ne 12, 3) := by decide +kernel
theorem dX3_place_29 : decode cX3_place 29 = .ok (.iload_n 3, 1) := by decide +kernel
theorem dX3_place_30 : decode cX3_place 30 = .ok (.iload_n 1, 1) := by decide +kernel
theorem dX3_place_31 : decode cX3_place 31 = .ok (.if_icmp .ge 7, 3) := by decide +kernel
theorem dX3_place_34 : decode cX3_place 34 = .ok (.iconst 1, 1) := by decide +kernel
theorem dX3_place_35 : decode cX3_place 35 = .ok (.goto 4, 3) := by decide +kernel
theorem dX3_place_38 : decode cX3_place 38 = .ok (.iconst 0, 1) := by decide +kernel
theorem dX3_place_39 : decode cX3_place 39 = .ok (.iadd, 1) := by decide +kernel
theorem dX3_place_40 : decode cX3_place 40 = .ok (.istore_n 2, 1) := by decide +kernel
theorem dX3_place_41 : decode cX3_place 41 = .ok (.iinc 3 1, 3) := by decide +kernel
theorem dX3_place_44 : decode cX3_place 44 = .ok (.goto (-40), 3) := by decide +kernel
theorem dX3_place_47 : decode cX3_place 47 = .ok (.iload_n 2, 1) := by decide +kernel
theorem dX3_place_48 : decode cX3_place 48 = .ok (.ireturn, 1) := by decide +kernel
set_option maxRecDepth 20000 in
theorem ggX3_at_X3_isSlot : GoodIn wsX3_at wsX3_isSlot := goodIn_r _ [4, 5, 6, 3, 7] (by decide +kernel) (by decide +kernel)
set_option maxRecDepth 20000 in
theorem gX3_at_X3_isSlot : GoodIn wsX3_at (va_wsS RX3 108 yX3_isSlot wsX3_isSlot) := goodIn_app (goodIn_of _ (by decide +kernel)) ggX3_at_X3_isSlot
set_option maxRecDepth 20000 in
theorem ggX3_at_X3_no : GoodIn wsX3_at wsX3_no := goodIn_r _ [11, 12, 62, 63, 64, 65, 66, 67, 68, 69, 70] (by decide +kernel) (by decide +kernel)
set_option maxRecDepth 20000 in
theorem gX3_at_X3_no : GoodIn wsX3_at (wsV RX3 84 RX3 yX3_no wsX3_no) := goodIn_app (goodIn_of _ (by decide +kernel)) ggX3_at_X3_no
set_option maxRecDepth 20000 in
theorem ggX3_at_X3_place : GoodIn wsX3_at wsX3_place := goodIn_r _ [16, 17, 18, 19, 3, 20, 21, 22, 23, 24, 25, 26, 27, 28, 29, 30, 31, 32, 33, 34, 35, 36, 37, 38, 39, 40, 41, 42, 43, 44, 45, 46, 47, 48, 49, 50, 51, 52, 53, 54, 55, 56, 57, 58, 59, 60, 61, 62, 63, 64, 65, 66, 67, 68, 69, 70] (by decide +kernel) (by decide +kernel)
set_option maxRecDepth 20000 in
theorem gX3_at_X3_place : GoodIn wsX3_at (wsV RX3 119 RX3 yX3_place wsX3_place) := goodIn_app (goodIn_of _ (by decide +kernel)) ggX3_at_X3_place
theorem dX3_at_0 : decode cX3_at 0 = .ok (.aload_n 0, 1) := by decide +kernel
theorem dX3_at_1 : decode cX3_at 1 = .ok (.iload_n 1, 1) := by decide +kernel
theorem dX3_at_2 : decode cX3_at 2 = .ok (.invokestatic 108, 3) := by decide +kernel
theorem dX3_at_5 : decode cX3_at 5 = .ok (.iconst 1, 1) := by decide +kernel
theorem dX3_at_6 : decode cX3_at 6 = .ok (.invokevirtual 84, 3) := by decide +kernel
theorem dX3_at_9 : decode cX3_at 9 = .ok (.ifCond .eq 5, 3) := by decide +kernel
theorem dX3_at_12 : decode cX3_at 12 = .ok (.iconst 0, 1) := by decide +kernel
theorem dX3_at_13 : decode cX3_at 13 = .ok (.ireturn, 1) := by decide +kernel
theorem dX3_at_14 : decode cX3_at 14 = .ok (.iconst 0, 1) := by decide +kernel
theorem dX3_at_15 : decode cX3_at 15 = .ok (.istore_n 2, 1) := by decide +kernel
theorem dX3_at_16 : decode cX3_at 16 = .ok (.aload_n 0, 1) := by decide +kernel
theorem dX3_at_17 : decode cX3_at 17 = .ok (.iload_n 2, 1) := by decide +kernel
theorem dX3_at_18 : decode cX3_at 18 = .ok (.invokevirtual 119, 3) := by decide +kernel
theorem dX3_at_21 : decode cX3_at 21 = .ok (.iload_n 1, 1) := by decide +kernel
theorem dX3_at_22 : decode cX3_at 22 = .ok (.if_icmp .eq 9, 3) := by decide +kernel
theorem dX3_at_25 : decode cX3_at 25 = .ok (.iinc 2 1, 3) := by decide +kernel
theorem dX3_at_28 : decode cX3_at 28 = .ok (.goto (-12), 3) := by decide +kernel
theorem dX3_at_31 : decode cX3_at 31 = .ok (.iload_n 2, 1) := by decide +kernel
theorem dX3_at_32 : decode cX3_at 32 = .ok (.ireturn, 1) := by decide +kernel
set_option maxRecDepth 20000 in
theorem ggX3_sort_X3_place : GoodIn wsX3_sort wsX3_place := goodIn_r _ [10, 11, 12, 13, 9, 14, 15, 16, 17, 18, 4, 5, 19, 20, 21, 22, 23, 24, 25, 26, 27, 28, 29, 30, 31, 32, 33, 34, 35, 36, 3, 37, 38, 39, 40, 41, 42, 43, 44, 45, 46, 47, 48, 49, 50, 51, 52, 53, 54, 55, 56, 57, 58, 59, 60, 61] (by decide +kernel) (by decide +kernel)
set_option maxRecDepth 20000 in
theorem gX3_sort_X3_place : GoodIn wsX3_sort (wsV RX3 119 RX3 yX3_place wsX3_place) := goodIn_app (goodIn_of _ (by decide +kernel)) ggX3_sort_X3_place
theorem dX3_sort_0 : decode cX3_sort 0 = .ok (.aload_n 0, 1) := by decide +kernel
theorem dX3_sort_1 : decode cX3_sort 1 = .ok (.iconst 0, 1) := by decide +kernel
theorem dX3_sort_2 : decode cX3_sort 2 = .ok (.putfield 39, 3) := by decide +kernel
theorem dX3_sort_5 : decode cX3_sort 5 = .ok (.bipush 8, 2) := by decide +kernel
theorem dX3_sort_7 : decode cX3_sort 7 = .ok (.anewarray 22, 3) := by decide +kernel
theorem dX3_sort_10 : decode cX3_sort 10 = .ok (.astore_n 1, 1) := by decide +kernel
theorem dX3_sort_11 : decode cX3_sort 11 = .ok (.bipush 8, 2) := by decide +kernel
theorem dX3_sort_13 : decode cX3_sort 13 = .ok (.newarray .int, 2) := by decide +kernel
theorem dX3_sort_15 : decode cX3_sort 15 = .ok (.astore_n 2, 1) := by decide +kernel
theorem dX3_sort_16 : decode cX3_sort 16 = .ok (.iconst 0, 1) := by decide +kernel
theorem dX3_sort_17 : decode cX3_sort 17 = .ok (.istore_n 3, 1) := by decide +kernel
theorem dX3_sort_18 : decode cX3_sort 18 = .ok (.iconst 0, 1) := by decide +kernel
theorem dX3_sort_19 : decode cX3_sort 19 = .ok (.istore 4, 2) := by decide +kernel
theorem dX3_sort_21 : decode cX3_sort 21 = .ok (.iload 4, 2) := by decide +kernel
theorem dX3_sort_23 : decode cX3_sort 23 = .ok (.bipush 8, 2) := by decide +kernel
theorem dX3_sort_25 : decode cX3_sort 25 = .ok (.if_icmp .ge 54, 3) := by decide +kernel
theorem dX3_sort_28 : decode cX3_sort 28 = .ok (.aload_n 0, 1) := by decide +kernel
theorem dX3_sort_29 : decode cX3_sort 29 = .ok (.iload 4, 2) := by decide +kernel
theorem dX3_sort_31 : decode cX3_sort 31 = .ok (.invokevirtual 119, 3) := by decide +kernel
theorem dX3_sort_34 : decode cX3_sort 34 = .ok (.istore 5, 2) := by decide +kernel
theorem dX3_sort_36 : decode cX3_sort 36 = .ok (.aload_n 1, 1) := by decide +kernel
theorem dX3_sort_37 : decode cX3_sort 37 = .ok (.iload 5, 2) := by decide +kernel
theorem dX3_sort_39 : decode cX3_sort 39 = .ok (.aload_n 0, 1) := by decide +kernel
theorem dX3_sort_40 : decode cX3_sort 40 = .ok (.getfield 15, 3) := by decide +kernel
theorem dX3_sort_43 : decode cX3_sort 43 = .ok (.iload 4, 2) := by decide +kernel
theorem dX3_sort_45 : decode cX3_sort 45 = .ok (.aaload, 1) := by decide +kernel
theorem dX3_sort_46 : decode cX3_sort 46 = .ok (.aastore, 1) := by decide +kernel
theorem dX3_sort_47 : decode cX3_sort 47 = .ok (.aload_n 2, 1) := by decide +kernel
theorem dX3_sort_48 : decode cX3_sort 48 = .ok (.iload 5, 2) := by decide +kernel
theorem dX3_sort_50 : decode cX3_sort 50 = .ok (.aload_n 0, 1) := by decide +kernel
theorem dX3_sort_51 : decode cX3_sort 51 = .ok (.getfield 18, 3) := by decide +kernel
theorem dX3_sort_54 : decode cX3_sort 54 = .ok (.iload 4, 2) := by decide +kernel
theorem dX3_sort_56 : decode cX3_sort 56 = .ok (.iaload, 1) := by decide +kernel
theorem dX3_sort_57 : decode cX3_sort 57 = .ok (.iastore, 1) := by decide +kernel
theorem dX3_sort_58 : decode cX3_sort 58 = .ok (.iload_n 3, 1) := by decide +kernel
theorem dX3_sort_59 : decode cX3_sort 59 = .ok (.iload 5, 2) := by decide +kernel
theorem dX3_sort_61 : decode cX3_sort 61 = .ok (.iload 4, 2) := by decide +kernel
theorem dX3_sort_63 : decode cX3_sort 63 = .ok (.if_icmp .eq 7, 3) := by decide +kernel
theorem dX3_sort_66 : decode cX3_sort 66 = .ok (.iconst 1, 1) := by decide +kernel
theorem dX3_sort_67 : decode cX3_sort 67 = .ok (.goto 4, 3) := by decide +kernel
theorem dX3_sort_70 : decode cX3_sort 70 = .ok (.iconst 0, 1) := by decide +kernel
theorem dX3_sort_71 : decode cX3_sort 71 = .ok (.iadd, 1) := by decide +kernel
theorem dX3_sort_72 : decode cX3_sort 72 = .ok (.istore_n 3, 1) := by decide +kernel
theorem dX3_sort_73 : decode cX3_sort 73 = .ok (.iinc 4 1, 3) := by decide +kernel
theorem dX3_sort_76 : decode cX3_sort 76 = .ok (.goto (-55), 3) := by decide +kernel
theorem dX3_sort_79 : decode cX3_sort 79 = .ok (.iconst 0, 1) := by decide +kernel
theorem dX3_sort_80 : decode cX3_sort 80 = .ok (.istore 4, 2) := by decide +kernel
theorem dX3_sort_82 : decode cX3_sort 82 = .ok (.iload 4, 2) := by decide +kernel
theorem dX3_sort_84 : decode cX3_sort 84 = .ok (.bipush 8, 2) := by decide +kernel
theorem dX3_sort_86 : decode cX3_sort 86 = .ok (.if_icmp .ge 31, 3) := by decide +kernel
theorem dX3_sort_89 : decode cX3_sort 89 = .ok (.aload_n 0, 1) := by decide +kernel
theorem dX3_sort_90 : decode cX3_sort 90 = .ok (.getfield 15, 3) := by decide +kernel
theorem dX3_sort_93 : decode cX3_sort 93 = .ok (.iload 4, 2) := by decide +kernel
theorem dX3_sort_95 : decode cX3_sort 95 = .ok (.aload_n 1, 1) := by decide +kernel
theorem dX3_sort_96 : decode cX3_sort 96 = .ok (.iload 4, 2) := by decide +kernel
theorem dX3_sort_98 : decode cX3_sort 98 = .ok (.aaload, 1) := by decide +kernel
theorem dX3_sort_99 : decode cX3_sort 99 = .ok (.aastore, 1) := by decide +kernel
theorem dX3_sort_100 : decode cX3_sort 100 = .ok (.aload_n 0, 1) := by decide +kernel
theorem dX3_sort_101 : decode cX3_sort 101 = .ok (.getfield 18, 3) := by decide +kernel
theorem dX3_sort_104 : decode cX3_sort 104 = .ok (.iload 4, 2) := by decide +kernel
theorem dX3_sort_106 : decode cX3_sort 106 = .ok (.aload_n 2, 1) := by decide +kernel
theorem dX3_sort_107 : decode cX3_sort 107 = .ok (.iload 4, 2) := by decide +kernel
theorem dX3_sort_109 : decode cX3_sort 109 = .ok (.iaload, 1) := by decide +kernel
theorem dX3_sort_110 : decode cX3_sort 110 = .ok (.iastore, 1) := by decide +kernel
theorem dX3_sort_111 : decode cX3_sort 111 = .ok (.iinc 4 1, 3) := by decide +kernel
theorem dX3_sort_114 : decode cX3_sort 114 = .ok (.goto (-32), 3) := by decide +kernel
theorem dX3_sort_117 : decode cX3_sort 117 = .ok (.iload_n 3, 1) := by decide +kernel
theorem dX3_sort_118 : decode cX3_sort 118 = .ok (.ireturn, 1) := by decide +kernel
set_option maxRecDepth 20000 in
theorem ggX3_between_X3_isSlot : GoodIn wsX3_between wsX3_isSlot := goodIn_r _ [4, 5, 6, 3, 7] (by decide +kernel) (by decide +kernel)
set_option maxRecDepth 20000 in
theorem gX3_between_X3_isSlot : GoodIn wsX3_between (va_wsS RX3 108 yX3_isSlot wsX3_isSlot) := goodIn_app (goodIn_of _ (by decide +kernel)) ggX3_between_X3_isSlot
set_option maxRecDepth 20000 in
theorem ggX3_between_X3_no : GoodIn wsX3_between wsX3_no := goodIn_r _ [11, 12, 58, 59, 60, 61, 62, 63, 64, 65, 66] (by decide +kernel) (by decide +kernel)
set_option maxRecDepth 20000 in
theorem gX3_between_X3_no : GoodIn wsX3_between (wsV RX3 84 RX3 yX3_no wsX3_no) := goodIn_app (goodIn_of _ (by decide +kernel)) ggX3_between_X3_no
set_option maxRecDepth 20000 in
theorem ggX3_between_X3_order : GoodIn wsX3_between wsX3_order := goodIn_r _ [16, 17, 18, 19, 3, 20, 21, 22, 23, 24, 25, 26, 27, 28, 29, 30, 31, 32, 33, 34, 35, 36, 37, 38, 39, 40, 41, 42, 43, 44, 45, 46, 47, 48, 49, 50, 51, 52, 53, 54, 55, 56, 57, 58, 59, 60, 61, 62, 63, 64, 65, 66] (by decide +kernel) (by decide +kernel)
set_option maxRecDepth 20000 in
theorem gX3_between_X3_order : GoodIn wsX3_between (wsV RX3 116 RX3 yX3_order wsX3_order) := goodIn_app (goodIn_of _ (by decide +kernel)) ggX3_between_X3_order
theorem dX3_between_0 : decode cX3_between 0 = .ok (.aload_n 0, 1) := by decide +kernel
theorem dX3_between_1 : decode cX3_between 1 = .ok (.iload_n 1, 1) := by decide +kernel
theorem dX3_between_2 : decode cX3_between 2 = .ok (.invokestatic 108, 3) := by decide +kernel
theorem dX3_between_5 : decode cX3_between 5 = .ok (.ifCond .eq 14, 3) := by decide +kernel
theorem dX3_between_8 : decode cX3_between 8 = .ok (.iload_n 2, 1) := by decide +kernel
theorem dX3_between_9 : decode cX3_between 9 = .ok (.invokestatic 108, 3) := by decide +kernel
theorem dX3_between_12 : decode cX3_between 12 = .ok (.ifCond .eq 7, 3) := by decide +kernel
theorem dX3_between_15 : decode cX3_between 15 = .ok (.iconst 1, 1) := by decide +kernel
theorem dX3_between_16 : decode cX3_between 16 = .ok (.goto 4, 3) := by decide +kernel
theorem dX3_between_19 : decode cX3_between 19 = .ok (.iconst 0, 1) := by decide +kernel
theorem dX3_between_20 : decode cX3_between 20 = .ok (.iconst 1, 1) := by decide +kernel
theorem dX3_between_21 : decode cX3_between 21 = .ok (.invokevirtual 84, 3) := by decide +kernel
theorem dX3_between_24 : decode cX3_between 24 = .ok (.ifCond .eq 5, 3) := by decide +kernel
theorem dX3_between_27 : decode cX3_between 27 = .ok (.iconst 0, 1) := by decide +kernel
theorem dX3_between_28 : decode cX3_between 28 = .ok (.ireturn, 1) := by decide +kernel
theorem dX3_between_29 : decode cX3_between 29 = .ok (.iconst 0, 1) := by decide +kernel
theorem dX3_between_30 : decode cX3_between 30 = .ok (.istore_n 3, 1) := by decide +kernel
theorem dX3_between_31 : decode cX3_between 31 = .ok (.iconst 0, 1) := by decide +kernel
theorem dX3_between_32 : decode cX3_between 32 = .ok (.istore 4, 2) := by decide +kernel
theorem dX3_between_34 : decode cX3_between 34 = .ok (.iload 4, 2) := by decide +kernel
theorem dX3_between_36 : decode cX3_between 36 = .ok (.bipush 8, 2) := by decide +kernel
theorem dX3_between_38 : decode cX3_between 38 = .ok (.if_icmp .ge 37, 3) := by decide +kernel
theorem dX3_between_41 : decode cX3_between 41 = .ok (.iload_n 3, 1) := by decide +kernel
theorem dX3_between_42 : decode cX3_between 42 = .ok (.aload_n 0, 1) := by decide +kernel
theorem dX3_between_43 : decode cX3_between 43 = .ok (.iload 4, 2) := by decide +kernel
theorem dX3_between_45 : decode cX3_between 45 = .ok (.iload_n 1, 1) := by decide +kernel
theorem dX3_between_46 : decode cX3_between 46 = .ok (.invokevirtual 116, 3) := by decide +kernel
theorem dX3_between_49 : decode cX3_between 49 = .ok (.ifCond .lt 17, 3) := by decide +kernel
theorem dX3_between_52 : decode cX3_between 52 = .ok (.aload_n 0, 1) := by decide +kernel
theorem dX3_between_53 : decode cX3_between 53 = .ok (.iload 4, 2) := by decide +kernel
theorem dX3_between_55 : decode cX3_between 55 = .ok (.iload_n 2, 1) := by decide +kernel
theorem dX3_between_56 : decode cX3_between 56 = .ok (.invokevirtual 116, 3) := by decide +kernel
theorem dX3_between_59 : decode cX3_between 59 = .ok (.ifCond .ge 7, 3) := by decide +kernel
theorem dX3_between_62 : decode cX3_between 62 = .ok (.iconst 1, 1) := by decide +kernel
theorem dX3_between_63 : decode cX3_between 63 = .ok (.goto 4, 3) := by decide +kernel
theorem dX3_between_66 : decode cX3_between 66 = .ok (.iconst 0, 1) := by decide +kernel
theorem dX3_between_67 : decode cX3_between 67 = .ok (.iadd, 1) := by decide +kernel
theorem dX3_between_68 : decode cX3_between 68 = .ok (.istore_n 3, 1) := by decide +kernel
theorem dX3_between_69 : decode cX3_between 69 = .ok (.iinc 4 1, 3) := by decide +kernel
theorem dX3_between_72 : decode cX3_between 72 = .ok (.goto (-38), 3) := by decide +kernel
theorem dX3_between_75 : decode cX3_between 75 = .ok (.iload_n 3, 1) := by decide +kernel
theorem dX3_between_76 : decode cX3_between 76 = .ok (.ireturn, 1) := by decide +kernel
set_option maxRecDepth 20000 in
theorem ggX3_behind_X3_longer : GoodIn wsX3_behind wsX3_longer := goodIn_r _ [6, 7, 1, 8, 58, 59, 60, 61, 62, 63, 64, 65, 66] (by decide +kernel) (by decide +kernel)
set_option maxRecDepth 20000 in
theorem gX3_behind_X3_longer : GoodIn wsX3_behind (wsV RX3 122 RX3 yX3_longer wsX3_longer) := goodIn_app (goodIn_of _ (by decide +kernel)) ggX3_behind_X3_longer
set_option maxRecDepth 20000 in
theorem ggX3_behind_X3_digits : GoodIn wsX3_behind wsX3_digits := goodIn_r _ [11, 12, 13, 5, 14] (by decide +kernel) (by decide +kernel)
set_option maxRecDepth 20000 in
theorem gX3_behind_X3_digits : GoodIn wsX3_behind (va_wsS RX3 88 yX3_digits wsX3_digits) := goodIn_app (goodIn_of _ (by decide +kernel)) ggX3_behind_X3_digits
set_option maxRecDepth 20000 in
theorem ggX3_behind_X3_put : GoodIn wsX3_behind wsX3_put := goodIn_r _ [18, 8, 1, 19, 20, 21, 5, 22, 23, 24, 25, 26, 27, 28, 29, 30, 31, 32, 33, 34, 35, 36, 37, 38, 39, 40, 41, 42, 43, 44, 45, 46, 47, 48, 49, 50, 51, 52, 53, 54, 55, 56, 57, 58, 59, 60, 61, 62, 63, 64, 65, 66] (by decide +kernel) (by decide +kernel)
set_option maxRecDepth 20000 in
theorem gX3_behind_X3_put : GoodIn wsX3_behind (wsV RX3 126 RX3 yX3_put wsX3_put) := goodIn_app (goodIn_of _ (by decide +kernel)) ggX3_behind_X3_put
theorem dX3_behind_0 : decode cX3_behind 0 = .ok (.aload_n 0, 1) := by decide +kernel
theorem dX3_behind_1 : decode cX3_behind 1 = .ok (.iload_n 1, 1) := by decide +kernel
theorem dX3_behind_2 : decode cX3_behind 2 = .ok (.invokevirtual 122, 3) := by decide +kernel
theorem dX3_behind_5 : decode cX3_behind 5 = .ok (.astore 5, 2) := by decide +kernel
theorem dX3_behind_7 : decode cX3_behind 7 = .ok (.aload 5, 2) := by decide +kernel
theorem dX3_behind_9 : decode cX3_behind 9 = .ok (.aload_n 0, 1) := by decide +kernel
theorem dX3_behind_10 : decode cX3_behind 10 = .ok (.getfield 18, 3) := by decide +kernel
theorem dX3_behind_13 : decode cX3_behind 13 = .ok (.iload_n 1, 1) := by decide +kernel
theorem dX3_behind_14 : decode cX3_behind 14 = .ok (.iaload, 1) := by decide +kernel
theorem dX3_behind_15 : decode cX3_behind 15 = .ok (.iload_n 2, 1) := by decide +kernel
theorem dX3_behind_16 : decode cX3_behind 16 = .ok (.castore, 1) := by decide +kernel
theorem dX3_behind_17 : decode cX3_behind 17 = .ok (.aload_n 0, 1) := by decide +kernel
theorem dX3_behind_18 : decode cX3_behind 18 = .ok (.iload_n 1, 1) := by decide +kernel
theorem dX3_behind_19 : decode cX3_behind 19 = .ok (.aload 5, 2) := by decide +kernel
theorem dX3_behind_21 : decode cX3_behind 21 = .ok (.aload 5, 2) := by decide +kernel
theorem dX3_behind_23 : decode cX3_behind 23 = .ok (.aload_n 0, 1) := by decide +kernel
theorem dX3_behind_24 : decode cX3_behind 24 = .ok (.getfield 18, 3) := by decide +kernel
theorem dX3_behind_27 : decode cX3_behind 27 = .ok (.iload_n 1, 1) := by decide +kernel
theorem dX3_behind_28 : decode cX3_behind 28 = .ok (.iaload, 1) := by decide +kernel
theorem dX3_behind_29 : decode cX3_behind 29 = .ok (.iconst 1, 1) := by decide +kernel
theorem dX3_behind_30 : decode cX3_behind 30 = .ok (.iadd, 1) := by decide +kernel
theorem dX3_behind_31 : decode cX3_behind 31 = .ok (.iload_n 3, 1) := by decide +kernel
theorem dX3_behind_32 : decode cX3_behind 32 = .ok (.iconst 0, 1) := by decide +kernel
theorem dX3_behind_33 : decode cX3_behind 33 = .ok (.invokestatic 88, 3) := by decide +kernel
theorem dX3_behind_36 : decode cX3_behind 36 = .ok (.iload 4, 2) := by decide +kernel
theorem dX3_behind_38 : decode cX3_behind 38 = .ok (.invokevirtual 126, 3) := by decide +kernel
theorem dX3_behind_41 : decode cX3_behind 41 = .ok (.ireturn, 1) := by decide +kernel
theorem dX3_longer_0 : decode cX3_longer 0 = .ok (.bipush 60, 2) := by decide +kernel
theorem dX3_longer_2 : decode cX3_longer 2 = .ok (.newarray .char, 2) := by decide +kernel
theorem dX3_longer_4 : decode cX3_longer 4 = .ok (.astore_n 2, 1) := by decide +kernel
theorem dX3_longer_5 : decode cX3_longer 5 = .ok (.iconst 0, 1) := by decide +kernel
theorem dX3_longer_6 : decode cX3_longer 6 = .ok (.istore_n 3, 1) := by decide +kernel
theorem dX3_longer_7 : decode cX3_longer 7 = .ok (.iload_n 3, 1) := by decide +kernel
theorem dX3_longer_8 : decode cX3_longer 8 = .ok (.aload_n 0, 1) := by decide +kernel
theorem dX3_longer_9 : decode cX3_longer 9 = .ok (.getfield 18, 3) := by decide +kernel
theorem dX3_longer_12 : decode cX3_longer 12 = .ok (.iload_n 1, 1) := by decide +kernel
theorem dX3_longer_13 : decode cX3_longer 13 = .ok (.iaload, 1) := by decide +kernel
theorem dX3_longer_14 : decode cX3_longer 14 = .ok (.if_icmp .ge 20, 3) := by decide +kernel
theorem dX3_longer_17 : decode cX3_longer 17 = .ok (.aload_n 2, 1) := by decide +kernel
theorem dX3_longer_18 : decode cX3_longer 18 = .ok (.iload_n 3, 1) := by decide +kernel
theorem dX3_longer_19 : decode cX3_longer 19 = .ok (.aload_n 0, 1) := by decide +kernel
theorem dX3_longer_20 : decode cX3_longer 20 = .ok (.getfield 15, 3) := by decide +kernel
theorem dX3_longer_23 : decode cX3_longer 23 = .ok (.iload_n 1, 1) := by decide +kernel
theorem dX3_longer_24 : decode cX3_longer 24 = .ok (.aaload, 1) := by decide +kernel
theorem dX3_longer_25 : decode cX3_longer 25 = .ok (.iload_n 3, 1) := by decide +kernel
theorem dX3_longer_26 : decode cX3_longer 26 = .ok (.caload, 1) := by decide +kernel
theorem dX3_longer_27 : decode cX3_longer 27 = .ok (.castore, 1) := by decide +kernel
theorem dX3_longer_28 : decode cX3_longer 28 = .ok (.iinc 3 1, 3) := by decide +kernel
theorem dX3_longer_31 : decode cX3_longer 31 = .ok (.goto (-24), 3) := by decide +kernel
theorem dX3_longer_34 : decode cX3_longer 34 = .ok (.aload_n 2, 1) := by decide +kernel
theorem dX3_longer_35 : decode cX3_longer 35 = .ok (.areturn, 1) := by decide +kernel
set_option maxRecDepth 20000 in
theorem ggX3_put_X3_look : GoodIn wsX3_put wsX3_look := goodIn_r _ [7, 8, 9, 10, 11, 12, 13, 6, 14, 15, 16, 17, 43, 44, 45, 46, 47, 48, 49, 50, 51] (by decide +kernel) (by decide +kernel)
set_option maxRecDepth 20000 in
theorem gX3_put_X3_look : GoodIn wsX3_put (wsV RX3 54 RX3 yX3_look wsX3_look) := goodIn_app (goodIn_of _ (by decide +kernel)) ggX3_put_X3_look
set_option maxRecDepth 20000 in
theorem ggX3_put_X3_look_ : GoodIn wsX3_put wsX3_look_ := goodIn_r _ [21, 1, 2, 3, 4, 5, 6, 7, 8, 9, 10, 11, 12, 13, 14, 15, 16, 17, 43, 44, 45, 46, 47, 48, 49, 50, 51] (by decide +kernel) (by decide +kernel)
set_option maxRecDepth 20000 in
theorem gX3_put_X3_look_ : GoodIn wsX3_put (wsV RX3 73 RX3 yX3_look_ wsX3_look_) := goodIn_app (goodIn_of _ (by decide +kernel)) ggX3_put_X3_look_
set_option maxRecDepth 20000 in
theorem ggX3_put_X3_judged : GoodIn wsX3_put wsX3_judged := goodIn_r _ [25, 26, 9, 27, 28, 29, 6, 30, 31, 32, 33, 34, 8, 10, 15, 16, 17, 35, 36, 37, 38, 11, 39, 40, 41, 42, 43, 44, 45, 46, 47, 48, 49, 50, 51] (by decide +kernel) (by decide +kernel)
set_option maxRecDepth 20000 in
theorem gX3_put_X3_judged : GoodIn wsX3_put (wsV RX3 76 RX3 yX3_judged wsX3_judged) := goodIn_app (goodIn_of _ (by decide +kernel)) ggX3_put_X3_judged
theorem dX3_put_0 : decode cX3_put 0 = .ok (.aload_n 0, 1) := by decide +kernel
theorem dX3_put_1 : decode cX3_put 1 = .ok (.iconst 0, 1) := by decide +kernel
theorem dX3_put_2 : decode cX3_put 2 = .ok (.aload_n 2, 1) := by decide +kernel
theorem dX3_put_3 : decode cX3_put 3 = .ok (.iload_n 3, 1) := by decide +kernel
theorem dX3_put_4 : decode cX3_put 4 = .ok (.invokevirtual 54, 3) := by decide +kernel
theorem dX3_put_7 : decode cX3_put 7 = .ok (.aload_n 0, 1) := by decide +kernel
theorem dX3_put_8 : decode cX3_put 8 = .ok (.iconst 1, 1) := by decide +kernel
theorem dX3_put_9 : decode cX3_put 9 = .ok (.iload_n 1, 1) := by decide +kernel
theorem dX3_put_10 : decode cX3_put 10 = .ok (.invokevirtual 73, 3) := by decide +kernel
theorem dX3_put_13 : decode cX3_put 13 = .ok (.aload_n 0, 1) := by decide +kernel
theorem dX3_put_14 : decode cX3_put 14 = .ok (.invokevirtual 76, 3) := by decide +kernel
theorem dX3_put_17 : decode cX3_put 17 = .ok (.iconst 0, 1) := by decide +kernel
theorem dX3_put_18 : decode cX3_put 18 = .ok (.iaload, 1) := by decide +kernel
theorem dX3_put_19 : decode cX3_put 19 = .ok (.istore 5, 2) := by decide +kernel
theorem dX3_put_21 : decode cX3_put 21 = .ok (.aload_n 0, 1) := by decide +kernel
theorem dX3_put_22 : decode cX3_put 22 = .ok (.getfield 15, 3) := by decide +kernel
theorem dX3_put_25 : decode cX3_put 25 = .ok (.iload 4, 2) := by decide +kernel
theorem dX3_put_27 : decode cX3_put 27 = .ok (.aload_n 2, 1) := by decide +kernel
theorem dX3_put_28 : decode cX3_put 28 = .ok (.aastore, 1) := by decide +kernel
theorem dX3_put_29 : decode cX3_put 29 = .ok (.aload_n 0, 1) := by decide +kernel
theorem dX3_put_30 : decode cX3_put 30 = .ok (.getfield 18, 3) := by decide +kernel
theorem dX3_put_33 : decode cX3_put 33 = .ok (.iload 4, 2) := by decide +kernel
theorem dX3_put_35 : decode cX3_put 35 = .ok (.iload_n 3, 1) := by decide +kernel
theorem dX3_put_36 : decode cX3_put 36 = .ok (.iastore, 1) := by decide +kernel
theorem dX3_put_37 : decode cX3_put 37 = .ok (.iload 5, 2) := by decide +kernel
theorem dX3_put_39 : decode cX3_put 39 = .ok (.ireturn, 1) := by decide +kernel
set_option maxRecDepth 20000 in
theorem ggX3_hasRoom_X3_length : GoodIn wsX3_hasRoom wsX3_length := goodIn_r _ [5] (by decide +kernel) (by decide +kernel)
set_option maxRecDepth 20000 in
theorem gX3_hasRoom_X3_length : GoodIn wsX3_hasRoom (va_wsS RX3 80 yX3_length wsX3_length) := goodIn_app (goodIn_of _ (by decide +kernel)) ggX3_hasRoom_X3_length
theorem dX3_hasRoom_0 : decode cX3_hasRoom 0 = .ok (.aload_n 0, 1) := by decide +kernel
theorem dX3_hasRoom_1 : decode cX3_hasRoom 1 = .ok (.getfield 18, 3) := by decide +kernel
theorem dX3_hasRoom_4 : decode cX3_hasRoom 4 = .ok (.iload_n 1, 1) := by decide +kernel
theorem dX3_hasRoom_5 : decode cX3_hasRoom 5 = .ok (.iaload, 1) := by decide +kernel
theorem dX3_hasRoom_6 : decode cX3_hasRoom 6 = .ok (.iconst 1, 1) := by decide +kernel
theorem dX3_hasRoom_7 : decode cX3_hasRoom 7 = .ok (.iadd, 1) := by decide +kernel
theorem dX3_hasRoom_8 : decode cX3_hasRoom 8 = .ok (.iload_n 2, 1) := by decide +kernel
theorem dX3_hasRoom_9 : decode cX3_hasRoom 9 = .ok (.invokestatic 80, 3) := by decide +kernel
theorem dX3_hasRoom_12 : decode cX3_hasRoom 12 = .ok (.iadd, 1) := by decide +kernel
theorem dX3_hasRoom_13 : decode cX3_hasRoom 13 = .ok (.bipush 60, 2) := by decide +kernel
theorem dX3_hasRoom_15 : decode cX3_hasRoom 15 = .ok (.if_icmp .gt 7, 3) := by decide +kernel
theorem dX3_hasRoom_18 : decode cX3_hasRoom 18 = .ok (.iconst 1, 1) := by decide +kernel
theorem dX3_hasRoom_19 : decode cX3_hasRoom 19 = .ok (.goto 4, 3) := by decide +kernel
theorem dX3_hasRoom_22 : decode cX3_hasRoom 22 = .ok (.iconst 0, 1) := by decide +kernel
theorem dX3_hasRoom_23 : decode cX3_hasRoom 23 = .ok (.ireturn, 1) := by decide +kernel
set_option maxRecDepth 20000 in
theorem ggX3_zero_X3_isSlot : GoodIn wsX3_zero wsX3_isSlot := goodIn_r _ [4, 5, 6, 3, 7] (by decide +kernel) (by decide +kernel)
set_option maxRecDepth 20000 in
theorem gX3_zero_X3_isSlot : GoodIn wsX3_zero (va_wsS RX3 108 yX3_isSlot wsX3_isSlot) := goodIn_app (goodIn_of _ (by decide +kernel)) ggX3_zero_X3_isSlot
set_option maxRecDepth 20000 in
theorem ggX3_zero_X3_no : GoodIn wsX3_zero wsX3_no := goodIn_r _ [11, 12, 77, 78, 79, 80, 81, 82, 83, 84, 85] (by decide +kernel) (by decide +kernel)
set_option maxRecDepth 20000 in
theorem gX3_zero_X3_no : GoodIn wsX3_zero (wsV RX3 84 RX3 yX3_no wsX3_no) := goodIn_app (goodIn_of _ (by decide +kernel)) ggX3_zero_X3_no
set_option maxRecDepth 20000 in
theorem ggX3_zero_X3_hasRoom : GoodIn wsX3_zero wsX3_hasRoom := goodIn_r _ [16, 17, 18, 19, 3, 20, 77, 78, 79, 80, 81, 82, 83, 84, 85] (by decide +kernel) (by decide +kernel)
set_option maxRecDepth 20000 in
theorem gX3_zero_X3_hasRoom : GoodIn wsX3_zero (wsV RX3 130 RX3 yX3_hasRoom wsX3_hasRoom) := goodIn_app (goodIn_of _ (by decide +kernel)) ggX3_zero_X3_hasRoom
set_option maxRecDepth 20000 in
theorem ggX3_zero_X3_behind : GoodIn wsX3_zero wsX3_behind := goodIn_r _ [24, 17, 25, 26, 27, 3, 28, 29, 30, 31, 32, 33, 18, 19, 20, 34, 35, 36, 37, 38, 39, 40, 41, 42, 43, 44, 45, 46, 47, 48, 49, 50, 51, 52, 53, 54, 55, 56, 57, 58, 59, 60, 61, 62, 63, 64, 65, 66, 67, 68, 69, 70, 71, 72, 73, 74, 75, 76, 77, 78, 79, 80, 81, 82, 83, 84, 85] (by decide +kernel) (by decide +kernel)
set_option maxRecDepth 20000 in
theorem gX3_zero_X3_behind : GoodIn wsX3_zero (wsV RX3 134 RX3 yX3_behind wsX3_behind) := goodIn_app (goodIn_of _ (by decide +kernel)) ggX3_zero_X3_behind
theorem dX3_zero_0 : decode cX3_zero 0 = .ok (.aload_n 0, 1) := by decide +kernel
theorem dX3_zero_1 : decode cX3_zero 1 = .ok (.iload_n 1, 1) := by decide +kernel
theorem dX3_zero_2 : decode cX3_zero 2 = .ok (.invokestatic 108, 3) := by decide +kernel
theorem dX3_zero_5 : decode cX3_zero 5 = .ok (.ifCond .eq 14, 3) := by decide +kernel
theorem dX3_zero_8 : decode cX3_zero 8 = .ok (.iload_n 2, 1) := by decide +kernel
theorem dX3_zero_9 : decode cX3_zero 9 = .ok (.invokestatic 108, 3) := by decide +kernel
theorem dX3_zero_12 : decode cX3_zero 12 = .ok (.ifCond .eq 7, 3) := by decide +kernel
theorem dX3_zero_15 : decode cX3_zero 15 = .ok (.iconst 1, 1) := by decide +kernel
theorem dX3_zero_16 : decode cX3_zero 16 = .ok (.goto 4, 3) := by decide +kernel
theorem dX3_zero_19 : decode cX3_zero 19 = .ok (.iconst 0, 1) := by decide +kernel
theorem dX3_zero_20 : decode cX3_zero 20 = .ok (.iconst 1, 1) := by decide +kernel
theorem dX3_zero_21 : decode cX3_zero 21 = .ok (.invokevirtual 84, 3) := by decide +kernel
theorem dX3_zero_24 : decode cX3_zero 24 = .ok (.ifCond .ne 17, 3) := by decide +kernel
theorem dX3_zero_27 : decode cX3_zero 27 = .ok (.aload_n 0, 1) := by decide +kernel
theorem dX3_zero_28 : decode cX3_zero 28 = .ok (.aload_n 0, 1) := by decide +kernel
theorem dX3_zero_29 : decode cX3_zero 29 = .ok (.iload_n 1, 1) := by decide +kernel
theorem dX3_zero_30 : decode cX3_zero 30 = .ok (.iconst 0, 1) := by decide +kernel
theorem dX3_zero_31 : decode cX3_zero 31 = .ok (.invokevirtual 130, 3) := by decide +kernel
theorem dX3_zero_34 : decode cX3_zero 34 = .ok (.iconst 2, 1) := by decide +kernel
theorem dX3_zero_35 : decode cX3_zero 35 = .ok (.invokevirtual 84, 3) := by decide +kernel
theorem dX3_zero_38 : decode cX3_zero 38 = .ok (.ifCond .eq 5, 3) := by decide +kernel
theorem dX3_zero_41 : decode cX3_zero 41 = .ok (.iconst 0, 1) := by decide +kernel
theorem dX3_zero_42 : decode cX3_zero 42 = .ok (.ireturn, 1) := by decide +kernel
theorem dX3_zero_43 : decode cX3_zero 43 = .ok (.aload_n 0, 1) := by decide +kernel
theorem dX3_zero_44 : decode cX3_zero 44 = .ok (.iload_n 1, 1) := by decide +kernel
theorem dX3_zero_45 : decode cX3_zero 45 = .ok (.bipush 46, 2) := by decide +kernel
theorem dX3_zero_47 : decode cX3_zero 47 = .ok (.iconst 0, 1) := by decide +kernel
theorem dX3_zero_48 : decode cX3_zero 48 = .ok (.iload_n 2, 1) := by decide +kernel
theorem dX3_zero_49 : decode cX3_zero 49 = .ok (.invokevirtual 134, 3) := by decide +kernel
theorem dX3_zero_52 : decode cX3_zero 52 = .ok (.ifCond .ne 7, 3) := by decide +kernel
theorem dX3_zero_55 : decode cX3_zero 55 = .ok (.iconst 1, 1) := by decide +kernel
theorem dX3_zero_56 : decode cX3_zero 56 = .ok (.goto 4, 3) := by decide +kernel
theorem dX3_zero_59 : decode cX3_zero 59 = .ok (.iconst 0, 1) := by decide +kernel
theorem dX3_zero_60 : decode cX3_zero 60 = .ok (.ireturn, 1) := by decide +kernel
set_option maxRecDepth 20000 in
theorem ggX3_longer__X3_isSlot : GoodIn wsX3_longer_ wsX3_isSlot := goodIn_r _ [4, 5, 6, 3, 7] (by decide +kernel) (by decide +kernel)
set_option maxRecDepth 20000 in
theorem gX3_longer__X3_isSlot : GoodIn wsX3_longer_ (va_wsS RX3 108 yX3_isSlot wsX3_isSlot) := goodIn_app (goodIn_of _ (by decide +kernel)) ggX3_longer__X3_isSlot
set_option maxRecDepth 20000 in
theorem ggX3_longer__X3_no : GoodIn wsX3_longer_ wsX3_no := goodIn_r _ [11, 12, 77, 78, 79, 80, 81, 82, 83, 84, 85] (by decide +kernel) (by decide +kernel)
set_option maxRecDepth 20000 in
theorem gX3_longer__X3_no : GoodIn wsX3_longer_ (wsV RX3 84 RX3 yX3_no wsX3_no) := goodIn_app (goodIn_of _ (by decide +kernel)) ggX3_longer__X3_no
set_option maxRecDepth 20000 in
theorem ggX3_longer__X3_in : GoodIn wsX3_longer_ wsX3_in := goodIn_r _ [7] (by decide +kernel) (by decide +kernel)
set_option maxRecDepth 20000 in
theorem gX3_longer__X3_in : GoodIn wsX3_longer_ (va_wsS RX3 43 yX3_in wsX3_in) := goodIn_app (goodIn_of _ (by decide +kernel)) ggX3_longer__X3_in
set_option maxRecDepth 20000 in
theorem ggX3_longer__X3_hasRoom : GoodIn wsX3_longer_ wsX3_hasRoom := goodIn_r _ [16, 17, 18, 19, 3, 20, 77, 78, 79, 80, 81, 82, 83, 84, 85] (by decide +kernel) (by decide +kernel)
set_option maxRecDepth 20000 in
theorem gX3_longer__X3_hasRoom : GoodIn wsX3_longer_ (wsV RX3 130 RX3 yX3_hasRoom wsX3_hasRoom) := goodIn_app (goodIn_of _ (by decide +kernel)) ggX3_longer__X3_hasRoom
set_option maxRecDepth 20000 in
theorem ggX3_longer__X3_behind : GoodIn wsX3_longer_ wsX3_behind := goodIn_r _ [24, 17, 25, 26, 27, 3, 28, 29, 30, 31, 32, 33, 18, 19, 20, 34, 35, 36, 37, 38, 39, 40, 41, 42, 43, 44, 45, 46, 47, 48, 49, 50, 51, 52, 53, 54, 55, 56, 57, 58, 59, 60, 61, 62, 63, 64, 65, 66, 67, 68, 69, 70, 71, 72, 73, 74, 75, 76, 77, 78, 79, 80, 81, 82, 83, 84, 85] (by decide +kernel) (by decide +kernel)
set_option maxRecDepth 20000 in
theorem gX3_longer__X3_behind : GoodIn wsX3_longer_ (wsV RX3 134 RX3 yX3_behind wsX3_behind) := goodIn_app (goodIn_of _ (by decide +kernel)) ggX3_longer__X3_behind
theorem dX3_longer__0 : decode cX3_longer_ 0 = .ok (.aload_n 0, 1) := by decide +kernel
theorem dX3_longer__1 : decode cX3_longer_ 1 = .ok (.iload_n 1, 1) := by decide +kernel
theorem dX3_longer__2 : decode cX3_longer_ 2 = .ok (.invokestatic 108, 3) := by decide +kernel
theorem dX3_longer__5 : decode cX3_longer_ 5 = .ok (.ifCond .eq 14, 3) := by decide +kernel
theorem dX3_longer__8 : decode cX3_longer_ 8 = .ok (.iload_n 3, 1) := by decide +kernel
theorem dX3_longer__9 : decode cX3_longer_ 9 = .ok (.invokestatic 108, 3) := by decide +kernel
theorem dX3_longer__12 : decode cX3_longer_ 12 = .ok (.ifCond .eq 7, 3) := by decide +kernel
theorem dX3_longer__15 : decode cX3_longer_ 15 = .ok (.iconst 1, 1) := by decide +kernel
theorem dX3_longer__16 : decode cX3_longer_ 16 = .ok (.goto 4, 3) := by decide +kernel
theorem dX3_longer__19 : decode cX3_longer_ 19 = .ok (.iconst 0, 1) := by decide +kernel
theorem dX3_longer__20 : decode cX3_longer_ 20 = .ok (.iconst 1, 1) := by decide +kernel
theorem dX3_longer__21 : decode cX3_longer_ 21 = .ok (.invokevirtual 84, 3) := by decide +kernel
theorem dX3_longer__24 : decode cX3_longer_ 24 = .ok (.ifCond .ne 33, 3) := by decide +kernel
theorem dX3_longer__27 : decode cX3_longer_ 27 = .ok (.aload_n 0, 1) := by decide +kernel
theorem dX3_longer__28 : decode cX3_longer_ 28 = .ok (.iload_n 2, 1) := by decide +kernel
theorem dX3_longer__29 : decode cX3_longer_ 29 = .ok (.iconst 1, 1) := by decide +kernel
theorem dX3_longer__30 : decode cX3_longer_ 30 = .ok (.sipush 999, 3) := by decide +kernel
theorem dX3_longer__33 : decode cX3_longer_ 33 = .ok (.invokestatic 43, 3) := by decide +kernel
theorem dX3_longer__36 : decode cX3_longer_ 36 = .ok (.iconst 2, 1) := by decide +kernel
theorem dX3_longer__37 : decode cX3_longer_ 37 = .ok (.invokevirtual 84, 3) := by decide +kernel
theorem dX3_longer__40 : decode cX3_longer_ 40 = .ok (.ifCond .ne 17, 3) := by decide +kernel
theorem dX3_longer__43 : decode cX3_longer_ 43 = .ok (.aload_n 0, 1) := by decide +kernel
theorem dX3_longer__44 : decode cX3_longer_ 44 = .ok (.aload_n 0, 1) := by decide +kernel
theorem dX3_longer__45 : decode cX3_longer_ 45 = .ok (.iload_n 1, 1) := by decide +kernel
theorem dX3_longer__46 : decode cX3_longer_ 46 = .ok (.iload_n 2, 1) := by decide +kernel
theorem dX3_longer__47 : decode cX3_longer_ 47 = .ok (.invokevirtual 130, 3) := by decide +kernel
theorem dX3_longer__50 : decode cX3_longer_ 50 = .ok (.iconst 3, 1) := by decide +kernel
theorem dX3_longer__51 : decode cX3_longer_ 51 = .ok (.invokevirtual 84, 3) := by decide +kernel
theorem dX3_longer__54 : decode cX3_longer_ 54 = .ok (.ifCond .eq 5, 3) := by decide +kernel
theorem dX3_longer__57 : decode cX3_longer_ 57 = .ok (.iconst 0, 1) := by decide +kernel
theorem dX3_longer__58 : decode cX3_longer_ 58 = .ok (.ireturn, 1) := by decide +kernel
theorem dX3_longer__59 : decode cX3_longer_ 59 = .ok (.aload_n 0, 1) := by decide +kernel
theorem dX3_longer__60 : decode cX3_longer_ 60 = .ok (.iload_n 1, 1) := by decide +kernel
theorem dX3_longer__61 : decode cX3_longer_ 61 = .ok (.bipush 46, 2) := by decide +kernel
theorem dX3_longer__63 : decode cX3_longer_ 63 = .ok (.iload_n 2, 1) := by decide +kernel
theorem dX3_longer__64 : decode cX3_longer_ 64 = .ok (.iload_n 3, 1) := by decide +kernel
theorem dX3_longer__65 : decode cX3_longer_ 65 = .ok (.invokevirtual 134, 3) := by decide +kernel
theorem dX3_longer__68 : decode cX3_longer_ 68 = .ok (.ifCond .le 7, 3) := by decide +kernel
theorem dX3_longer__71 : decode cX3_longer_ 71 = .ok (.iconst 1, 1) := by decide +kernel
theorem dX3_longer__72 : decode cX3_longer_ 72 = .ok (.goto 4, 3) := by decide +kernel
theorem dX3_longer__75 : decode cX3_longer_ 75 = .ok (.iconst 0, 1) := by decide +kernel
theorem dX3_longer__76 : decode cX3_longer_ 76 = .ok (.ireturn, 1) := by decide +kernel
set_option maxRecDepth 20000 in
theorem ggX3_early_X3_isSlot : GoodIn wsX3_early wsX3_isSlot := goodIn_r _ [6, 7, 8, 5, 9] (by decide +kernel) (by decide +kernel)
set_option maxRecDepth 20000 in
theorem gX3_early_X3_isSlot : GoodIn wsX3_early (va_wsS RX3 108 yX3_isSlot wsX3_isSlot) := goodIn_app (goodIn_of _ (by decide +kernel)) ggX3_early_X3_isSlot
set_option maxRecDepth 20000 in
theorem ggX3_early_X3_no : GoodIn wsX3_early wsX3_no := goodIn_r _ [13, 14, 63, 64, 65, 66, 67, 68, 69, 70, 71] (by decide +kernel) (by decide +kernel)
set_option maxRecDepth 20000 in
theorem gX3_early_X3_no : GoodIn wsX3_early (wsV RX3 84 RX3 yX3_no wsX3_no) := goodIn_app (goodIn_of _ (by decide +kernel)) ggX3_early_X3_no
set_option maxRecDepth 20000 in
theorem ggX3_early_X3_look_ : GoodIn wsX3_early wsX3_look_ := goodIn_r _ [18, 19, 2, 20, 21, 22, 5, 23, 24, 1, 25, 26, 27, 28, 29, 30, 31, 32, 63, 64, 65, 66, 67, 68, 69, 70, 71] (by decide +kernel) (by decide +kernel)
set_option maxRecDepth 20000 in
theorem gX3_early_X3_look_ : GoodIn wsX3_early (wsV RX3 73 RX3 yX3_look_ wsX3_look_) := goodIn_app (goodIn_of _ (by decide +kernel)) ggX3_early_X3_look_
set_option maxRecDepth 20000 in
theorem ggX3_early_X3_longer : GoodIn wsX3_early wsX3_longer := goodIn_r _ [36, 37, 2, 19, 63, 64, 65, 66, 67, 68, 69, 70, 71] (by decide +kernel) (by decide +kernel)
set_option maxRecDepth 20000 in
theorem gX3_early_X3_longer : GoodIn wsX3_early (wsV RX3 122 RX3 yX3_longer wsX3_longer) := goodIn_app (goodIn_of _ (by decide +kernel)) ggX3_early_X3_longer
set_option maxRecDepth 20000 in
theorem ggX3_early_X3_put : GoodIn wsX3_early wsX3_put := goodIn_r _ [41, 19, 2, 20, 21, 22, 5, 23, 24, 1, 25, 26, 27, 28, 29, 30, 31, 32, 15, 16, 17, 18, 42, 43, 44, 45, 46, 47, 48, 49, 50, 51, 52, 53, 54, 55, 56, 57, 58, 59, 60, 61, 62, 63, 64, 65, 66, 67, 68, 69, 70, 71] (by decide +kernel) (by decide +kernel)
set_option maxRecDepth 20000 in
theorem gX3_early_X3_put : GoodIn wsX3_early (wsV RX3 126 RX3 yX3_put wsX3_put) := goodIn_app (goodIn_of _ (by decide +kernel)) ggX3_early_X3_put
theorem dX3_early_0 : decode cX3_early 0 = .ok (.aload_n 0, 1) := by decide +kernel
theorem dX3_early_1 : decode cX3_early 1 = .ok (.iload_n 1, 1) := by decide +kernel
theorem dX3_early_2 : decode cX3_early 2 = .ok (.invokestatic 108, 3) := by decide +kernel
theorem dX3_early_5 : decode cX3_early 5 = .ok (.ifCond .eq 14, 3) := by decide +kernel
theorem dX3_early_8 : decode cX3_early 8 = .ok (.iload_n 3, 1) := by decide +kernel
theorem dX3_early_9 : decode cX3_early 9 = .ok (.invokestatic 108, 3) := by decide +kernel
theorem dX3_early_12 : decode cX3_early 12 = .ok (.ifCond .eq 7, 3) := by decide +kernel
theorem dX3_early_15 : decode cX3_early 15 = .ok (.iconst 1, 1) := by decide +kernel
theorem dX3_early_16 : decode cX3_early 16 = .ok (.goto 4, 3) := by decide +kernel
theorem dX3_early_19 : decode cX3_early 19 = .ok (.iconst 0, 1) := by decide +kernel
theorem dX3_early_20 : decode cX3_early 20 = .ok (.iconst 1, 1) := by decide +kernel
theorem dX3_early_21 : decode cX3_early 21 = .ok (.invokevirtual 84, 3) := by decide +kernel
theorem dX3_early_24 : decode cX3_early 24 = .ok (.ifCond .ne 28, 3) := by decide +kernel
theorem dX3_early_27 : decode cX3_early 27 = .ok (.aload_n 0, 1) := by decide +kernel
theorem dX3_early_28 : decode cX3_early 28 = .ok (.iload_n 2, 1) := by decide +kernel
theorem dX3_early_29 : decode cX3_early 29 = .ok (.bipush 97, 2) := by decide +kernel
theorem dX3_early_31 : decode cX3_early 31 = .ok (.if_icmp .lt 13, 3) := by decide +kernel
theorem dX3_early_34 : decode cX3_early 34 = .ok (.iload_n 2, 1) := by decide +kernel
theorem dX3_early_35 : decode cX3_early 35 = .ok (.bipush 122, 2) := by decide +kernel
theorem dX3_early_37 : decode cX3_early 37 = .ok (.if_icmp .gt 7, 3) := by decide +kernel
theorem dX3_early_40 : decode cX3_early 40 = .ok (.iconst 1, 1) := by decide +kernel
theorem dX3_early_41 : decode cX3_early 41 = .ok (.goto 4, 3) := by decide +kernel
theorem dX3_early_44 : decode cX3_early 44 = .ok (.iconst 0, 1) := by decide +kernel
theorem dX3_early_45 : decode cX3_early 45 = .ok (.iconst 2, 1) := by decide +kernel
theorem dX3_early_46 : decode cX3_early 46 = .ok (.invokevirtual 84, 3) := by decide +kernel
theorem dX3_early_49 : decode cX3_early 49 = .ok (.ifCond .eq 5, 3) := by decide +kernel
theorem dX3_early_52 : decode cX3_early 52 = .ok (.iconst 0, 1) := by decide +kernel
theorem dX3_early_53 : decode cX3_early 53 = .ok (.ireturn, 1) := by decide +kernel
theorem dX3_early_54 : decode cX3_early 54 = .ok (.aload_n 0, 1) := by decide +kernel
theorem dX3_early_55 : decode cX3_early 55 = .ok (.iconst 0, 1) := by decide +kernel
theorem dX3_early_56 : decode cX3_early 56 = .ok (.iload_n 1, 1) := by decide +kernel
theorem dX3_early_57 : decode cX3_early 57 = .ok (.invokevirtual 73, 3) := by decide +kernel
theorem dX3_early_60 : decode cX3_early 60 = .ok (.aload_n 0, 1) := by decide +kernel
theorem dX3_early_61 : decode cX3_early 61 = .ok (.aload_n 0, 1) := by decide +kernel
theorem dX3_early_62 : decode cX3_early 62 = .ok (.getfield 28, 3) := by decide +kernel
theorem dX3_early_65 : decode cX3_early 65 = .ok (.iconst 0, 1) := by decide +kernel
theorem dX3_early_66 : decode cX3_early 66 = .ok (.aaload, 1) := by decide +kernel
theorem dX3_early_67 : decode cX3_early 67 = .ok (.iconst 1, 1) := by decide +kernel
theorem dX3_early_68 : decode cX3_early 68 = .ok (.iaload, 1) := by decide +kernel
theorem dX3_early_69 : decode cX3_early 69 = .ok (.ifCond .ne 20, 3) := by decide +kernel
theorem dX3_early_72 : decode cX3_early 72 = .ok (.aload_n 0, 1) := by decide +kernel
theorem dX3_early_73 : decode cX3_early 73 = .ok (.getfield 18, 3) := by decide +kernel
theorem dX3_early_76 : decode cX3_early 76 = .ok (.iload_n 1, 1) := by decide +kernel
theorem dX3_early_77 : decode cX3_early 77 = .ok (.iaload, 1) := by decide +kernel
theorem dX3_early_78 : decode cX3_early 78 = .ok (.iconst 2, 1) := by decide +kernel
theorem dX3_early_79 : decode cX3_early 79 = .ok (.iadd, 1) := by decide +kernel
theorem dX3_early_80 : decode cX3_early 80 = .ok (.bipush 60, 2) := by decide +kernel
theorem dX3_early_82 : decode cX3_early 82 = .ok (.if_icmp .gt 7, 3) := by decide +kernel
theorem dX3_early_85 : decode cX3_early 85 = .ok (.iconst 1, 1) := by decide +kernel
theorem dX3_early_86 : decode cX3_early 86 = .ok (.goto 4, 3) := by decide +kernel
theorem dX3_early_89 : decode cX3_early 89 = .ok (.iconst 0, 1) := by decide +kernel
theorem dX3_early_90 : decode cX3_early 90 = .ok (.iconst 3, 1) := by decide +kernel
theorem dX3_early_91 : decode cX3_early 91 = .ok (.invokevirtual 84, 3) := by decide +kernel
theorem dX3_early_94 : decode cX3_early 94 = .ok (.ifCond .eq 5, 3) := by decide +kernel
theorem dX3_early_97 : decode cX3_early 97 = .ok (.iconst 0, 1) := by decide +kernel
theorem dX3_early_98 : decode cX3_early 98 = .ok (.ireturn, 1) := by decide +kernel
theorem dX3_early_99 : decode cX3_early 99 = .ok (.aload_n 0, 1) := by decide +kernel
theorem dX3_early_100 : decode cX3_early 100 = .ok (.iload_n 1, 1) := by decide +kernel
theorem dX3_early_101 : decode cX3_early 101 = .ok (.invokevirtual 122, 3) := by decide +kernel
theorem dX3_early_104 : decode cX3_early 104 = .ok (.astore 4, 2) := by decide +kernel
theorem dX3_early_106 : decode cX3_early 106 = .ok (.aload 4, 2) := by decide +kernel
theorem dX3_early_108 : decode cX3_early 108 = .ok (.aload_n 0, 1) := by decide +kernel
theorem dX3_early_109 : decode cX3_early 109 = .ok (.getfield 18, 3) := by decide +kernel
theorem dX3_early_112 : decode cX3_early 112 = .ok (.iload_n 1, 1) := by decide +kernel
theorem dX3_early_113 : decode cX3_early 113 = .ok (.iaload, 1) := by decide +kernel
theorem dX3_early_114 : decode cX3_early 114 = .ok (.bipush 45, 2) := by decide +kernel
theorem dX3_early_116 : decode cX3_early 116 = .ok (.castore, 1) := by decide +kernel
theorem dX3_early_117 : decode cX3_early 117 = .ok (.aload 4, 2) := by decide +kernel
theorem dX3_early_119 : decode cX3_early 119 = .ok (.aload_n 0, 1) := by decide +kernel
theorem dX3_early_120 : decode cX3_early 120 = .ok (.getfield 18, 3) := by decide +kernel
theorem dX3_early_123 : decode cX3_early 123 = .ok (.iload_n 1, 1) := by decide +kernel
theorem dX3_early_124 : decode cX3_early 124 = .ok (.iaload, 1) := by decide +kernel
theorem dX3_early_125 : decode cX3_early 125 = .ok (.iconst 1, 1) := by decide +kernel
theorem dX3_early_126 : decode cX3_early 126 = .ok (.iadd, 1) := by decide +kernel
theorem dX3_early_127 : decode cX3_early 127 = .ok (.iload_n 2, 1) := by decide +kernel
theorem dX3_early_128 : decode cX3_early 128 = .ok (.castore, 1) := by decide +kernel
theorem dX3_early_129 : decode cX3_early 129 = .ok (.aload_n 0, 1) := by decide +kernel
theorem dX3_early_130 : decode cX3_early 130 = .ok (.iload_n 1, 1) := by decide +kernel
theorem dX3_early_131 : decode cX3_early 131 = .ok (.aload 4, 2) := by decide +kernel
theorem dX3_early_133 : decode cX3_early 133 = .ok (.aload_n 0, 1) := by decide +kernel
theorem dX3_early_134 : decode cX3_early 134 = .ok (.getfield 18, 3) := by decide +kernel
theorem dX3_early_137 : decode cX3_early 137 = .ok (.iload_n 1, 1) := by decide +kernel
theorem dX3_early_138 : decode cX3_early 138 = .ok (.iaload, 1) := by decide +kernel
theorem dX3_early_139 : decode cX3_early 139 = .ok (.iconst 2, 1) := by decide +kernel
theorem dX3_early_140 : decode cX3_early 140 = .ok (.iadd, 1) := by decide +kernel
theorem dX3_early_141 : decode cX3_early 141 = .ok (.iload_n 3, 1) := by decide +kernel
theorem dX3_early_142 : decode cX3_early 142 = .ok (.invokevirtual 126, 3) := by decide +kernel
theorem dX3_early_145 : decode cX3_early 145 = .ok (.ifCond .ge 7, 3) := by decide +kernel
theorem dX3_early_148 : decode cX3_early 148 = .ok (.iconst 1, 1) := by decide +kernel
theorem dX3_early_149 : decode cX3_early 149 = .ok (.goto 4, 3) := by decide +kernel
theorem dX3_early_152 : decode cX3_early 152 = .ok (.iconst 0, 1) := by decide +kernel
theorem dX3_early_153 : decode cX3_early 153 = .ok (.ireturn, 1) := by decide +kernel
set_option maxRecDepth 20000 in
theorem ggX3_built_X3_isSlot : GoodIn wsX3_built wsX3_isSlot := goodIn_r _ [5, 6, 7, 4, 8] (by decide +kernel) (by decide +kernel)
set_option maxRecDepth 20000 in
theorem gX3_built_X3_isSlot : GoodIn wsX3_built (va_wsS RX3 108 yX3_isSlot wsX3_isSlot) := goodIn_app (goodIn_of _ (by decide +kernel)) ggX3_built_X3_isSlot
set_option maxRecDepth 20000 in
theorem ggX3_built_X3_no : GoodIn wsX3_built wsX3_no := goodIn_r _ [12, 13, 77, 78, 79, 80, 81, 82, 83, 84, 85] (by decide +kernel) (by decide +kernel)
set_option maxRecDepth 20000 in
theorem gX3_built_X3_no : GoodIn wsX3_built (wsV RX3 84 RX3 yX3_no wsX3_no) := goodIn_app (goodIn_of _ (by decide +kernel)) ggX3_built_X3_no
set_option maxRecDepth 20000 in
theorem ggX3_built_X3_in : GoodIn wsX3_built wsX3_in := goodIn_r _ [8] (by decide +kernel) (by decide +kernel)
set_option maxRecDepth 20000 in
theorem gX3_built_X3_in : GoodIn wsX3_built (va_wsS RX3 43 yX3_in wsX3_in) := goodIn_app (goodIn_of _ (by decide +kernel)) ggX3_built_X3_in
set_option maxRecDepth 20000 in
theorem ggX3_built_X3_look_ : GoodIn wsX3_built wsX3_look_ := goodIn_r _ [17, 18, 19, 20, 21, 22, 4, 23, 24, 1, 25, 26, 27, 28, 29, 30, 31, 32, 77, 78, 79, 80, 81, 82, 83, 84, 85] (by decide +kernel) (by decide +kernel)
set_option maxRecDepth 20000 in
theorem gX3_built_X3_look_ : GoodIn wsX3_built (wsV RX3 73 RX3 yX3_look_ wsX3_look_) := goodIn_app (goodIn_of _ (by decide +kernel)) ggX3_built_X3_look_
set_option maxRecDepth 20000 in
theorem ggX3_built_X3_hasRoom : GoodIn wsX3_built wsX3_hasRoom := goodIn_r _ [36, 19, 37, 38, 4, 39, 77, 78, 79, 80, 81, 82, 83, 84, 85] (by decide +kernel) (by decide +kernel)
set_option maxRecDepth 20000 in
theorem gX3_built_X3_hasRoom : GoodIn wsX3_built (wsV RX3 130 RX3 yX3_hasRoom wsX3_hasRoom) := goodIn_app (goodIn_of _ (by decide +kernel)) ggX3_built_X3_hasRoom
set_option maxRecDepth 20000 in
theorem ggX3_built_X3_behind : GoodIn wsX3_built wsX3_behind := goodIn_r _ [43, 19, 44, 45, 46, 4, 47, 48, 18, 49, 50, 51, 37, 38, 39, 52, 53, 54, 55, 20, 21, 22, 23, 24, 1, 25, 26, 27, 28, 29, 30, 31, 32, 14, 15, 16, 17, 56, 57, 58, 59, 60, 61, 62, 63, 64, 65, 66, 67, 68, 69, 70, 71, 72, 73, 74, 75, 76, 77, 78, 79, 80, 81, 82, 83, 84, 85] (by decide +kernel) (by decide +kernel)
set_option maxRecDepth 20000 in
theorem gX3_built_X3_behind : GoodIn wsX3_built (wsV RX3 134 RX3 yX3_behind wsX3_behind) := goodIn_app (goodIn_of _ (by decide +kernel)) ggX3_built_X3_behind
theorem dX3_built_0 : decode cX3_built 0 = .ok (.aload_n 0, 1) := by decide +kernel
theorem dX3_built_1 : decode cX3_built 1 = .ok (.iload_n 1, 1) := by decide +kernel
theorem dX3_built_2 : decode cX3_built 2 = .ok (.invokestatic 108, 3) := by decide +kernel
theorem dX3_built_5 : decode cX3_built 5 = .ok (.ifCond .eq 14, 3) := by decide +kernel
theorem dX3_built_8 : decode cX3_built 8 = .ok (.iload_n 3, 1) := by decide +kernel
theorem dX3_built_9 : decode cX3_built 9 = .ok (.invokestatic 108, 3) := by decide +kernel
theorem dX3_built_12 : decode cX3_built 12 = .ok (.ifCond .eq 7, 3) := by decide +kernel
theorem dX3_built_15 : decode cX3_built 15 = .ok (.iconst 1, 1) := by decide +kernel
theorem dX3_built_16 : decode cX3_built 16 = .ok (.goto 4, 3) := by decide +kernel
theorem dX3_built_19 : decode cX3_built 19 = .ok (.iconst 0, 1) := by decide +kernel
theorem dX3_built_20 : decode cX3_built 20 = .ok (.iconst 1, 1) := by decide +kernel
theorem dX3_built_21 : decode cX3_built 21 = .ok (.invokevirtual 84, 3) := by decide +kernel
theorem dX3_built_24 : decode cX3_built 24 = .ok (.ifCond .ne 19, 3) := by decide +kernel
theorem dX3_built_27 : decode cX3_built 27 = .ok (.aload_n 0, 1) := by decide +kernel
theorem dX3_built_28 : decode cX3_built 28 = .ok (.iload_n 2, 1) := by decide +kernel
theorem dX3_built_29 : decode cX3_built 29 = .ok (.iconst 0, 1) := by decide +kernel
theorem dX3_built_30 : decode cX3_built 30 = .ok (.sipush 999, 3) := by decide +kernel
theorem dX3_built_33 : decode cX3_built 33 = .ok (.invokestatic 43, 3) := by decide +kernel
theorem dX3_built_36 : decode cX3_built 36 = .ok (.iconst 2, 1) := by decide +kernel
theorem dX3_built_37 : decode cX3_built 37 = .ok (.invokevirtual 84, 3) := by decide +kernel
theorem dX3_built_40 : decode cX3_built 40 = .ok (.ifCond .eq 5, 3) := by decide +kernel
theorem dX3_built_43 : decode cX3_built 43 = .ok (.iconst 0, 1) := by decide +kernel
theorem dX3_built_44 : decode cX3_built 44 = .ok (.ireturn, 1) := by decide +kernel
theorem dX3_built_45 : decode cX3_built 45 = .ok (.aload_n 0, 1) := by decide +kernel
theorem dX3_built_46 : decode cX3_built 46 = .ok (.iconst 0, 1) := by decide +kernel
theorem dX3_built_47 : decode cX3_built 47 = .ok (.iload_n 1, 1) := by decide +kernel
theorem dX3_built_48 : decode cX3_built 48 = .ok (.invokevirtual 73, 3) := by decide +kernel
theorem dX3_built_51 : decode cX3_built 51 = .ok (.aload_n 0, 1) := by decide +kernel
theorem dX3_built_52 : decode cX3_built 52 = .ok (.aload_n 0, 1) := by decide +kernel
theorem dX3_built_53 : decode cX3_built 53 = .ok (.getfield 28, 3) := by decide +kernel
theorem dX3_built_56 : decode cX3_built 56 = .ok (.iconst 0, 1) := by decide +kernel
theorem dX3_built_57 : decode cX3_built 57 = .ok (.aaload, 1) := by decide +kernel
theorem dX3_built_58 : decode cX3_built 58 = .ok (.iconst 1, 1) := by decide +kernel
theorem dX3_built_59 : decode cX3_built 59 = .ok (.iaload, 1) := by decide +kernel
theorem dX3_built_60 : decode cX3_built 60 = .ok (.ifCond .le 27, 3) := by decide +kernel
theorem dX3_built_63 : decode cX3_built 63 = .ok (.aload_n 0, 1) := by decide +kernel
theorem dX3_built_64 : decode cX3_built 64 = .ok (.getfield 28, 3) := by decide +kernel
theorem dX3_built_67 : decode cX3_built 67 = .ok (.iconst 0, 1) := by decide +kernel
theorem dX3_built_68 : decode cX3_built 68 = .ok (.aaload, 1) := by decide +kernel
theorem dX3_built_69 : decode cX3_built 69 = .ok (.iconst 2, 1) := by decide +kernel
theorem dX3_built_70 : decode cX3_built 70 = .ok (.iaload, 1) := by decide +kernel
theorem dX3_built_71 : decode cX3_built 71 = .ok (.ifCond .ne 16, 3) := by decide +kernel
theorem dX3_built_74 : decode cX3_built 74 = .ok (.aload_n 0, 1) := by decide +kernel
theorem dX3_built_75 : decode cX3_built 75 = .ok (.iload_n 1, 1) := by decide +kernel
theorem dX3_built_76 : decode cX3_built 76 = .ok (.iload_n 2, 1) := by decide +kernel
theorem dX3_built_77 : decode cX3_built 77 = .ok (.invokevirtual 130, 3) := by decide +kernel
theorem dX3_built_80 : decode cX3_built 80 = .ok (.ifCond .eq 7, 3) := by decide +kernel
theorem dX3_built_83 : decode cX3_built 83 = .ok (.iconst 1, 1) := by decide +kernel
theorem dX3_built_84 : decode cX3_built 84 = .ok (.goto 4, 3) := by decide +kernel
theorem dX3_built_87 : decode cX3_built 87 = .ok (.iconst 0, 1) := by decide +kernel
theorem dX3_built_88 : decode cX3_built 88 = .ok (.iconst 3, 1) := by decide +kernel
theorem dX3_built_89 : decode cX3_built 89 = .ok (.invokevirtual 84, 3) := by decide +kernel
theorem dX3_built_92 : decode cX3_built 92 = .ok (.ifCond .eq 5, 3) := by decide +kernel
theorem dX3_built_95 : decode cX3_built 95 = .ok (.iconst 0, 1) := by decide +kernel
theorem dX3_built_96 : decode cX3_built 96 = .ok (.ireturn, 1) := by decide +kernel
theorem dX3_built_97 : decode cX3_built 97 = .ok (.aload_n 0, 1) := by decide +kernel
theorem dX3_built_98 : decode cX3_built 98 = .ok (.iload_n 1, 1) := by decide +kernel
theorem dX3_built_99 : decode cX3_built 99 = .ok (.bipush 43, 2) := by decide +kernel
theorem dX3_built_101 : decode cX3_built 101 = .ok (.iload_n 2, 1) := by decide +kernel
theorem dX3_built_102 : decode cX3_built 102 = .ok (.iload_n 3, 1) := by decide +kernel
theorem dX3_built_103 : decode cX3_built 103 = .ok (.invokevirtual 134, 3) := by decide +kernel
theorem dX3_built_106 : decode cX3_built 106 = .ok (.ireturn, 1) := by decide +kernel
set_option maxRecDepth 20000 in
theorem ggX3_isHashed_X3_isSlot : GoodIn wsX3_isHashed wsX3_isSlot := goodIn_r _ [4, 5, 6, 3, 7] (by decide +kernel) (by decide +kernel)
set_option maxRecDepth 20000 in
theorem gX3_isHashed_X3_isSlot : GoodIn wsX3_isHashed (va_wsS RX3 108 yX3_isSlot wsX3_isSlot) := goodIn_app (goodIn_of _ (by decide +kernel)) ggX3_isHashed_X3_isSlot
set_option maxRecDepth 20000 in
theorem ggX3_isHashed_X3_no : GoodIn wsX3_isHashed wsX3_no := goodIn_r _ [11, 12, 13, 14, 15, 16, 17, 18, 19, 20, 21] (by decide +kernel) (by decide +kernel)
set_option maxRecDepth 20000 in
theorem gX3_isHashed_X3_no : GoodIn wsX3_isHashed (wsV RX3 84 RX3 yX3_no wsX3_no) := goodIn_app (goodIn_of _ (by decide +kernel)) ggX3_isHashed_X3_no
theorem dX3_isHashed_0 : decode cX3_isHashed 0 = .ok (.aload_n 0, 1) := by decide +kernel
theorem dX3_isHashed_1 : decode cX3_isHashed 1 = .ok (.iload_n 1, 1) := by decide +kernel
theorem dX3_isHashed_2 : decode cX3_isHashed 2 = .ok (.invokestatic 108, 3) := by decide +kernel
theorem dX3_isHashed_5 : decode cX3_isHashed 5 = .ok (.iconst 1, 1) := by decide +kernel
theorem dX3_isHashed_6 : decode cX3_isHashed 6 = .ok (.invokevirtual 84, 3) := by decide +kernel
theorem dX3_isHashed_9 : decode cX3_isHashed 9 = .ok (.ifCond .ne 7, 3) := by decide +kernel
theorem dX3_isHashed_12 : decode cX3_isHashed 12 = .ok (.iconst 1, 1) := by decide +kernel
theorem dX3_isHashed_13 : decode cX3_isHashed 13 = .ok (.goto 4, 3) := by decide +kernel
theorem dX3_isHashed_16 : decode cX3_isHashed 16 = .ok (.iconst 0, 1) := by decide +kernel
theorem dX3_isHashed_17 : decode cX3_isHashed 17 = .ok (.ireturn, 1) := by decide +kernel
set_option maxRecDepth 20000 in
theorem ggX3_wordShare_X3_look_ : GoodIn wsX3_wordShare wsX3_look_ := goodIn_r _ [7, 8, 9, 10, 11, 12, 6, 13, 14, 2, 15, 16, 17, 18, 19, 20, 21, 22, 27, 28, 29, 30, 31, 32, 33, 34, 35] (by decide +kernel) (by decide +kernel)
set_option maxRecDepth 20000 in
theorem gX3_wordShare_X3_look_ : GoodIn wsX3_wordShare (wsV RX3 73 RX3 yX3_look_ wsX3_look_) := goodIn_app (goodIn_of _ (by decide +kernel)) ggX3_wordShare_X3_look_
set_option maxRecDepth 20000 in
theorem ggX3_wordShare_X3_isNumber : GoodIn wsX3_wordShare wsX3_isNumber := goodIn_r _ [26, 2, 14, 15, 20, 21, 6, 22, 27, 28, 29, 30, 31, 32, 33, 34, 35] (by decide +kernel) (by decide +kernel)
set_option maxRecDepth 20000 in
theorem gX3_wordShare_X3_isNumber : GoodIn wsX3_wordShare (wsV RX3 58 RX3 yX3_isNumber wsX3_isNumber) := goodIn_app (goodIn_of _ (by decide +kernel)) ggX3_wordShare_X3_isNumber
theorem dX3_wordShare_0 : decode cX3_wordShare 0 = .ok (.aload_n 0, 1) := by decide +kernel
theorem dX3_wordShare_1 : decode cX3_wordShare 1 = .ok (.iconst 0, 1) := by decide +kernel
theorem dX3_wordShare_2 : decode cX3_wordShare 2 = .ok (.putfield 39, 3) := by decide +kernel
theorem dX3_wordShare_5 : decode cX3_wordShare 5 = .ok (.iconst 0, 1) := by decide +kernel
theorem dX3_wordShare_6 : decode cX3_wordShare 6 = .ok (.istore_n 1, 1) := by decide +kernel
theorem dX3_wordShare_7 : decode cX3_wordShare 7 = .ok (.iconst 0, 1) := by decide +kernel
theorem dX3_wordShare_8 : decode cX3_wordShare 8 = .ok (.istore_n 2, 1) := by decide +kernel
theorem dX3_wordShare_9 : decode cX3_wordShare 9 = .ok (.iconst 0, 1) := by decide +kernel
theorem dX3_wordShare_10 : decode cX3_wordShare 10 = .ok (.istore_n 3, 1) := by decide +kernel
theorem dX3_wordShare_11 : decode cX3_wordShare 11 = .ok (.iload_n 3, 1) := by decide +kernel
theorem dX3_wordShare_12 : decode cX3_wordShare 12 = .ok (.bipush 8, 2) := by decide +kernel
theorem dX3_wordShare_14 : decode cX3_wordShare 14 = .ok (.if_icmp .ge 85, 3) := by decide +kernel
theorem dX3_wordShare_17 : decode cX3_wordShare 17 = .ok (.aload_n 0, 1) := by decide +kernel
theorem dX3_wordShare_18 : decode cX3_wordShare 18 = .ok (.iconst 0, 1) := by decide +kernel
theorem dX3_wordShare_19 : decode cX3_wordShare 19 = .ok (.iload_n 3, 1) := by decide +kernel
theorem dX3_wordShare_20 : decode cX3_wordShare 20 = .ok (.invokevirtual 73, 3) := by decide +kernel
theorem dX3_wordShare_23 : decode cX3_wordShare 23 = .ok (.iconst 0, 1) := by decide +kernel
theorem dX3_wordShare_24 : decode cX3_wordShare 24 = .ok (.istore 4, 2) := by decide +kernel
theorem dX3_wordShare_26 : decode cX3_wordShare 26 = .ok (.iload 4, 2) := by decide +kernel
theorem dX3_wordShare_28 : decode cX3_wordShare 28 = .ok (.iconst 3, 1) := by decide +kernel
theorem dX3_wordShare_29 : decode cX3_wordShare 29 = .ok (.if_icmp .ge 64, 3) := by decide +kernel
theorem dX3_wordShare_32 : decode cX3_wordShare 32 = .ok (.iload_n 1, 1) := by decide +kernel
theorem dX3_wordShare_33 : decode cX3_wordShare 33 = .ok (.aload_n 0, 1) := by decide +kernel
theorem dX3_wordShare_34 : decode cX3_wordShare 34 = .ok (.getfield 28, 3) := by decide +kernel
theorem dX3_wordShare_37 : decode cX3_wordShare 37 = .ok (.iconst 0, 1) := by decide +kernel
theorem dX3_wordShare_38 : decode cX3_wordShare 38 = .ok (.aaload, 1) := by decide +kernel
theorem dX3_wordShare_39 : decode cX3_wordShare 39 = .ok (.iload 4, 2) := by decide +kernel
theorem dX3_wordShare_41 : decode cX3_wordShare 41 = .ok (.iaload, 1) := by decide +kernel
theorem dX3_wordShare_42 : decode cX3_wordShare 42 = .ok (.iadd, 1) := by decide +kernel
theorem dX3_wordShare_43 : decode cX3_wordShare 43 = .ok (.istore_n 1, 1) := by decide +kernel
theorem dX3_wordShare_44 : decode cX3_wordShare 44 = .ok (.iconst 0, 1) := by decide +kernel
theorem dX3_wordShare_45 : decode cX3_wordShare 45 = .ok (.istore 5, 2) := by decide +kernel
theorem dX3_wordShare_47 : decode cX3_wordShare 47 = .ok (.iload 5, 2) := by decide +kernel
theorem dX3_wordShare_49 : decode cX3_wordShare 49 = .ok (.aload_n 0, 1) := by decide +kernel
theorem dX3_wordShare_50 : decode cX3_wordShare 50 = .ok (.getfield 28, 3) := by decide +kernel
theorem dX3_wordShare_53 : decode cX3_wordShare 53 = .ok (.iconst 0, 1) := by decide +kernel
theorem dX3_wordShare_54 : decode cX3_wordShare 54 = .ok (.aaload, 1) := by decide +kernel
theorem dX3_wordShare_55 : decode cX3_wordShare 55 = .ok (.iload 4, 2) := by decide +kernel
theorem dX3_wordShare_57 : decode cX3_wordShare 57 = .ok (.iaload, 1) := by decide +kernel
theorem dX3_wordShare_58 : decode cX3_wordShare 58 = .ok (.if_icmp .ge 29, 3) := by decide +kernel
theorem dX3_wordShare_61 : decode cX3_wordShare 61 = .ok (.iload_n 2, 1) := by decide +kernel
theorem dX3_wordShare_62 : decode cX3_wordShare 62 = .ok (.aload_n 0, 1) := by decide +kernel
theorem dX3_wordShare_63 : decode cX3_wordShare 63 = .ok (.iconst 0, 1) := by decide +kernel
theorem dX3_wordShare_64 : decode cX3_wordShare 64 = .ok (.iload 4, 2) := by decide +kernel
theorem dX3_wordShare_66 : decode cX3_wordShare 66 = .ok (.iload 5, 2) := by decide +kernel
theorem dX3_wordShare_68 : decode cX3_wordShare 68 = .ok (.invokevirtual 58, 3) := by decide +kernel
theorem dX3_wordShare_71 : decode cX3_wordShare 71 = .ok (.ifCond .eq 7, 3) := by decide +kernel
theorem dX3_wordShare_74 : decode cX3_wordShare 74 = .ok (.iconst 0, 1) := by decide +kernel
theorem dX3_wordShare_75 : decode cX3_wordShare 75 = .ok (.goto 4, 3) := by decide +kernel
theorem dX3_wordShare_78 : decode cX3_wordShare 78 = .ok (.iconst 1, 1) := by decide +kernel
theorem dX3_wordShare_79 : decode cX3_wordShare 79 = .ok (.iadd, 1) := by decide +kernel
theorem dX3_wordShare_80 : decode cX3_wordShare 80 = .ok (.istore_n 2, 1) := by decide +kernel
theorem dX3_wordShare_81 : decode cX3_wordShare 81 = .ok (.iinc 5 1, 3) := by decide +kernel
theorem dX3_wordShare_84 : decode cX3_wordShare 84 = .ok (.goto (-37), 3) := by decide +kernel
theorem dX3_wordShare_87 : decode cX3_wordShare 87 = .ok (.iinc 4 1, 3) := by decide +kernel
theorem dX3_wordShare_90 : decode cX3_wordShare 90 = .ok (.goto (-64), 3) := by decide +kernel
theorem dX3_wordShare_93 : decode cX3_wordShare 93 = .ok (.iinc 3 1, 3) := by decide +kernel
theorem dX3_wordShare_96 : decode cX3_wordShare 96 = .ok (.goto (-85), 3) := by decide +kernel
theorem dX3_wordShare_99 : decode cX3_wordShare 99 = .ok (.iload_n 2, 1) := by decide +kernel
theorem dX3_wordShare_100 : decode cX3_wordShare 100 = .ok (.i2f, 1) := by decide +kernel
theorem dX3_wordShare_101 : decode cX3_wordShare 101 = .ok (.iload_n 1, 1) := by decide +kernel
theorem dX3_wordShare_102 : decode cX3_wordShare 102 = .ok (.i2f, 1) := by decide +kernel
theorem dX3_wordShare_103 : decode cX3_wordShare 103 = .ok (.fdiv, 1) := by decide +kernel
theorem dX3_wordShare_104 : decode cX3_wordShare 104 = .ok (.freturn, 1) := by decide +kernel
theorem dX3_checksum_0 : decode cX3_checksum 0 = .ok (.aload_n 0, 1) := by decide +kernel
theorem dX3_checksum_1 : decode cX3_checksum 1 = .ok (.iconst 0, 1) := by decide +kernel
theorem dX3_checksum_2 : decode cX3_checksum 2 = .ok (.putfield 39, 3) := by decide +kernel
theorem dX3_checksum_5 : decode cX3_checksum 5 = .ok (.ldc2_w 138, 3) := by decide +kernel
theorem dX3_checksum_8 : decode cX3_checksum 8 = .ok (.lstore_n 1, 1) := by decide +kernel
theorem dX3_checksum_9 : decode cX3_checksum 9 = .ok (.ldc2_w 140, 3) := by decide +kernel
theorem dX3_checksum_12 : decode cX3_checksum 12 = .ok (.lload_n 1, 1) := by decide +kernel
theorem dX3_checksum_13 : decode cX3_checksum 13 = .ok (.lmul, 1) := by decide +kernel
theorem dX3_checksum_14 : decode cX3_checksum 14 = .ok (.aload_n 0, 1) := by decide +kernel
theorem dX3_checksum_15 : decode cX3_checksum 15 = .ok (.getfield 92, 3) := by decide +kernel
theorem dX3_checksum_18 : decode cX3_checksum 18 = .ok (.i2l, 1) := by decide +kernel
theorem dX3_checksum_19 : decode cX3_checksum 19 = .ok (.ladd, 1) := by decide +kernel
theorem dX3_checksum_20 : decode cX3_checksum 20 = .ok (.lstore_n 1, 1) := by decide +kernel
theorem dX3_checksum_21 : decode cX3_checksum 21 = .ok (.iconst 0, 1) := by decide +kernel
theorem dX3_checksum_22 : decode cX3_checksum 22 = .ok (.istore_n 3, 1) := by decide +kernel
theorem dX3_checksum_23 : decode cX3_checksum 23 = .ok (.iload_n 3, 1) := by decide +kernel
theorem dX3_checksum_24 : decode cX3_checksum 24 = .ok (.aload_n 0, 1) := by decide +kernel
theorem dX3_checksum_25 : decode cX3_checksum 25 = .ok (.getfield 92, 3) := by decide +kernel
theorem dX3_checksum_28 : decode cX3_checksum 28 = .ok (.if_icmp .ge 23, 3) := by decide +kernel
theorem dX3_checksum_31 : decode cX3_checksum 31 = .ok (.ldc2_w 140, 3) := by decide +kernel
theorem dX3_checksum_34 : decode cX3_checksum 34 = .ok (.lload_n 1, 1) := by decide +kernel
theorem dX3_checksum_35 : decode cX3_checksum 35 = .ok (.lmul, 1) := by decide +kernel
theorem dX3_checksum_36 : decode cX3_checksum 36 = .ok (.aload_n 0, 1) := by decide +kernel
theorem dX3_checksum_37 : decode cX3_checksum 37 = .ok (.getfield 9, 3) := by decide +kernel
theorem dX3_checksum_40 : decode cX3_checksum 40 = .ok (.iload_n 3, 1) := by decide +kernel
theorem dX3_checksum_41 : decode cX3_checksum 41 = .ok (.caload, 1) := by decide +kernel
theorem dX3_checksum_42 : decode cX3_checksum 42 = .ok (.i2l, 1) := by decide +kernel
theorem dX3_checksum_43 : decode cX3_checksum 43 = .ok (.ladd, 1) := by decide +kernel
theorem dX3_checksum_44 : decode cX3_checksum 44 = .ok (.lstore_n 1, 1) := by decide +kernel
theorem dX3_checksum_45 : decode cX3_checksum 45 = .ok (.iinc 3 1, 3) := by decide +kernel
theorem dX3_checksum_48 : decode cX3_checksum 48 = .ok (.goto (-25), 3) := by decide +kernel
theorem dX3_checksum_51 : decode cX3_checksum 51 = .ok (.iconst 0, 1) := by decide +kernel
theorem dX3_checksum_52 : decode cX3_checksum 52 = .ok (.istore_n 3, 1) := by decide +kernel
theorem dX3_checksum_53 : decode cX3_checksum 53 = .ok (.iload_n 3, 1) := by decide +kernel
theorem dX3_checksum_54 : decode cX3_checksum 54 = .ok (.bipush 8, 2) := by decide +kernel
theorem dX3_checksum_56 : decode cX3_checksum 56 = .ok (.if_icmp .ge 60, 3) := by decide +kernel
theorem dX3_checksum_59 : decode cX3_checksum 59 = .ok (.ldc2_w 140, 3) := by decide +kernel
theorem dX3_checksum_62 : decode cX3_checksum 62 = .ok (.lload_n 1, 1) := by decide +kernel
theorem dX3_checksum_63 : decode cX3_checksum 63 = .ok (.lmul, 1) := by decide +kernel
theorem dX3_checksum_64 : decode cX3_checksum 64 = .ok (.aload_n 0, 1) := by decide +kernel
theorem dX3_checksum_65 : decode cX3_checksum 65 = .ok (.getfield 18, 3) := by decide +kernel
theorem dX3_checksum_68 : decode cX3_checksum 68 = .ok (.iload_n 3, 1) := by decide +kernel
theorem dX3_checksum_69 : decode cX3_checksum 69 = .ok (.iaload, 1) := by decide +kernel
theorem dX3_checksum_70 : decode cX3_checksum 70 = .ok (.i2l, 1) := by decide +kernel
theorem dX3_checksum_71 : decode cX3_checksum 71 = .ok (.ladd, 1) := by decide +kernel
theorem dX3_checksum_72 : decode cX3_checksum 72 = .ok (.lstore_n 1, 1) := by decide +kernel
theorem dX3_checksum_73 : decode cX3_checksum 73 = .ok (.iconst 0, 1) := by decide +kernel
theorem dX3_checksum_74 : decode cX3_checksum 74 = .ok (.istore 4, 2) := by decide +kernel
theorem dX3_checksum_76 : decode cX3_checksum 76 = .ok (.iload 4, 2) := by decide +kernel
theorem dX3_checksum_78 : decode cX3_checksum 78 = .ok (.aload_n 0, 1) := by decide +kernel
theorem dX3_checksum_79 : decode cX3_checksum 79 = .ok (.getfield 18, 3) := by decide +kernel
theorem dX3_checksum_82 : decode cX3_checksum 82 = .ok (.iload_n 3, 1) := by decide +kernel
theorem dX3_checksum_83 : decode cX3_checksum 83 = .ok (.iaload, 1) := by decide +kernel
theorem dX3_checksum_84 : decode cX3_checksum 84 = .ok (.if_icmp .ge 26, 3) := by decide +kernel
theorem dX3_checksum_87 : decode cX3_checksum 87 = .ok (.ldc2_w 140, 3) := by decide +kernel
theorem dX3_checksum_90 : decode cX3_checksum 90 = .ok (.lload_n 1, 1) := by decide +kernel
theorem dX3_checksum_91 : decode cX3_checksum 91 = .ok (.lmul, 1) := by decide +kernel
theorem dX3_checksum_92 : decode cX3_checksum 92 = .ok (.aload_n 0, 1) := by decide +kernel
theorem dX3_checksum_93 : decode cX3_checksum 93 = .ok (.getfield 15, 3) := by decide +kernel
theorem dX3_checksum_96 : decode cX3_checksum 96 = .ok (.iload_n 3, 1) := by decide +kernel
theorem dX3_checksum_97 : decode cX3_checksum 97 = .ok (.aaload, 1) := by decide +kernel
theorem dX3_checksum_98 : decode cX3_checksum 98 = .ok (.iload 4, 2) := by decide +kernel
theorem dX3_checksum_100 : decode cX3_checksum 100 = .ok (.caload, 1) := by decide +kernel
theorem dX3_checksum_101 : decode cX3_checksum 101 = .ok (.i2l, 1) := by decide +kernel
theorem dX3_checksum_102 : decode cX3_checksum 102 = .ok (.ladd, 1) := by decide +kernel
theorem dX3_checksum_103 : decode cX3_checksum 103 = .ok (.lstore_n 1, 1) := by decide +kernel
theorem dX3_checksum_104 : decode cX3_checksum 104 = .ok (.iinc 4 1, 3) := by decide +kernel
theorem dX3_checksum_107 : decode cX3_checksum 107 = .ok (.goto (-31), 3) := by decide +kernel
theorem dX3_checksum_110 : decode cX3_checksum 110 = .ok (.iinc 3 1, 3) := by decide +kernel
theorem dX3_checksum_113 : decode cX3_checksum 113 = .ok (.goto (-60), 3) := by decide +kernel
theorem dX3_checksum_116 : decode cX3_checksum 116 = .ok (.lload_n 1, 1) := by decide +kernel
theorem dX3_checksum_117 : decode cX3_checksum 117 = .ok (.lreturn, 1) := by decide +kernel
theorem dX3_isTrue_0 : decode cX3_isTrue 0 = .ok (.aload_n 0, 1) := by decide +kernel
theorem dX3_isTrue_1 : decode cX3_isTrue 1 = .ok (.iconst 0, 1) := by decide +kernel
theorem dX3_isTrue_2 : decode cX3_isTrue 2 = .ok (.putfield 39, 3) := by decide +kernel
theorem dX3_isTrue_5 : decode cX3_isTrue 5 = .ok (.iconst 1, 1) := by decide +kernel
theorem dX3_isTrue_6 : decode cX3_isTrue 6 = .ok (.ireturn, 1) := by decide +kernel
theorem dJ9_max_7cf53_0 : decode cJ9_max_7cf53 0 = .ok (.iload_n 0, 1) := by decide +kernel
theorem dJ9_max_7cf53_1 : decode cJ9_max_7cf53 1 = .ok (.iload_n 1, 1) := by decide +kernel
theorem dJ9_max_7cf53_2 : decode cJ9_max_7cf53 2 = .ok (.if_icmp .lt 7, 3) := by decide +kernel
theorem dJ9_max_7cf53_5 : decode cJ9_max_7cf53 5 = .ok (.iload_n 0, 1) := by decide +kernel
theorem dJ9_max_7cf53_6 : decode cJ9_max_7cf53 6 = .ok (.goto 4, 3) := by decide +kernel
theorem dJ9_max_7cf53_9 : decode cJ9_max_7cf53 9 = .ok (.iload_n 1, 1) := by decide +kernel
theorem dJ9_max_7cf53_10 : decode cJ9_max_7cf53 10 = .ok (.ireturn, 1) := by decide +kernel
set_option maxRecDepth 20000 in
theorem ggL_begin_X2_begin : GoodIn wsL_begin wsX2_begin := goodIn_ca (goodIn_r _ [6, 7, 8, 9, 10, 5, 11, 12, 13, 14, 15, 16, 17, 18, 19, 20, 21, 22, 23, 24, 25, 26, 27, 28, 29, 30, 31, 32, 33, 34, 35, 36, 37, 38, 39, 40, 41, 42, 43, 44] (by decide +kernel) (by decide +kernel)) (goodIn_sub (fun _ h => List.mem_cons_of_mem _ (List.mem_append_right _ h)) (by decide +kernel))
set_option maxRecDepth 20000 in
theorem gL_begin_X2_begin : GoodIn wsL_begin (wsV RL 7 RX2 yX2_begin wsX2_begin) := goodIn_app (goodIn_of _ (by decide +kernel)) ggL_begin_X2_begin
end
