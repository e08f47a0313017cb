section
-- ===== PART A: goes FIRST, ahead of the names: the tables' words, and 'selects' of the private methods out of them =====
/-- a private method of a class that the tables say can be made, by its rows of tables_1 -/
def lw_okq (q : MethodName × Nat) : Prop := (q.1.cls ≠ "java/lang/invoke/MethodHandle" ∧ q.1.cls ≠ "java/lang/invoke/VarHandle") ∧ Cond.instantiable q.1.cls q.2 ∈ tables_1 ∧ Cond.privateMethod q.1 ∈ tables_1 ∧ Cond.instanceMethod q.1 ∈ tables_1
theorem lw_p0 : lw_okq (⟨"OrderedBytes", "blocksMatchEntries", "()Z"⟩, 8) := ⟨⟨by decide +kernel, by decide +kernel⟩, List.mem_of_getElem? (i := 20) (by decide +kernel), List.mem_of_getElem? (i := 210) (by decide +kernel), List.mem_of_getElem? (i := 211) (by decide +kernel)⟩
theorem lw_p1 : lw_okq (⟨"OrderedBytes$Tree", "isLinkedWell", "(LOrderedBytes$Node;)Z"⟩, 3) := ⟨⟨by decide +kernel, by decide +kernel⟩, List.mem_of_getElem? (i := 88) (by decide +kernel), List.mem_of_getElem? (i := 241) (by decide +kernel), List.mem_of_getElem? (i := 242) (by decide +kernel)⟩
theorem lw_p2 : lw_okq (⟨"OrderedBytes$Tree", "isBetween", "(LOrderedBytes$Node;LOrderedBytes$Node;LOrderedBytes$Node;)Z"⟩, 3) := ⟨⟨by decide +kernel, by decide +kernel⟩, List.mem_of_getElem? (i := 88) (by decide +kernel), List.mem_of_getElem? (i := 245) (by decide +kernel), List.mem_of_getElem? (i := 246) (by decide +kernel)⟩
theorem lw_p3 : lw_okq (⟨"OrderedBytes$Heap", "compareBytes", "([BIILOrderedBytes$Node;)I"⟩, 5) := ⟨⟨by decide +kernel, by decide +kernel⟩, List.mem_of_getElem? (i := 37) (by decide +kernel), List.mem_of_getElem? (i := 253) (by decide +kernel), List.mem_of_getElem? (i := 254) (by decide +kernel)⟩
theorem lw_p4 : lw_okq (⟨"java/lang/Throwable", "fillInStackTrace", "(I)Ljava/lang/Throwable;"⟩, 6) := ⟨⟨by decide +kernel, by decide +kernel⟩, List.mem_of_getElem? (i := 308) (by decide +kernel), List.mem_of_getElem? (i := 306) (by decide +kernel), List.mem_of_getElem? (i := 307) (by decide +kernel)⟩
theorem lw_p5 : lw_okq (⟨"OrderedBytes", "readTape", "()I"⟩, 8) := ⟨⟨by decide +kernel, by decide +kernel⟩, List.mem_of_getElem? (i := 20) (by decide +kernel), List.mem_of_getElem? (i := 364) (by decide +kernel), List.mem_of_getElem? (i := 365) (by decide +kernel)⟩
theorem lw_p6 : lw_okq (⟨"OrderedBytes", "isFull", "(LOrderedBytes$Node;I)Z"⟩, 8) := ⟨⟨by decide +kernel, by decide +kernel⟩, List.mem_of_getElem? (i := 20) (by decide +kernel), List.mem_of_getElem? (i := 380) (by decide +kernel), List.mem_of_getElem? (i := 381) (by decide +kernel)⟩
theorem lw_p7 : lw_okq (⟨"OrderedBytes", "newEntry", "(II)LOrderedBytes$Node;"⟩, 8) := ⟨⟨by decide +kernel, by decide +kernel⟩, List.mem_of_getElem? (i := 20) (by decide +kernel), List.mem_of_getElem? (i := 385) (by decide +kernel), List.mem_of_getElem? (i := 386) (by decide +kernel)⟩
theorem lw_p8 : lw_okq (⟨"OrderedBytes$Heap", "firstFit", "(I)LOrderedBytes$Block;"⟩, 5) := ⟨⟨by decide +kernel, by decide +kernel⟩, List.mem_of_getElem? (i := 37) (by decide +kernel), List.mem_of_getElem? (i := 395) (by decide +kernel), List.mem_of_getElem? (i := 396) (by decide +kernel)⟩
theorem lw_p9 : lw_okq (⟨"OrderedBytes$Heap", "grow", "(I)V"⟩, 5) := ⟨⟨by decide +kernel, by decide +kernel⟩, List.mem_of_getElem? (i := 37) (by decide +kernel), List.mem_of_getElem? (i := 402) (by decide +kernel), List.mem_of_getElem? (i := 403) (by decide +kernel)⟩
theorem lw_p10 : lw_okq (⟨"OrderedBytes$Heap", "pushTogether", "()LOrderedBytes$Block;"⟩, 5) := ⟨⟨by decide +kernel, by decide +kernel⟩, List.mem_of_getElem? (i := 37) (by decide +kernel), List.mem_of_getElem? (i := 421) (by decide +kernel), List.mem_of_getElem? (i := 422) (by decide +kernel)⟩
theorem lw_p11 : lw_okq (⟨"OrderedBytes$Heap", "moveTo", "(LOrderedBytes$Block;I)V"⟩, 5) := ⟨⟨by decide +kernel, by decide +kernel⟩, List.mem_of_getElem? (i := 37) (by decide +kernel), List.mem_of_getElem? (i := 425) (by decide +kernel), List.mem_of_getElem? (i := 426) (by decide +kernel)⟩
theorem lw_p12 : lw_okq (⟨"OrderedBytes", "fill", "(LOrderedBytes$Node;I)V"⟩, 8) := ⟨⟨by decide +kernel, by decide +kernel⟩, List.mem_of_getElem? (i := 20) (by decide +kernel), List.mem_of_getElem? (i := 433) (by decide +kernel), List.mem_of_getElem? (i := 434) (by decide +kernel)⟩
theorem lw_p13 : lw_okq (⟨"OrderedBytes$Tree", "mendRedBelowRed", "(LOrderedBytes$Node;)V"⟩, 3) := ⟨⟨by decide +kernel, by decide +kernel⟩, List.mem_of_getElem? (i := 88) (by decide +kernel), List.mem_of_getElem? (i := 453) (by decide +kernel), List.mem_of_getElem? (i := 454) (by decide +kernel)⟩
theorem lw_p14 : lw_okq (⟨"OrderedBytes$Tree", "rotate", "(LOrderedBytes$Node;I)V"⟩, 3) := ⟨⟨by decide +kernel, by decide +kernel⟩, List.mem_of_getElem? (i := 88) (by decide +kernel), List.mem_of_getElem? (i := 461) (by decide +kernel), List.mem_of_getElem? (i := 462) (by decide +kernel)⟩
theorem lw_p15 : lw_okq (⟨"OrderedBytes$Tree", "replace", "(LOrderedBytes$Node;LOrderedBytes$Node;)V"⟩, 3) := ⟨⟨by decide +kernel, by decide +kernel⟩, List.mem_of_getElem? (i := 88) (by decide +kernel), List.mem_of_getElem? (i := 465) (by decide +kernel), List.mem_of_getElem? (i := 466) (by decide +kernel)⟩
def lw_privs_1 : List (MethodName × Nat) := [(⟨"OrderedBytes", "blocksMatchEntries", "()Z"⟩, 8), (⟨"OrderedBytes$Tree", "isLinkedWell", "(LOrderedBytes$Node;)Z"⟩, 3), (⟨"OrderedBytes$Tree", "isBetween", "(LOrderedBytes$Node;LOrderedBytes$Node;LOrderedBytes$Node;)Z"⟩, 3), (⟨"OrderedBytes$Heap", "compareBytes", "([BIILOrderedBytes$Node;)I"⟩, 5), (⟨"java/lang/Throwable", "fillInStackTrace", "(I)Ljava/lang/Throwable;"⟩, 6), (⟨"OrderedBytes", "readTape", "()I"⟩, 8), (⟨"OrderedBytes", "isFull", "(LOrderedBytes$Node;I)Z"⟩, 8), (⟨"OrderedBytes", "newEntry", "(II)LOrderedBytes$Node;"⟩, 8), (⟨"OrderedBytes$Heap", "firstFit", "(I)LOrderedBytes$Block;"⟩, 5), (⟨"OrderedBytes$Heap", "grow", "(I)V"⟩, 5), (⟨"OrderedBytes$Heap", "pushTogether", "()LOrderedBytes$Block;"⟩, 5), (⟨"OrderedBytes$Heap", "moveTo", "(LOrderedBytes$Block;I)V"⟩, 5), (⟨"OrderedBytes", "fill", "(LOrderedBytes$Node;I)V"⟩, 8), (⟨"OrderedBytes$Tree", "mendRedBelowRed", "(LOrderedBytes$Node;)V"⟩, 3), (⟨"OrderedBytes$Tree", "rotate", "(LOrderedBytes$Node;I)V"⟩, 3), (⟨"OrderedBytes$Tree", "replace", "(LOrderedBytes$Node;LOrderedBytes$Node;)V"⟩, 3)]
theorem lw_r1 : ∀ q ∈ lw_privs_1, lw_okq q := List.forall_mem_cons.mpr ⟨lw_p0, List.forall_mem_cons.mpr ⟨lw_p1, List.forall_mem_cons.mpr ⟨lw_p2, List.forall_mem_cons.mpr ⟨lw_p3, List.forall_mem_cons.mpr ⟨lw_p4, List.forall_mem_cons.mpr ⟨lw_p5, List.forall_mem_cons.mpr ⟨lw_p6, List.forall_mem_cons.mpr ⟨lw_p7, List.forall_mem_cons.mpr ⟨lw_p8, List.forall_mem_cons.mpr ⟨lw_p9, List.forall_mem_cons.mpr ⟨lw_p10, List.forall_mem_cons.mpr ⟨lw_p11, List.forall_mem_cons.mpr ⟨lw_p12, List.forall_mem_cons.mpr ⟨lw_p13, List.forall_mem_cons.mpr ⟨lw_p14, List.forall_mem_cons.mpr ⟨lw_p15, fun _ h => absurd h List.not_mem_nil⟩⟩⟩⟩⟩⟩⟩⟩⟩⟩⟩⟩⟩⟩⟩⟩
theorem lw_p16 : lw_okq (⟨"OrderedBytes", "changeValue", "(LOrderedBytes$Node;I)V"⟩, 8) := ⟨⟨by decide +kernel, by decide +kernel⟩, List.mem_of_getElem? (i := 20) (by decide +kernel), List.mem_of_getElem? (i := 469) (by decide +kernel), List.mem_of_getElem? (i := 470) (by decide +kernel)⟩
theorem lw_p17 : lw_okq (⟨"OrderedBytes", "readKey", "()I"⟩, 8) := ⟨⟨by decide +kernel, by decide +kernel⟩, List.mem_of_getElem? (i := 20) (by decide +kernel), List.mem_of_getElem? (i := 485) (by decide +kernel), List.mem_of_getElem? (i := 486) (by decide +kernel)⟩
theorem lw_p18 : lw_okq (⟨"OrderedBytes", "showValue", "(LOrderedBytes$Node;)I"⟩, 8) := ⟨⟨by decide +kernel, by decide +kernel⟩, List.mem_of_getElem? (i := 20) (by decide +kernel), List.mem_of_getElem? (i := 506) (by decide +kernel), List.mem_of_getElem? (i := 507) (by decide +kernel)⟩
theorem lw_p19 : lw_okq (⟨"OrderedBytes", "drop", "(LOrderedBytes$Node;)V"⟩, 8) := ⟨⟨by decide +kernel, by decide +kernel⟩, List.mem_of_getElem? (i := 20) (by decide +kernel), List.mem_of_getElem? (i := 521) (by decide +kernel), List.mem_of_getElem? (i := 522) (by decide +kernel)⟩
theorem lw_p20 : lw_okq (⟨"OrderedBytes$Tree", "least", "(LOrderedBytes$Node;)LOrderedBytes$Node;"⟩, 3) := ⟨⟨by decide +kernel, by decide +kernel⟩, List.mem_of_getElem? (i := 88) (by decide +kernel), List.mem_of_getElem? (i := 529) (by decide +kernel), List.mem_of_getElem? (i := 530) (by decide +kernel)⟩
theorem lw_p21 : lw_okq (⟨"OrderedBytes$Tree", "takeOver", "(LOrderedBytes$Node;LOrderedBytes$Node;)V"⟩, 3) := ⟨⟨by decide +kernel, by decide +kernel⟩, List.mem_of_getElem? (i := 88) (by decide +kernel), List.mem_of_getElem? (i := 533) (by decide +kernel), List.mem_of_getElem? (i := 534) (by decide +kernel)⟩
theorem lw_p22 : lw_okq (⟨"OrderedBytes$Tree", "mendMissingBlack", "(LOrderedBytes$Node;)V"⟩, 3) := ⟨⟨by decide +kernel, by decide +kernel⟩, List.mem_of_getElem? (i := 88) (by decide +kernel), List.mem_of_getElem? (i := 537) (by decide +kernel), List.mem_of_getElem? (i := 538) (by decide +kernel)⟩
theorem lw_p23 : lw_okq (⟨"OrderedBytes$Tree", "giveBlackFrom", "(LOrderedBytes$Node;LOrderedBytes$Node;I)V"⟩, 3) := ⟨⟨by decide +kernel, by decide +kernel⟩, List.mem_of_getElem? (i := 88) (by decide +kernel), List.mem_of_getElem? (i := 541) (by decide +kernel), List.mem_of_getElem? (i := 542) (by decide +kernel)⟩
theorem lw_p24 : lw_okq (⟨"OrderedBytes", "goTo", "(LOrderedBytes$Node;)I"⟩, 8) := ⟨⟨by decide +kernel, by decide +kernel⟩, List.mem_of_getElem? (i := 20) (by decide +kernel), List.mem_of_getElem? (i := 558) (by decide +kernel), List.mem_of_getElem? (i := 559) (by decide +kernel)⟩
theorem lw_p25 : lw_okq (⟨"OrderedBytes", "currentPlace", "()I"⟩, 8) := ⟨⟨by decide +kernel, by decide +kernel⟩, List.mem_of_getElem? (i := 20) (by decide +kernel), List.mem_of_getElem? (i := 593) (by decide +kernel), List.mem_of_getElem? (i := 594) (by decide +kernel)⟩
theorem lw_p26 : lw_okq (⟨"OrderedBytesModel", "fail", "(I)I"⟩, 13) := ⟨⟨by decide +kernel, by decide +kernel⟩, List.mem_of_getElem? (i := 637) (by decide +kernel), List.mem_of_getElem? (i := 696) (by decide +kernel), List.mem_of_getElem? (i := 697) (by decide +kernel)⟩
theorem lw_p27 : lw_okq (⟨"OrderedBytesModel", "taken", "()I"⟩, 13) := ⟨⟨by decide +kernel, by decide +kernel⟩, List.mem_of_getElem? (i := 637) (by decide +kernel), List.mem_of_getElem? (i := 705) (by decide +kernel), List.mem_of_getElem? (i := 706) (by decide +kernel)⟩
theorem lw_p28 : lw_okq (⟨"OrderedBytesModel", "find", "(I)I"⟩, 13) := ⟨⟨by decide +kernel, by decide +kernel⟩, List.mem_of_getElem? (i := 637) (by decide +kernel), List.mem_of_getElem? (i := 709) (by decide +kernel), List.mem_of_getElem? (i := 710) (by decide +kernel)⟩
theorem lw_p29 : lw_okq (⟨"OrderedBytesModel", "below", "(IZ)I"⟩, 13) := ⟨⟨by decide +kernel, by decide +kernel⟩, List.mem_of_getElem? (i := 637) (by decide +kernel), List.mem_of_getElem? (i := 713) (by decide +kernel), List.mem_of_getElem? (i := 714) (by decide +kernel)⟩
theorem lw_p30 : lw_okq (⟨"OrderedBytesModel", "compare", "(III)I"⟩, 13) := ⟨⟨by decide +kernel, by decide +kernel⟩, List.mem_of_getElem? (i := 637) (by decide +kernel), List.mem_of_getElem? (i := 717) (by decide +kernel), List.mem_of_getElem? (i := 718) (by decide +kernel)⟩
theorem lw_p31 : lw_okq (⟨"OrderedBytesModel", "start", "(I)I"⟩, 13) := ⟨⟨by decide +kernel, by decide +kernel⟩, List.mem_of_getElem? (i := 637) (by decide +kernel), List.mem_of_getElem? (i := 721) (by decide +kernel), List.mem_of_getElem? (i := 722) (by decide +kernel)⟩
def lw_privs_2 : List (MethodName × Nat) := [(⟨"OrderedBytes", "changeValue", "(LOrderedBytes$Node;I)V"⟩, 8), (⟨"OrderedBytes", "readKey", "()I"⟩, 8), (⟨"OrderedBytes", "showValue", "(LOrderedBytes$Node;)I"⟩, 8), (⟨"OrderedBytes", "drop", "(LOrderedBytes$Node;)V"⟩, 8), (⟨"OrderedBytes$Tree", "least", "(LOrderedBytes$Node;)LOrderedBytes$Node;"⟩, 3), (⟨"OrderedBytes$Tree", "takeOver", "(LOrderedBytes$Node;LOrderedBytes$Node;)V"⟩, 3), (⟨"OrderedBytes$Tree", "mendMissingBlack", "(LOrderedBytes$Node;)V"⟩, 3), (⟨"OrderedBytes$Tree", "giveBlackFrom", "(LOrderedBytes$Node;LOrderedBytes$Node;I)V"⟩, 3), (⟨"OrderedBytes", "goTo", "(LOrderedBytes$Node;)I"⟩, 8), (⟨"OrderedBytes", "currentPlace", "()I"⟩, 8), (⟨"OrderedBytesModel", "fail", "(I)I"⟩, 13), (⟨"OrderedBytesModel", "taken", "()I"⟩, 13), (⟨"OrderedBytesModel", "find", "(I)I"⟩, 13), (⟨"OrderedBytesModel", "below", "(IZ)I"⟩, 13), (⟨"OrderedBytesModel", "compare", "(III)I"⟩, 13), (⟨"OrderedBytesModel", "start", "(I)I"⟩, 13)]
theorem lw_r2 : ∀ q ∈ lw_privs_2, lw_okq q := List.forall_mem_cons.mpr ⟨lw_p16, List.forall_mem_cons.mpr ⟨lw_p17, List.forall_mem_cons.mpr ⟨lw_p18, List.forall_mem_cons.mpr ⟨lw_p19, List.forall_mem_cons.mpr ⟨lw_p20, List.forall_mem_cons.mpr ⟨lw_p21, List.forall_mem_cons.mpr ⟨lw_p22, List.forall_mem_cons.mpr ⟨lw_p23, List.forall_mem_cons.mpr ⟨lw_p24, List.forall_mem_cons.mpr ⟨lw_p25, List.forall_mem_cons.mpr ⟨lw_p26, List.forall_mem_cons.mpr ⟨lw_p27, List.forall_mem_cons.mpr ⟨lw_p28, List.forall_mem_cons.mpr ⟨lw_p29, List.forall_mem_cons.mpr ⟨lw_p30, List.forall_mem_cons.mpr ⟨lw_p31, fun _ h => absurd h List.not_mem_nil⟩⟩⟩⟩⟩⟩⟩⟩⟩⟩⟩⟩⟩⟩⟩⟩
theorem lw_p32 : lw_okq (⟨"OrderedBytesModel", "used", "()I"⟩, 13) := ⟨⟨by decide +kernel, by decide +kernel⟩, List.mem_of_getElem? (i := 637) (by decide +kernel), List.mem_of_getElem? (i := 728) (by decide +kernel), List.mem_of_getElem? (i := 729) (by decide +kernel)⟩
theorem lw_p33 : lw_okq (⟨"OrderedBytesModel", "take", "(I)V"⟩, 13) := ⟨⟨by decide +kernel, by decide +kernel⟩, List.mem_of_getElem? (i := 637) (by decide +kernel), List.mem_of_getElem? (i := 732) (by decide +kernel), List.mem_of_getElem? (i := 733) (by decide +kernel)⟩
theorem lw_p34 : lw_okq (⟨"OrderedBytesModel", "move", "(II)V"⟩, 13) := ⟨⟨by decide +kernel, by decide +kernel⟩, List.mem_of_getElem? (i := 637) (by decide +kernel), List.mem_of_getElem? (i := 736) (by decide +kernel), List.mem_of_getElem? (i := 737) (by decide +kernel)⟩
theorem lw_p35 : lw_okq (⟨"OrderedBytesModel", "insert", "(III)V"⟩, 13) := ⟨⟨by decide +kernel, by decide +kernel⟩, List.mem_of_getElem? (i := 637) (by decide +kernel), List.mem_of_getElem? (i := 740) (by decide +kernel), List.mem_of_getElem? (i := 741) (by decide +kernel)⟩
theorem lw_p36 : lw_okq (⟨"OrderedBytesModel", "told", "(IZ)I"⟩, 13) := ⟨⟨by decide +kernel, by decide +kernel⟩, List.mem_of_getElem? (i := 637) (by decide +kernel), List.mem_of_getElem? (i := 748) (by decide +kernel), List.mem_of_getElem? (i := 749) (by decide +kernel)⟩
def lw_privs_3 : List (MethodName × Nat) := [(⟨"OrderedBytesModel", "used", "()I"⟩, 13), (⟨"OrderedBytesModel", "take", "(I)V"⟩, 13), (⟨"OrderedBytesModel", "move", "(II)V"⟩, 13), (⟨"OrderedBytesModel", "insert", "(III)V"⟩, 13), (⟨"OrderedBytesModel", "told", "(IZ)I"⟩, 13)]
theorem lw_r3 : ∀ q ∈ lw_privs_3, lw_okq q := List.forall_mem_cons.mpr ⟨lw_p32, List.forall_mem_cons.mpr ⟨lw_p33, List.forall_mem_cons.mpr ⟨lw_p34, List.forall_mem_cons.mpr ⟨lw_p35, List.forall_mem_cons.mpr ⟨lw_p36, fun _ h => absurd h List.not_mem_nil⟩⟩⟩⟩⟩
def lw_privs : List (MethodName × Nat) := lw_privs_1 ++ (lw_privs_2 ++ (lw_privs_3))
def lw_tbl : List Cond := k2_sels lw_privs ++ tables_1
theorem lw_privs_ok : ∀ q ∈ lw_privs, lw_okq q := by
  show ∀ q ∈ lw_privs_1 ++ (lw_privs_2 ++ (lw_privs_3)), lw_okq q
  exact List.forall_mem_append.mpr ⟨lw_r1, List.forall_mem_append.mpr ⟨lw_r2, lw_r3⟩⟩
-- ===== end of PART A; then your names; then what follows =====
end
section
/-! ===== BEGIN words of one list among another's, by their places ===== -/
theorem goodIn_r {big : List Cond} (ws : List Cond) (ps : List Nat) (hp : ws = ps.filterMap (fun i => big[i]?)) (h : ws.all goodWord = true) : GoodIn big ws := by
  intro w hw
  have h1 := List.all_eq_true.mp h w hw
  rw [hp] at hw
  obtain ⟨i, -, hi⟩ := List.mem_filterMap.mp hw
  have hm : w ∈ big := by first | exact List.mem_of_getElem? hi | exact List.getElem?_mem hi
  exact ⟨hm, good_of_word h1⟩
theorem goodIn_app {big a b : List Cond} (ha : GoodIn big a) (hb : GoodIn big b) : GoodIn big (a ++ b) := fun w h => (List.mem_append.mp h).elim (ha w) (hb w)
theorem goodIn_ca {big a b : List Cond} {c : Cond} (ha : GoodIn big (c :: a)) (hb : GoodIn big b) : GoodIn big (c :: (a ++ b)) := fun w h => (List.mem_cons.mp h).elim (fun e => ha w (List.mem_cons.mpr (Or.inl e))) (fun h => (List.mem_append.mp h).elim (fun h => ha w (List.mem_cons.mpr (Or.inr h))) (hb w))
theorem goodIn_sub {big ws : List Cond} (hm : ∀ w ∈ ws, w ∈ big) (h : ws.all goodWord = true) : GoodIn big ws := fun w hw => ⟨hm w hw, good_of_word (List.all_eq_true.mp h w hw)⟩
/-! ===== END ===== -/

/-! ===== BEGIN exceptions that leave a method, and their catching by the caller (launches without stack traces) ===== -/
/-! ===== own rows: the search for a handler through rows of the table whose classes may not have been resolved yet (the library's laws of this lie in a shelf that the rounds do not have) ===== -/
section OBC
variable {e : Env}
def ob_Finds (e : Env) (s : State) (f : JFrame) (a : Addr) (h : Handler) (vm' : Vm) : Prop :=
  ∀ (Q : Handler → Pre) (E : CtlPost) (d : Bool) (acts : List Action), wp (findHandler f a) Q E e d acts s ↔ Q h d acts (s.setVm vm')
theorem ob_go_one {Q : Handler → Pre} {E : CtlPost} {d : Bool} {acts : List Action} {s : State} {f : JFrame} {a : Addr} {x : ExceptionTableEntry} {t : List ExceptionTableEntry} {c : ClassId} {cell : Cell} (hx : covers x f.pc = true) (h0 : x.catchType ≠ 0)
    (hl : s.vm.ClassLinks e.platform f.method.cls x.catchType c) (hcell : s.heap[a]? = some cell) (hobj : ∀ k, cell.vm ≠ .statics k) (hk : ∃ k, s.vm.classes[cell.cls]? = some k) (hc : ∃ k, s.vm.classes[c]? = some k) :
    wp (findHandler.go f a (x :: t)) Q E e d acts s ↔ if s.vm.assignable cell.cls c = true then Q (.found x.handlerPc) d acts (s.setVm (s.vm.noted f.method.cls x.catchType (.cls c))) else wp (findHandler.go f a t) Q E e d acts (s.setVm (s.vm.noted f.method.cls x.catchType (.cls c))) := by
  simp only [covers] at hx
  obtain ⟨ha, ht⟩ := (resolveClass_links e.toSetting hl).op (op := VmOp.resolveClass f.method.cls x.catchType) rfl
  have hal : s.vm.Alike (s.vm.noted f.method.cls x.catchType (.cls c)) := (Vm.Alike.refl s.vm).noted _ _ _
  obtain ⟨k1, hk1⟩ := hk
  obtain ⟨k2, hk2⟩ := hc
  obtain ⟨k1', hk1', -⟩ := hal.2.2 _ _ hk1
  obtain ⟨k2', hk2', -⟩ := hal.2.2 _ _ hk2
  have hfit := hal.assignable cell.cls c
  cases hz : s.vm.assignable cell.cls c with
  | true =>
    rw [hz] at hfit
    simp [findHandler.go, hx, h0, ha, ht, hcell, hobj, hk1', hk2', hfit, VmOp.dirties, VmOp.acts]
  | false =>
    rw [hz] at hfit
    simp [findHandler.go, hx, h0, ha, ht, hcell, hobj, hk1', hk2', hfit, VmOp.dirties, VmOp.acts]
theorem ob_go_all {s₀ : State} {f : JFrame} {a : Addr} {cell : Cell} (hobj : ∀ k, cell.vm ≠ .statics k) (hk0 : ∃ k, s₀.vm.classes[cell.cls]? = some k) (x : ExceptionTableEntry) (rest : List ExceptionTableEntry) (hx : covers x f.pc = true)
    (h0 : x.catchType ≠ 0) {cx : ClassId} (hlx : s₀.vm.ClassLinks e.platform f.method.cls x.catchType cx) (hfx : s₀.vm.assignable cell.cls cx = true) :
    ∀ (pre : List ExceptionTableEntry) (S : State), s₀.WarmedH S.vm → S.heap[a]? = some cell → (∀ y ∈ pre, covers y f.pc = false ∨ (y.catchType ≠ 0 ∧ ∃ c, s₀.vm.ClassLinks e.platform f.method.cls y.catchType c ∧ s₀.vm.assignable cell.cls c = false)) →
      ∃ vm', s₀.WarmedH vm' ∧ ∀ (Q : Handler → Pre) (E : CtlPost) (d : Bool) (acts : List Action), wp (findHandler.go f a (pre ++ x :: rest)) Q E e d acts S ↔ Q (.found x.handlerPc) d acts (S.setVm vm') := by
  obtain ⟨k0, hk0⟩ := hk0
  intro pre
  induction pre with
  | nil =>
    intro S hW hcell _
    obtain ⟨k0', hk0', -⟩ := hW.alike.2.2 _ _ hk0
    obtain ⟨dk, _, _, kt, hd, _, _, _, _, hkt, _, hopen⟩ := hlx.here
    obtain ⟨kt', hkt', -⟩ := hW.alike.2.2 _ _ hkt
    refine ⟨_, hW.noted hd hopen (State.rightAt_cls hlx), fun Q E d acts => ?_⟩
    rw [List.nil_append, ob_go_one hx h0 (hW.classLinks hlx) hcell hobj ⟨k0', hk0'⟩ ⟨kt', hkt'⟩, if_pos (by rw [hW.alike.assignable]; exact hfx)]
  | cons y ys ih =>
    intro S hW hcell hpass
    obtain ⟨k0', hk0', -⟩ := hW.alike.2.2 _ _ hk0
    have hr := fun z hz => hpass z (List.mem_cons_of_mem _ hz)
    by_cases hcov : covers y f.pc = true
    · rcases hpass y (List.mem_cons_self ..) with h | ⟨hy0, c, hl, hno⟩
      · rw [h] at hcov; cases hcov
      · obtain ⟨dk, _, _, kt, hd, _, _, _, _, hkt, _, hopen⟩ := hl.here
        obtain ⟨kt', hkt', -⟩ := hW.alike.2.2 _ _ hkt
        obtain ⟨vm', hW', hq⟩ := ih (S.setVm (S.vm.noted f.method.cls y.catchType (.cls c))) (hW.noted hd hopen (State.rightAt_cls hl)) hcell hr
        refine ⟨vm', hW', fun Q E d acts => ?_⟩
        rw [List.cons_append, ob_go_one hcov hy0 (hW.classLinks hl) hcell hobj ⟨k0', hk0'⟩ ⟨kt', hkt'⟩, if_neg (by rw [hW.alike.assignable, hno]; decide)]
        exact hq Q E d acts
    · obtain ⟨vm', hW', hq⟩ := ih S hW hcell hr
      refine ⟨vm', hW', fun Q E d acts => ?_⟩
      rw [List.cons_append, Jvm.W.findHandler_go_skip (by simpa using hcov)]
      exact hq Q E d acts
theorem ob_caught {tb : Tables} {s target : State} {g : JFrame} {c : Code} {below : List Frame} {a : Addr} (h : At s g.method c below) {pc : Nat} {vm' : Vm}
    (hfind : ob_Finds e ((s.setTop g).pushFrame (.throwing a)) g a (.found pc) vm') (hrest : Steps tb e below ((s.setVm vm').setTop { g with pc := pc, stack := [.ref a] }) target) :
    Steps tb e below ((s.setTop g).pushFrame (.throwing a)) target := by
  obtain ⟨hgo, hw⟩ := h.throwing a
  have hstep : ∀ (S : State) (r : List Frame), ob_Finds e S g a (.found pc) vm' → (stepThrowing e S a (.java g :: r)).1 = (S.setVm vm').setFrames (.java { g with pc := pc, stack := [.ref a] } :: r) := by
    intro S r hf
    simp only [stepThrowing, searchFrame, vmDo]
    generalize hr : Sem.go _ e false [] S = res
    obtain ⟨as, rfl, ha⟩ := Sem.eq_ok_of hr (a := Handler.found pc) (s' := S.setVm vm') (acts' := []) (by simp [hf _ _ _ _])
    rfl
  refine Steps.head hgo hw ?_
  rw [stepThread_throwing (frames_entered h.top _), hstep _ _ hfind]
  obtain ⟨g₀, hg⟩ := Option.isSome_iff_exists.mp h.top
  obtain ⟨r, hr⟩ := State.topJava?_eq_some.mp hg
  have hr' : (s.setVm vm').frames = .java g₀ :: r := hr
  have ht : ∀ (u : State) (F G : List Frame), ((u.setFrames F).setVm vm').setFrames G = (u.setVm vm').setFrames G := by
    intro u F G
    rw [show (u.setFrames F).setVm vm' = (u.setVm vm').setFrames F from rfl, State.setFrames_setFrames]
  rw [State.setTop_of_frames _ hr'] at hrest
  rw [hr, List.tail_cons, State.pushFrame, ht, State.setTop_of_frames _ hr, ht]
  exact hrest
end OBC
section VXA
/-! The laws vx_back, vx_callV, vx_callS, vx_callSW, vx_throw0, vx_throwS follow proofs of the library, with one case more: JvmDerived/Free/Laws.lean (Back.of_free), Shelf42/LK1.lean (callV, callS), Shelf/KitTraced.lean (throwNew0V, throwNewS). -/
/-- where a method has thrown q: the class by its name, the cell, what was written, the world -/
def vx_T (XC : String → State → State → Prop) (st : State) (q : Addr) (t : State) (mc ms : Nat) (free : Addr → Prop) : Prop :=
  ∃ (E : String) (ce : Cell) (L : List Loc), XC E st t ∧ t.heap[q]? = some ce ∧ ce.vm = .none ∧ st.vm.findClass E = some ce.cls ∧ st.WarmedH t.vm ∧ st.sameButNew ({ t with vm := st.vm } : State) L mc ms ∧ ∀ z ∈ L, free z.base
def vx_Q (Qc : Array Value → State → Outcome → State → Prop) (XC : String → State → State → Prop) (mc ms : Nat) (free : Addr → Prop) : Array Value → State → Outcome → State → Prop := fun a st o t =>
  (Qc a st o t ∧ ∃ L, FrameEnd st o t L mc ms ∧ ∀ q ∈ L, free q.base) ∨ ∃ q, o = .threw q ∧ vx_T XC st q t mc ms free
/-- a callee that returns or throws -/
def vx_Met (l : Launch) (y : MethodName) (ws : List Cond) (rm : Room) (Pc : Array Value → State → Prop) (Qc : Array Value → State → Outcome → State → Prop) (XC : String → State → State → Prop) (mc ms : Nat) (free : Addr → Prop) : Prop :=
  MetFree l y (headSpec ws rm) Pc (fun _ _ _ _ _ => True) (vx_Q Qc XC mc ms free)
def vx_Post (XC : String → State → State → Prop) (mc ms : Nat) (free : Addr → Prop) : Pt → Array Value → Addr → Pt → Prop := fun A a q B =>
  ∃ (g : JFrame) (mk : MethodId) (t : State) (L : List Loc) (E : String) (ce : Cell), B.U.heap = t.heap ∧ B.U.vm = t.vm ∧ XC E (A.U.calling g mk a) t ∧ t.heap[q]? = some ce ∧ ce.vm = .none ∧ A.U.vm.findClass E = some ce.cls ∧ B.locs = A.locs ++ L ∧ (∀ z ∈ L, free z.base) ∧ B.cells = A.cells + mc ∧ B.slots = A.slots + ms
def vx_Back (l : Launch) (R : Room) (p : Program) (e : Env) (below : List Frame) (s : State) (sargs : Array Value) (y : MethodName) (len W9 : Nat)
    (Pre : Pt → Array Value → Prop) (Post : Pt → Array Value → Option Value → Pt → Prop) (PostX : Pt → Array Value → Addr → Pt → Prop) : Prop :=
  ∀ (m : MethodId) (meth : Method) (c : Code) (A : Pt) (g : JFrame) (ig : Instr) (mk : MethodId) (a : Array Value),
    Stand p l e R s m sargs below meth c A.U A.locs A.cells A.slots → g.method = m → g.locals.size = c.maxLocals → decode c.code g.pc = .ok (ig, len) →
    2 * g.monitorRoom + (g.stack.map fun v => v.category).sum ≤ W9 → A.U.methodNamed? y = some mk → Pre A a →
    (∃ (v : Option Value) (B : Pt), Stand p l e R s m sargs below meth c B.U B.locs B.cells B.slots ∧ Post A a v B ∧
      Steps p.tables e below (doInvoke e (A.U.setTop g) [] mk a).1 (B.U.setTop { g with pc := g.pc + len, stack := v.toList ++ g.stack })) ∨
    (∃ (q : Addr) (B : Pt), Stand p l e R s m sargs below meth c B.U B.locs B.cells B.slots ∧ PostX A a q B ∧
      Steps p.tables e below (doInvoke e (A.U.setTop g) [] mk a).1 ((B.U.setTop g).pushFrame (.throwing q)))
section Payer
variable {l : Launch} {R : Room} {p : Program} {e : Env} {below : List Frame} {s : State} {sargs : Array Value} {y : MethodName} {len W9 : Nat}
theorem vx_back {ws : List Cond} {rm : Room} {Pc : Array Value → State → Prop} {Qc : Array Value → State → Outcome → State → Prop} {XC : String → State → State → Prop} {mc ms : Nat} {free : Addr → Prop} {bytes : ByteArray} {maxL : Nat} {ret : Option FieldType}
    (hM : vx_Met l y ws rm Pc Qc XC mc ms free) (hblind : FrameBlind Pc) (hrc : rm.cells = mc) (hrs : rm.slots = ms)
    (hframes : rm.frames + 1 ≤ R.frames) (hlocals : W9 + (maxL + 11) + rm.locals ≤ R.locals)
    (hws : ∀ w ∈ ws, ∀ a' U, s.WarmedH U.vm → w.before a' U = true) (hcode : Cond.code y bytes maxL ret ∈ ws) (hinit : ∀ a' U, s.WarmedH U.vm → (Cond.initialized y.cls).before a' U = true) :
    vx_Back l R p e below s sargs y len W9 (PreOf R mc ms Pc) (PostOf Qc mc ms free) (vx_Post XC mc ms free) := by
  intro m meth c A g ig mk a X hg hsize hdg hW hn hp
  have h1 : (headSpec ws rm).pre.before a A.U = true := atoms_intro fun w hw => hws w hw _ _ X.warmed
  have h2 : (Cond.code y bytes maxL ret).before a A.U = true := hws _ hcode _ _ X.warmed
  have h3 : (Cond.initialized y.cls).before a A.U = true := hinit _ _ X.warmed
  have h4 : A.cells + (headSpec ws rm).room.cells ≤ R.cells := by rw [show (headSpec ws rm).room.cells = mc from hrc]; exact hp.1
  have h5 : A.slots + (headSpec ws rm).room.slots ≤ R.slots := by rw [show (headSpec ws rm).room.slots = ms from hrs]; exact hp.2.1
  have hPc : Pc a (A.U.calling g mk a) := hblind _ _ _ _ hp.2.2
  obtain ⟨U, Ls, c0, s0⟩ := A
  dsimp only [Pt.U, Pt.locs, Pt.cells, Pt.slots] at h1 h2 h3 h4 h5 X hn hPc ⊢
  obtain ⟨methY, cY, hmY, hcY, -, hlY, -, -, -, -⟩ := Cond.code_spec hn h2
  obtain ⟨kY, hkY, -⟩ := className_of_methodNamed hn
  have hinitY : kY.init = .initialized := Cond.initialized_spec (findClass_of_methodNamed hn) hkY h3
  have h : At U g.method c below := by rw [hg]; exact X.here
  have hlocals9 : W9 + (maxL + 11) + (headSpec ws rm).room.locals ≤ R.locals := hlocals
  have happ : (headSpec ws rm).appliesLoose y e.platform (U.calling g mk a) = true :=
    Spec.appliesLoose_calling (g := g) h hdg hn hkY hinitY
      (X.room_calling (g := g) (R' := (headSpec ws rm).room) hsize hmY hcY hframes (by rw [hlY]; omega) h4 h5) h1
  obtain ⟨mid, hmid⟩ := h.above
  have hfr : (U.setTop g).frames = (.java g :: mid) ++ below := by rw [State.frames_setTop' g h.top, hmid]; rfl
  obtain ⟨o, s₂, hsteps, -, hend, hq⟩ := Steps.callFree hM p X.admits X.cas X.clock (acts := []) hfr happ hPc trivial
  have hq' : vx_Q Qc XC mc ms free a (U.calling g mk a) o s₂ := hq
  rw [State.frames_setTop' g h.top] at hend
  obtain ⟨g₀, hg0⟩ := Option.isSome_iff_exists.mp h.top
  obtain ⟨r, hr⟩ := State.topJava?_eq_some.mp hg0
  have hr' : (({ U with heap := s₂.heap, slotsUsed := s₂.slotsUsed } : State).setVm s₂.vm).frames = .java g₀ :: r := hr
  rcases hq' with ⟨hqc, L, hfe, hL⟩ | ⟨q, rfl, E, ce, L, hx, hce, hcv, hcl, hW₂, hsm, hL⟩
  · obtain ⟨⟨v, rfl⟩, hW₂, e2, q2, q3, q4, q5, q6⟩ := id hfe
    have e3 : s₂ = ({ (U.calling g mk a).setFrames s₂.frames with heap := s₂.heap, slotsUsed := s₂.slotsUsed } : State).setVm s₂.vm := by
      have : s₂ = ({ s₂ with vm := (U.calling g mk a).vm } : State).setVm s₂.vm := rfl
      rw [e2] at this
      exact this
    obtain ⟨c₂, i₂, len₂, hc₂, hd₂, hf₂⟩ := hend
    have hW' : U.WarmedH s₂.vm := hW₂
    have hcc : c₂ = c := by
      have h1 : s₂.code? g.method = U.code? g.method := by
        rw [State.code?_eq, State.code?_eq, hW'.alike.method?]
      exact Option.some.inj (hc₂.symm.trans (h1.trans h.code))
    subst hcc
    have hlen : len₂ = len := by rw [hdg] at hd₂; cases hd₂; rfl
    subst hlen
    have hs₂ : s₂ = (({ U with heap := s₂.heap, slotsUsed := s₂.slotsUsed } : State).setVm s₂.vm).setTop { g with pc := g.pc + len₂, stack := v.toList ++ g.stack } := by
      refine e3.trans ?_
      rw [hf₂, State.calling_eq h.top, State.setFrames_setFrames, State.setTop_of_frames _ hr', hr]
      rfl
    have hsame : U.sameButNew ({ U with heap := s₂.heap, slotsUsed := s₂.slotsUsed } : State) L mc ms := by
      refine ⟨?_, q2, q3, q4, q5, q6⟩
      obtain ⟨t, ht, -⟩ := State.frames_cons hr
      show ({ U with heap := s₂.heap, slotsUsed := s₂.slotsUsed } : State) = { U.setFrames U.frames with heap := s₂.heap, slotsUsed := s₂.slotsUsed }
      rw [State.setFrames_self ht]
    subst hg
    refine Or.inl ⟨v, ⟨(({ U with heap := s₂.heap, slotsUsed := s₂.slotsUsed } : State).setVm s₂.vm), Ls ++ L, c0 + mc, s0 + ms⟩,
      ⟨X.admits, X.cas, X.clock, X.frames, X.room, X.hears, X.method, X.code, (X.here.setHeapUsed s₂.heap s₂.slotsUsed).setVm hW'.alike, X.tail, State.WarmedH.trans X.warmed hW', X.limits, X.bytes, X.same.trans (hsame.setVm s.vm)⟩,
      ⟨g, mk, s₂, L, rfl, rfl, hqc, rfl, hL, rfl, rfl⟩, ?_⟩
    show Steps p.tables e below _ ((({ U with heap := s₂.heap, slotsUsed := s₂.slotsUsed } : State).setVm s₂.vm).setTop { g with pc := g.pc + len₂, stack := v.toList ++ g.stack })
    rw [← hs₂]
    exact hsteps
  · obtain ⟨e2, q2, q3, q4, q5, q6⟩ := id hsm
    have e3 : s₂ = ({ (U.calling g mk a).setFrames s₂.frames with heap := s₂.heap, slotsUsed := s₂.slotsUsed } : State).setVm s₂.vm := by
      have : s₂ = ({ s₂ with vm := (U.calling g mk a).vm } : State).setVm s₂.vm := rfl
      rw [e2] at this
      exact this
    have hf₂ : s₂.frames = .throwing q :: .java g :: U.frames.tail := hend
    have hW' : U.WarmedH s₂.vm := hW₂
    have hs₂ : s₂ = ((({ U with heap := s₂.heap, slotsUsed := s₂.slotsUsed } : State).setVm s₂.vm).setTop g).pushFrame (.throwing q) := by
      refine e3.trans ?_
      rw [hf₂, State.calling_eq h.top, State.setFrames_setFrames, State.pushFrame, State.frames_setTop _ hr', State.setTop_of_frames _ hr', State.setFrames_setFrames, hr]
      rfl
    have hsame : U.sameButNew ({ U with heap := s₂.heap, slotsUsed := s₂.slotsUsed } : State) L mc ms := by
      refine ⟨?_, q2, q3, q4, q5, q6⟩
      obtain ⟨t, ht, -⟩ := State.frames_cons hr
      show ({ U with heap := s₂.heap, slotsUsed := s₂.slotsUsed } : State) = { U.setFrames U.frames with heap := s₂.heap, slotsUsed := s₂.slotsUsed }
      rw [State.setFrames_self ht]
    subst hg
    refine Or.inr ⟨q, ⟨(({ U with heap := s₂.heap, slotsUsed := s₂.slotsUsed } : State).setVm s₂.vm), Ls ++ L, c0 + mc, s0 + ms⟩,
      ⟨X.admits, X.cas, X.clock, X.frames, X.room, X.hears, X.method, X.code, (X.here.setHeapUsed s₂.heap s₂.slotsUsed).setVm hW'.alike, X.tail, State.WarmedH.trans X.warmed hW', X.limits, X.bytes, X.same.trans (hsame.setVm s.vm)⟩,
      ⟨g, mk, s₂, L, E, ce, rfl, rfl, hx, hce, hcv, hcl, rfl, hL, rfl, rfl⟩, ?_⟩
    show Steps p.tables e below _ (((({ U with heap := s₂.heap, slotsUsed := s₂.slotsUsed } : State).setVm s₂.vm).setTop g).pushFrame (.throwing q))
    rw [← hs₂]
    exact hsteps
end Payer
section Calls
variable {p : Program} {l : Launch} {e : Env} {R : Room} {s : State} {m : MethodId} {args : Array Value} {below : List Frame} {meth : Method} {c : Code} {T : State} {locs : List Loc} {cells slots : Nat}
theorem vx_callV (X : Stand p l e R s m args below meth c T locs cells slots) (hexec : p.tables.exec = Jvm.exec) {own C : String} {index : Nat} {y : MethodName} {bytes : ByteArray} {maxL : Nat} {ret : Option FieldType}
    (hown : s.vm.findClass own = some m.cls) (hlink : (Cond.methodLink own index y).before args s = true) (hinst : (Cond.instanceMethod y).before args s = true) (hsel : (Cond.selects C y y).before args s = true)
    (hcode : (Cond.code y bytes maxL ret).before args s = true) (hy : y.cls ≠ "java/lang/invoke/MethodHandle" ∧ y.cls ≠ "java/lang/invoke/VarHandle")
    {W9 : Nat} {Pre : Pt → Array Value → Prop} {Post : Pt → Array Value → Option Value → Pt → Prop} {PostX : Pt → Array Value → Addr → Pt → Prop} (hK : vx_Back l R p e below s args y 3 W9 Pre Post PostX)
    {b : Addr} {cellB : Cell} (hcell : T.heap[b]? = some cellB) (hobj : cellB.vm.isStatics = false) (hcls : s.vm.findClass C = some cellB.cls)
    {g : JFrame} (hg : g.method = m) (hsize : g.locals.size = c.maxLocals) {argsL rest : List Value} (hlen : ∀ sig, parseMethodDescriptor y.desc = some sig → argsL.length = sig.parameters.length)
    (hstack : g.stack = argsL.reverse ++ .ref b :: rest) (hW : 2 * g.monitorRoom + (rest.map fun v => v.category).sum ≤ W9) (hdg : decode c.code g.pc = .ok (.invokevirtual index, 3))
    (hpre : ∀ vm₁, s.WarmedH vm₁ → Pre ⟨T.setVm vm₁, locs, cells, slots⟩ (Value.ref b :: argsL).toArray) :
    (∃ (v : Option Value) (vm₁ : Vm) (B : Pt), s.WarmedH vm₁ ∧ Stand p l e R s m args below meth c B.U B.locs B.cells B.slots ∧ Post ⟨T.setVm vm₁, locs, cells, slots⟩ (Value.ref b :: argsL).toArray v B ∧
      ∀ target, Steps p.tables e below (B.U.setTop { g with pc := g.pc + 3, stack := v.toList ++ rest }) target → Steps p.tables e below (T.setTop g) target) ∨
    (∃ (q : Addr) (vm₁ : Vm) (B : Pt), s.WarmedH vm₁ ∧ Stand p l e R s m args below meth c B.U B.locs B.cells B.slots ∧ PostX ⟨T.setVm vm₁, locs, cells, slots⟩ (Value.ref b :: argsL).toArray q B ∧
      Steps p.tables e below (T.setTop g) ((B.U.setTop { g with stack := rest }).pushFrame (.throwing q))) := by
  obtain ⟨mk, methM, hnamed, hmethM, hstM, habM⟩ := Cond.instanceMethod_spec hinst
  obtain ⟨methM', cM, hmethM', -, -, -, -, -, -, hsigM⟩ := Cond.code_spec hnamed hcode
  cases hmethM.symm.trans hmethM'
  obtain ⟨c2, r2, m2, q1, q2, q3, q4, kP, hkP, hkPi⟩ := Cond.selects_spec hsel
  cases hcls.symm.trans q1
  cases (State.methodFound?_of_named hnamed hy).symm.trans q2
  cases hnamed.symm.trans q3
  have hselP : selectMethod e.platform s.vm cellB.cls mk = .method mk := by rw [Launch.admits_selectMethod X.admits]; exact q4
  obtain ⟨vm₁, X₁, hstep₁⟩ := X.invokevirtual hexec hown hlink hnamed hmethM hstM hkP hkPi hy (a := b) (cell := cellB) hcell
    (fun z h => by rw [h] at hobj; cases hobj) hselP hmethM habM hkP hkPi (g := g) hg (argsL := argsL) (rest := rest) (hlen _ hsigM) hstack hdg
  rcases hK m meth c ⟨T.setVm vm₁, locs, cells, slots⟩ { g with stack := rest } (.invokevirtual index) mk (Value.ref b :: argsL).toArray X₁ hg hsize hdg hW (X₁.named hnamed) (hpre vm₁ X₁.warmed) with ⟨v, B, X', hpost, hsteps⟩ | ⟨q, B, X', hpost, hsteps⟩
  · exact Or.inl ⟨v, vm₁, B, X₁.warmed, X', hpost, fun target h => hstep₁ _ fun acts => by rw [doInvoke_state]; exact hsteps.trans h⟩
  · exact Or.inr ⟨q, vm₁, B, X₁.warmed, X', hpost, hstep₁ _ fun acts => by rw [doInvoke_state]; exact hsteps⟩
theorem vx_callS (X : Stand p l e R s m args below meth c T locs cells slots) (hexec : p.tables.exec = Jvm.exec) {own : String} {index : Nat} {y : MethodName} {bytes : ByteArray} {maxL : Nat} {ret : Option FieldType}
    (hown : s.vm.findClass own = some m.cls) (hlink : (Cond.methodLink own index y).before args s = true) (hstat : (Cond.static y).before args s = true) (hinit : (Cond.initialized y.cls).before args s = true)
    (hcode : (Cond.code y bytes maxL ret).before args s = true) (hy : y.cls ≠ "java/lang/invoke/MethodHandle" ∧ y.cls ≠ "java/lang/invoke/VarHandle")
    {W9 : Nat} {Pre : Pt → Array Value → Prop} {Post : Pt → Array Value → Option Value → Pt → Prop} {PostX : Pt → Array Value → Addr → Pt → Prop} (hK : vx_Back l R p e below s args y 3 W9 Pre Post PostX)
    {g : JFrame} (hg : g.method = m) (hsize : g.locals.size = c.maxLocals) {argsL rest : List Value} (hlen : ∀ sig, parseMethodDescriptor y.desc = some sig → argsL.length = sig.parameters.length)
    (hstack : g.stack = argsL.reverse ++ rest) (hW : 2 * g.monitorRoom + (rest.map fun v => v.category).sum ≤ W9) (hdg : decode c.code g.pc = .ok (.invokestatic index, 3))
    (hpre : ∀ vm₁, s.WarmedH vm₁ → Pre ⟨T.setVm vm₁, locs, cells, slots⟩ argsL.toArray) :
    (∃ (v : Option Value) (vm₁ : Vm) (B : Pt), s.WarmedH vm₁ ∧ Stand p l e R s m args below meth c B.U B.locs B.cells B.slots ∧ Post ⟨T.setVm vm₁, locs, cells, slots⟩ argsL.toArray v B ∧
      ∀ target, Steps p.tables e below (B.U.setTop { g with pc := g.pc + 3, stack := v.toList ++ rest }) target → Steps p.tables e below (T.setTop g) target) ∨
    (∃ (q : Addr) (vm₁ : Vm) (B : Pt), s.WarmedH vm₁ ∧ Stand p l e R s m args below meth c B.U B.locs B.cells B.slots ∧ PostX ⟨T.setVm vm₁, locs, cells, slots⟩ argsL.toArray q B ∧
      Steps p.tables e below (T.setTop g) ((B.U.setTop { g with stack := rest }).pushFrame (.throwing q))) := by
  obtain ⟨mk, hnamed⟩ := Cond.code_named hcode
  obtain ⟨methM, cM, hmethM, -, -, -, -, -, -, hsigM⟩ := Cond.code_spec hnamed hcode
  have hstatic : methM.isStatic = true := Cond.static_spec hnamed hmethM hstat
  obtain ⟨kP, hkP, -⟩ := className_of_methodNamed hnamed
  have hinitP : kP.init = .initialized := Cond.initialized_spec (findClass_of_methodNamed hnamed) hkP hinit
  obtain ⟨vm₁, X₁, hstep₁⟩ := X.invokestatic hexec hown hlink hnamed hmethM hstatic hkP hinitP hy (g := g) hg (argsL := argsL) (rest := rest) (hlen _ hsigM) hstack hdg
  rcases hK m meth c ⟨T.setVm vm₁, locs, cells, slots⟩ { g with stack := rest } (.invokestatic index) mk argsL.toArray X₁ hg hsize hdg hW (X₁.named hnamed) (hpre vm₁ X₁.warmed) with ⟨v, B, X', hpost, hsteps⟩ | ⟨q, B, X', hpost, hsteps⟩
  · exact Or.inl ⟨v, vm₁, B, X₁.warmed, X', hpost, fun target h => hstep₁ _ fun acts => by rw [doInvoke_state]; exact hsteps.trans h⟩
  · exact Or.inr ⟨q, vm₁, B, X₁.warmed, X', hpost, hstep₁ _ fun acts => by rw [doInvoke_state]; exact hsteps⟩
end Calls
theorem vx_cls {s : State} {T : State} {vm₁ : Vm} {E : String} {k : ClassId} (hW : s.WarmedH vm₁) (h : (T.setVm vm₁).vm.findClass E = some k) : s.vm.findClass E = some k := by
  have h1 : vm₁.findClass E = some k := h
  rw [hW.alike.findClass] at h1
  exact h1
/-- the method's frame g, with q thrown over it -/
def vx_W (p : Program) (l : Launch) (e : Env) (R : Room) (s : State) (m : MethodId) (args : Array Value) (below : List Frame) (meth : Method) (c : Code) (H : Heap) (locs : List Loc) (cells slots : Nat) (Q : State → Prop) (g : JFrame) (q : Addr) : Prop :=
  ∀ T : State, T.heap = H → Stand p l e R s m args below meth c T locs cells slots → ∃ t, Steps p.tables e below ((T.setTop g).pushFrame (.throwing q)) t ∧ Q t
def vx_Run (p : Program) (l : Launch) (e : Env) (R : Room) (s : State) (m : MethodId) (args : Array Value) (below : List Frame) (meth : Method) (c : Code) (H : Heap) (locs : List Loc) (cells slots mc ms : Nat) (g : JFrame) (rest : List Value) (Qa : State → Outcome → State → Prop) (XC : String → State → State → Prop) (free : Addr → Prop) : Prop :=
  ∀ T : State, T.heap = H → Stand p l e R s m args below meth c T locs cells slots →
    (∃ (v : Option Value) (st₀ t T' : State) (L : List Loc), st₀.heap = H ∧ Stand p l e R s m args below meth c T' (locs ++ L) (cells + mc) (slots + ms) ∧ (∀ q ∈ L, free q.base) ∧ T'.heap = t.heap ∧ T'.vm = t.vm ∧ Qa st₀ (.returned v) t ∧
      Goes p e below T g T' { g with pc := g.pc + 3, stack := v.toList ++ rest }) ∨
    (∃ (q : Addr) (st₀ t T' : State) (L : List Loc) (E : String) (ce : Cell), st₀.heap = H ∧ Stand p l e R s m args below meth c T' (locs ++ L) (cells + mc) (slots + ms) ∧ (∀ z ∈ L, free z.base) ∧ T'.heap = t.heap ∧ T'.vm = t.vm ∧ XC E st₀ t ∧ t.heap[q]? = some ce ∧ ce.vm = .none ∧ s.vm.findClass E = some ce.cls ∧
      Steps p.tables e below (T.setTop g) ((T'.setTop { g with stack := rest }).pushFrame (.throwing q)))
def vx_X {S : Type} (px : S → Prop) (B : String → S → State → Prop) (A : Nat → Prop) : String → State → State → Prop := fun E st t => ∃ u : S, px u ∧ B E u t ∧ va_F A st t
section Runs
variable {p : Program} {l : Launch} {e : Env} {R : Room} {s : State} {m : MethodId} {args : Array Value} {below : List Frame} {meth : Method} {c : Code} {H : Heap} {locs : List Loc} {cells slots : Nat}
variable {y : MethodName} {bytes cc : ByteArray} {maxL nL mc ms n index : Nat} {ret : Option FieldType} {ws : List Cond} {rm : Room} {Pc : Array Value → State → Prop} {Qc : Array Value → State → Outcome → State → Prop} {XC : String → State → State → Prop} {free : Addr → Prop} {Ts : List Cond} {own C : String} {b : Addr} {As rest : List Value} {g : JFrame}
theorem vx_callBack (cb : CallB R s args own index y bytes maxL ret ws rm mc ms n) (hM : vx_Met l y ws rm Pc Qc XC mc ms free) (hbl : FrameBlind Pc) : vx_Back l R p e below s args y 3 8 (PreOf R mc ms Pc) (PostOf Qc mc ms free) (vx_Post XC mc ms free) := by
  obtain ⟨hrc, hrs, hfr, hlo, hws, hcw, -, hini, -⟩ := cb
  exact vx_back (bytes := bytes) (maxL := maxL) (ret := ret) hM hbl hrc hrs hfr hlo hws hcw (fun a' U hW => word_at hW (Or.inl (by first | rfl | simp [Cond.onTables, Cond.keeps, Cond.steady])) hini)
theorem vx_runV (S : CallFix p m c cc nL s args Ts own) (hM : vx_Met l y ws rm Pc Qc XC mc ms free) (cw : CallW R s args own C index y bytes maxL ret ws rm mc ms n) (hp : PreV s H C b Pc As)
    (hg : g.method = m) (hn : As.length = n) (hsize : g.locals.size = nL) (hstack : g.stack = As.reverse ++ .ref b :: rest) (hW : 2 * g.monitorRoom + (rest.map fun v => v.category).sum ≤ 8) (hdg : decode cc g.pc = .ok (.invokevirtual index, 3)) (hf : cells + mc ≤ R.cells ∧ slots + ms ≤ R.slots) :
    vx_Run p l e R s m args below meth c H locs cells slots mc ms g rest (Qc (Value.ref b :: As).toArray) XC free := by
  have hK : vx_Back l R p e below s args y 3 8 (PreOf R mc ms Pc) (PostOf Qc mc ms free) (vx_Post XC mc ms free) := vx_callBack cw.1 hM hp.1
  obtain ⟨⟨-, -, -, -, -, -, hcode, -, hy, hlen, hl⟩, hin, hse⟩ := cw
  obtain ⟨hx, hb, hml, ho, -⟩ := S
  obtain ⟨-, ⟨cellB, hcB, hoB, hclB⟩, hPc⟩ := hp
  intro T hT X
  rcases vx_callV X hx (C := C) (bytes := bytes) (maxL := maxL) (ret := ret) ho hl hin hse hcode hy hK (by rw [hT]; exact hcB) hoB hclB hg (hsize.trans hml.symm) (argsL := As) (rest := rest) (fun sig h => hn.trans (hlen sig h)) hstack hW (by rw [hb]; exact hdg)
    (fun vm₁ hW₁ => ⟨hf.1, hf.2, hPc (T.setVm vm₁) hT hW₁⟩) with ⟨v, vm₁, ⟨U', l2, c2, s2⟩, hW₁, X', ⟨g', mk, t, L, e1, e2, hq, h1, hL, h2, h3⟩, st⟩ | ⟨q, vm₁, ⟨U', l2, c2, s2⟩, hW₁, X', ⟨g', mk, t, L, E, ce, e1, e2, hq, hce, hcv, hcl, h1, hL, h2, h3⟩, st⟩
  · dsimp only [Pt.U, Pt.locs, Pt.cells, Pt.slots] at X' e1 e2 h1 h2 h3 st
    subst h1; subst h2; subst h3
    exact Or.inl ⟨v, (T.setVm vm₁).calling g' mk (Value.ref b :: As).toArray, t, U', L, hT, X', hL, e1, e2, hq, st⟩
  · dsimp only [Pt.U, Pt.locs, Pt.cells, Pt.slots] at X' e1 e2 h1 h2 h3 st hcl
    subst h1; subst h2; subst h3
    exact Or.inr ⟨q, (T.setVm vm₁).calling g' mk (Value.ref b :: As).toArray, t, U', L, E, ce, hT, X', hL, e1, e2, hq, hce, hcv, vx_cls hW₁ hcl, st⟩
theorem vx_runS (S : CallFix p m c cc nL s args Ts own) (hM : vx_Met l y ws rm Pc Qc XC mc ms free) (cw : CallB R s args own index y bytes maxL ret ws rm mc ms n ∧ (Cond.static y).before args s = true) (hp : PreS s H Pc As)
    (hg : g.method = m) (hn : As.length = n) (hsize : g.locals.size = nL) (hstack : g.stack = As.reverse ++ rest) (hW : 2 * g.monitorRoom + (rest.map fun v => v.category).sum ≤ 8) (hdg : decode cc g.pc = .ok (.invokestatic index, 3)) (hf : cells + mc ≤ R.cells ∧ slots + ms ≤ R.slots) :
    vx_Run p l e R s m args below meth c H locs cells slots mc ms g rest (Qc As.toArray) XC free := by
  have hK : vx_Back l R p e below s args y 3 8 (PreOf R mc ms Pc) (PostOf Qc mc ms free) (vx_Post XC mc ms free) := vx_callBack cw.1 hM hp.1
  obtain ⟨⟨-, -, -, -, -, -, hcode, hini, hy, hlen, hl⟩, hstt⟩ := cw
  obtain ⟨hx, hb, hml, ho, -⟩ := S
  intro T hT X
  rcases vx_callS X hx (bytes := bytes) (maxL := maxL) (ret := ret) ho hl hstt hini hcode hy hK hg (hsize.trans hml.symm) (argsL := As) (rest := rest) (fun sig h => hn.trans (hlen sig h)) hstack hW (by rw [hb]; exact hdg)
    (fun vm₁ hW₁ => ⟨hf.1, hf.2, hp.2 (T.setVm vm₁) hT hW₁⟩) with ⟨v, vm₁, ⟨U', l2, c2, s2⟩, hW₁, X', ⟨g', mk, t, L, e1, e2, hq, h1, hL, h2, h3⟩, st⟩ | ⟨q, vm₁, ⟨U', l2, c2, s2⟩, hW₁, X', ⟨g', mk, t, L, E, ce, e1, e2, hq, hce, hcv, hcl, h1, hL, h2, h3⟩, st⟩
  · dsimp only [Pt.U, Pt.locs, Pt.cells, Pt.slots] at X' e1 e2 h1 h2 h3 st
    subst h1; subst h2; subst h3
    exact Or.inl ⟨v, (T.setVm vm₁).calling g' mk As.toArray, t, U', L, hT, X', hL, e1, e2, hq, st⟩
  · dsimp only [Pt.U, Pt.locs, Pt.cells, Pt.slots] at X' e1 e2 h1 h2 h3 st hcl
    subst h1; subst h2; subst h3
    exact Or.inr ⟨q, (T.setVm vm₁).calling g' mk As.toArray, t, U', L, E, ce, hT, X', hL, e1, e2, hq, hce, hcv, vx_cls hW₁ hcl, st⟩
end Runs
section Rows
variable {p : Program} {l : Launch} {e : Env} {R : Room} {s : State} {m : MethodId} {args : Array Value} {below : List Frame} {meth : Method} {c : Code} {H : Heap} {locs : List Loc} {cells slots : Nat} {Q : State → Prop}
variable {mc ms : Nat} {free : Addr → Prop} {A0 A1 : Nat → Prop} {H0 : Heap} {a : Array Value} {pc : Nat} {ls : Array Slot} {st0 rest : List Value}
theorem vx_keep {st₀ t T' : State} {L : List Loc} (h0 : st₀.heap = H) (e1 : T'.heap = t.heap) (hS : va_S A0 H0 H locs) (hA : ∀ q, q < H.size → A1 q → A0 q) (hf : ∀ q, free q → A0 q) (hL : ∀ q ∈ L, free q.base) (hF : va_F A1 st₀ t) :
    H.size ≤ T'.heap.size ∧ (∀ q : Nat, q < H.size → ¬ A1 q → T'.heap[q]? = H[q]?) ∧ va_S A0 H0 T'.heap (locs ++ L) := by
  obtain ⟨hz, hk⟩ := hF
  rw [h0] at hz hk
  exact ⟨by rw [e1]; exact hz, fun q h1 h2 => by rw [e1]; exact hk q h1 h2,
    ⟨Nat.le_trans hS.1 (by rw [e1]; exact hz), fun q h1 h2 => by rw [e1, hk q (Nat.lt_of_lt_of_le h1 hS.1) (fun z => h2 (hA q (Nat.lt_of_lt_of_le h1 hS.1) z))]; exact hS.2.1 q h1 h2, fun q hq => by
      rcases List.mem_append.mp hq with h | h
      · exact hS.2.2 q h
      · exact hf _ (hL q h)⟩⟩
theorem vx_calli {S SX : Type} {post : Int32 → S → Prop} {px : SX → Prop} {B : S → State → Prop} {BX : String → SX → State → Prop} {AX : Nat → Prop} (hr : vx_Run p l e R s m args below meth c H locs cells slots mc ms (F0 m pc ls st0) rest (va_Qi post B A1 a) (vx_X px BX AX) free) (hS : va_S A0 H0 H locs) (hA : ∀ q, q < H.size → A1 q → A0 q) (hf : ∀ q, free q → A0 q) (hAX : ∀ q, q < H.size → AX q → A0 q)
    (kx : ∀ (E : String) (ce : Cell) (q9 : Addr) (u : SX) (t : State) (H1 : Heap) (locs1 : List Loc), t.heap = H1 → s.vm.Alike t.vm → px u → BX E u t → H.size ≤ H1.size → (∀ q : Nat, q < H.size → ¬ AX q → H1[q]? = H[q]?) → va_S A0 H0 H1 locs1 → H1[q9]? = some ce → ce.vm = .none → s.vm.findClass E = some ce.cls → vx_W p l e R s m args below meth c H1 locs1 (cells + mc) (slots + ms) Q (F0 m pc ls rest) q9)
    (kk : ∀ (r : Int32) (u : S) (t : State) (H1 : Heap) (locs1 : List Loc), t.heap = H1 → s.vm.Alike t.vm → post r u → B u t → H.size ≤ H1.size → (∀ q : Nat, q < H.size → ¬ A1 q → H1[q]? = H[q]?) → va_S A0 H0 H1 locs1 → W p l e R s m args below meth c H1 locs1 (cells + mc) (slots + ms) Q (F0 m (pc + 3) ls (.int r :: rest))) : W p l e R s m args below meth c H locs cells slots Q (F0 m pc ls st0) := by
  intro T hT X
  rcases hr T hT X with ⟨v, st₀, t, T', L, h0, X', hL, e1, e2, ⟨⟨r, u, hv, hp, hb⟩, hF⟩, st⟩ | ⟨q, st₀, t, T', L, E, ce, h0, X', hL, e1, e2, ⟨u, hp, hb, hF⟩, hce, hcv, hcl, st⟩
  · cases hv
    obtain ⟨k1, k2, k3⟩ := vx_keep h0 e1 hS hA hf hL hF
    obtain ⟨t2, a1, b1⟩ := kk r u t T'.heap (locs ++ L) e1.symm (by rw [← e2]; exact X'.warmed.alike) hp hb k1 k2 k3 T' rfl X'
    exact ⟨t2, st t2 a1, b1⟩
  · obtain ⟨k1, k2, k3⟩ := vx_keep h0 e1 hS hAX hf hL hF
    obtain ⟨t2, a1, b1⟩ := kx E ce q u t T'.heap (locs ++ L) e1.symm (by rw [← e2]; exact X'.warmed.alike) hp hb k1 k2 k3 (by rw [e1]; exact hce) hcv hcl T' rfl X'
    exact ⟨t2, st.trans a1, b1⟩
theorem vx_calll {S SX : Type} {post : Int64 → S → Prop} {px : SX → Prop} {B : S → State → Prop} {BX : String → SX → State → Prop} {AX : Nat → Prop} (hr : vx_Run p l e R s m args below meth c H locs cells slots mc ms (F0 m pc ls st0) rest (va_Ql post B A1 a) (vx_X px BX AX) free) (hS : va_S A0 H0 H locs) (hA : ∀ q, q < H.size → A1 q → A0 q) (hf : ∀ q, free q → A0 q) (hAX : ∀ q, q < H.size → AX q → A0 q)
    (kx : ∀ (E : String) (ce : Cell) (q9 : Addr) (u : SX) (t : State) (H1 : Heap) (locs1 : List Loc), t.heap = H1 → s.vm.Alike t.vm → px u → BX E u t → H.size ≤ H1.size → (∀ q : Nat, q < H.size → ¬ AX q → H1[q]? = H[q]?) → va_S A0 H0 H1 locs1 → H1[q9]? = some ce → ce.vm = .none → s.vm.findClass E = some ce.cls → vx_W p l e R s m args below meth c H1 locs1 (cells + mc) (slots + ms) Q (F0 m pc ls rest) q9)
    (kk : ∀ (r : Int64) (u : S) (t : State) (H1 : Heap) (locs1 : List Loc), t.heap = H1 → s.vm.Alike t.vm → post r u → B u t → H.size ≤ H1.size → (∀ q : Nat, q < H.size → ¬ A1 q → H1[q]? = H[q]?) → va_S A0 H0 H1 locs1 → W p l e R s m args below meth c H1 locs1 (cells + mc) (slots + ms) Q (F0 m (pc + 3) ls (.long r :: rest))) : W p l e R s m args below meth c H locs cells slots Q (F0 m pc ls st0) := by
  intro T hT X
  rcases hr T hT X with ⟨v, st₀, t, T', L, h0, X', hL, e1, e2, ⟨⟨r, u, hv, hp, hb⟩, hF⟩, st⟩ | ⟨q, st₀, t, T', L, E, ce, h0, X', hL, e1, e2, ⟨u, hp, hb, hF⟩, hce, hcv, hcl, st⟩
  · cases hv
    obtain ⟨k1, k2, k3⟩ := vx_keep h0 e1 hS hA hf hL hF
    obtain ⟨t2, a1, b1⟩ := kk r u t T'.heap (locs ++ L) e1.symm (by rw [← e2]; exact X'.warmed.alike) hp hb k1 k2 k3 T' rfl X'
    exact ⟨t2, st t2 a1, b1⟩
  · obtain ⟨k1, k2, k3⟩ := vx_keep h0 e1 hS hAX hf hL hF
    obtain ⟨t2, a1, b1⟩ := kx E ce q u t T'.heap (locs ++ L) e1.symm (by rw [← e2]; exact X'.warmed.alike) hp hb k1 k2 k3 (by rw [e1]; exact hce) hcv hcl T' rfl X'
    exact ⟨t2, st.trans a1, b1⟩
theorem vx_callf {S SX : Type} {post : UInt32 → S → Prop} {px : SX → Prop} {B : S → State → Prop} {BX : String → SX → State → Prop} {AX : Nat → Prop} (hr : vx_Run p l e R s m args below meth c H locs cells slots mc ms (F0 m pc ls st0) rest (va_Qf post B A1 a) (vx_X px BX AX) free) (hS : va_S A0 H0 H locs) (hA : ∀ q, q < H.size → A1 q → A0 q) (hf : ∀ q, free q → A0 q) (hAX : ∀ q, q < H.size → AX q → A0 q)
    (kx : ∀ (E : String) (ce : Cell) (q9 : Addr) (u : SX) (t : State) (H1 : Heap) (locs1 : List Loc), t.heap = H1 → s.vm.Alike t.vm → px u → BX E u t → H.size ≤ H1.size → (∀ q : Nat, q < H.size → ¬ AX q → H1[q]? = H[q]?) → va_S A0 H0 H1 locs1 → H1[q9]? = some ce → ce.vm = .none → s.vm.findClass E = some ce.cls → vx_W p l e R s m args below meth c H1 locs1 (cells + mc) (slots + ms) Q (F0 m pc ls rest) q9)
    (kk : ∀ (r : UInt32) (u : S) (t : State) (H1 : Heap) (locs1 : List Loc), t.heap = H1 → s.vm.Alike t.vm → post r u → B u t → H.size ≤ H1.size → (∀ q : Nat, q < H.size → ¬ A1 q → H1[q]? = H[q]?) → va_S A0 H0 H1 locs1 → W p l e R s m args below meth c H1 locs1 (cells + mc) (slots + ms) Q (F0 m (pc + 3) ls (.float r :: rest))) : W p l e R s m args below meth c H locs cells slots Q (F0 m pc ls st0) := by
  intro T hT X
  rcases hr T hT X with ⟨v, st₀, t, T', L, h0, X', hL, e1, e2, ⟨⟨r, u, hv, hp, hb⟩, hF⟩, st⟩ | ⟨q, st₀, t, T', L, E, ce, h0, X', hL, e1, e2, ⟨u, hp, hb, hF⟩, hce, hcv, hcl, st⟩
  · cases hv
    obtain ⟨k1, k2, k3⟩ := vx_keep h0 e1 hS hA hf hL hF
    obtain ⟨t2, a1, b1⟩ := kk r u t T'.heap (locs ++ L) e1.symm (by rw [← e2]; exact X'.warmed.alike) hp hb k1 k2 k3 T' rfl X'
    exact ⟨t2, st t2 a1, b1⟩
  · obtain ⟨k1, k2, k3⟩ := vx_keep h0 e1 hS hAX hf hL hF
    obtain ⟨t2, a1, b1⟩ := kx E ce q u t T'.heap (locs ++ L) e1.symm (by rw [← e2]; exact X'.warmed.alike) hp hb k1 k2 k3 (by rw [e1]; exact hce) hcv hcl T' rfl X'
    exact ⟨t2, st.trans a1, b1⟩
theorem vx_calld {S SX : Type} {post : UInt64 → S → Prop} {px : SX → Prop} {B : S → State → Prop} {BX : String → SX → State → Prop} {AX : Nat → Prop} (hr : vx_Run p l e R s m args below meth c H locs cells slots mc ms (F0 m pc ls st0) rest (va_Qd post B A1 a) (vx_X px BX AX) free) (hS : va_S A0 H0 H locs) (hA : ∀ q, q < H.size → A1 q → A0 q) (hf : ∀ q, free q → A0 q) (hAX : ∀ q, q < H.size → AX q → A0 q)
    (kx : ∀ (E : String) (ce : Cell) (q9 : Addr) (u : SX) (t : State) (H1 : Heap) (locs1 : List Loc), t.heap = H1 → s.vm.Alike t.vm → px u → BX E u t → H.size ≤ H1.size → (∀ q : Nat, q < H.size → ¬ AX q → H1[q]? = H[q]?) → va_S A0 H0 H1 locs1 → H1[q9]? = some ce → ce.vm = .none → s.vm.findClass E = some ce.cls → vx_W p l e R s m args below meth c H1 locs1 (cells + mc) (slots + ms) Q (F0 m pc ls rest) q9)
    (kk : ∀ (r : UInt64) (u : S) (t : State) (H1 : Heap) (locs1 : List Loc), t.heap = H1 → s.vm.Alike t.vm → post r u → B u t → H.size ≤ H1.size → (∀ q : Nat, q < H.size → ¬ A1 q → H1[q]? = H[q]?) → va_S A0 H0 H1 locs1 → W p l e R s m args below meth c H1 locs1 (cells + mc) (slots + ms) Q (F0 m (pc + 3) ls (.double r :: rest))) : W p l e R s m args below meth c H locs cells slots Q (F0 m pc ls st0) := by
  intro T hT X
  rcases hr T hT X with ⟨v, st₀, t, T', L, h0, X', hL, e1, e2, ⟨⟨r, u, hv, hp, hb⟩, hF⟩, st⟩ | ⟨q, st₀, t, T', L, E, ce, h0, X', hL, e1, e2, ⟨u, hp, hb, hF⟩, hce, hcv, hcl, st⟩
  · cases hv
    obtain ⟨k1, k2, k3⟩ := vx_keep h0 e1 hS hA hf hL hF
    obtain ⟨t2, a1, b1⟩ := kk r u t T'.heap (locs ++ L) e1.symm (by rw [← e2]; exact X'.warmed.alike) hp hb k1 k2 k3 T' rfl X'
    exact ⟨t2, st t2 a1, b1⟩
  · obtain ⟨k1, k2, k3⟩ := vx_keep h0 e1 hS hAX hf hL hF
    obtain ⟨t2, a1, b1⟩ := kx E ce q u t T'.heap (locs ++ L) e1.symm (by rw [← e2]; exact X'.warmed.alike) hp hb k1 k2 k3 (by rw [e1]; exact hce) hcv hcl T' rfl X'
    exact ⟨t2, st.trans a1, b1⟩
theorem vx_callv {S SX : Type} {post : S → Prop} {px : SX → Prop} {B : S → State → Prop} {BX : String → SX → State → Prop} {AX : Nat → Prop} (hr : vx_Run p l e R s m args below meth c H locs cells slots mc ms (F0 m pc ls st0) rest (va_Qv post B A1 a) (vx_X px BX AX) free) (hS : va_S A0 H0 H locs) (hA : ∀ q, q < H.size → A1 q → A0 q) (hf : ∀ q, free q → A0 q) (hAX : ∀ q, q < H.size → AX q → A0 q)
    (kx : ∀ (E : String) (ce : Cell) (q9 : Addr) (u : SX) (t : State) (H1 : Heap) (locs1 : List Loc), t.heap = H1 → s.vm.Alike t.vm → px u → BX E u t → H.size ≤ H1.size → (∀ q : Nat, q < H.size → ¬ AX q → H1[q]? = H[q]?) → va_S A0 H0 H1 locs1 → H1[q9]? = some ce → ce.vm = .none → s.vm.findClass E = some ce.cls → vx_W p l e R s m args below meth c H1 locs1 (cells + mc) (slots + ms) Q (F0 m pc ls rest) q9)
    (kk : ∀ (u : S) (t : State) (H1 : Heap) (locs1 : List Loc), t.heap = H1 → s.vm.Alike t.vm → post u → B u t → H.size ≤ H1.size → (∀ q : Nat, q < H.size → ¬ A1 q → H1[q]? = H[q]?) → va_S A0 H0 H1 locs1 → W p l e R s m args below meth c H1 locs1 (cells + mc) (slots + ms) Q (F0 m (pc + 3) ls (rest))) : W p l e R s m args below meth c H locs cells slots Q (F0 m pc ls st0) := by
  intro T hT X
  rcases hr T hT X with ⟨v, st₀, t, T', L, h0, X', hL, e1, e2, ⟨⟨u, hv, hp, hb⟩, hF⟩, st⟩ | ⟨q, st₀, t, T', L, E, ce, h0, X', hL, e1, e2, ⟨u, hp, hb, hF⟩, hce, hcv, hcl, st⟩
  · cases hv
    obtain ⟨k1, k2, k3⟩ := vx_keep h0 e1 hS hA hf hL hF
    obtain ⟨t2, a1, b1⟩ := kk u t T'.heap (locs ++ L) e1.symm (by rw [← e2]; exact X'.warmed.alike) hp hb k1 k2 k3 T' rfl X'
    exact ⟨t2, st t2 a1, b1⟩
  · obtain ⟨k1, k2, k3⟩ := vx_keep h0 e1 hS hAX hf hL hF
    obtain ⟨t2, a1, b1⟩ := kx E ce q u t T'.heap (locs ++ L) e1.symm (by rw [← e2]; exact X'.warmed.alike) hp hb k1 k2 k3 (by rw [e1]; exact hce) hcv hcl T' rfl X'
    exact ⟨t2, st.trans a1, b1⟩
/-- caught by the row x of this method's table; the rows ahead don't take it -/
theorem vx_catch {own name : String} {E : String} {ce : Cell} {q : Addr} (hown : s.vm.findClass own = some m.cls) (pre : List ExceptionTableEntry) (x : ExceptionTableEntry) (suf : List ExceptionTableEntry) (hsplit : c.exceptionTable.toList = pre ++ x :: suf)
    (hpass : ∀ z ∈ pre, covers z pc = false ∨ (z.catchType ≠ 0 ∧ ∃ nm : String, (Cond.classLink own z.catchType nm).before args s = true ∧ va_Nc E nm s)) (hx : covers x pc = true) (h0 : x.catchType ≠ 0)
    (hlink : (Cond.classLink own x.catchType name).before args s = true) (hcast : (Cond.castable E name).before args s = true) (hcell : H[q]? = some ce) (hv : ce.vm = .none) (hcl : s.vm.findClass E = some ce.cls)
    (kk : W p l e R s m args below meth c H locs cells slots Q (F0 m x.handlerPc ls [.ref q])) : vx_W p l e R s m args below meth c H locs cells slots Q (F0 m pc ls rest) q := by
  intro T hT X
  have hpl : e.platform.magicAccessors = ({} : Platform).magicAccessors := by rw [X.admits.platform]
  obtain ⟨c3, c4, hc3, hc4, hasg⟩ := Cond.castable_spec hcast
  cases Option.some.inj (hc3.symm.trans hcl)
  obtain ⟨c5, hc5, hcl5⟩ := Cond.classLink_spec hown hlink e.platform hpl
  cases Option.some.inj (hc4.symm.trans hc5)
  have hobj : ∀ k, ce.vm ≠ .statics k := VmData.ne_statics_of (by rw [hv]; rfl)
  obtain ⟨vm', hW', hq⟩ := ob_go_all (e := e) (s₀ := s) (f := F0 m pc ls rest) (a := q) hobj (by obtain ⟨k9, h9, -⟩ := Vm.findClass_spec hcl; exact ⟨k9, h9⟩) x suf hx h0 hcl5 hasg pre ((T.setTop (F0 m pc ls rest)).pushFrame (.throwing q)) X.warmed
    (by show T.heap[q]? = some ce; rw [hT]; exact hcell) (fun z hz => by
      rcases hpass z hz with h | ⟨hz0, nm, hl1, hn1⟩
      · exact Or.inl h
      · obtain ⟨c6, hc6, hcl6⟩ := Cond.classLink_spec hown hl1 e.platform hpl
        obtain ⟨a8, b8, h1, h2, h3⟩ := hn1
        cases Option.some.inj (h1.symm.trans hcl)
        cases Option.some.inj (h2.symm.trans hc6)
        exact Or.inr ⟨hz0, _, hcl6, h3⟩)
  obtain ⟨t, a1, b1⟩ := kk (T.setVm vm') hT (X.noted hW')
  refine ⟨t, ob_caught (g := F0 m pc ls rest) X.here (fun Q E d acts => ?_) a1, b1⟩
  rw [Jvm.W.findHandler_eq (meth := meth) (code := c) X.method' X.code, hsplit]
  exact hq Q E d acts
end Rows
section Ends
variable {p : Program} {l : Launch} {e : Env} {R : Room} {s : State} {m : MethodId} {args : Array Value} {below : List Frame} {meth : Method} {c : Code} {H : Heap} {locs : List Loc} {cells slots : Nat} {Q : State → Prop}
variable {mc ms : Nat} {free : Addr → Prop} {A0 A1 : Nat → Prop} {H0 : Heap} {a : Array Value} {ls : Array Slot} {st0 rest : List Value}
variable {Qc : Array Value → State → Outcome → State → Prop} {XC : String → State → State → Prop}
/-- what a body that may throw owes at its end -/
def vx_MQ (below : List Frame) (Qc : Array Value → State → Outcome → State → Prop) (XC : String → State → State → Prop) (a : Array Value) (s : State) (mc ms : Nat) (free : Addr → Prop) : State → Prop := fun t =>
  ∃ o, t.status = .running ∧ Ended t below o ∧ vx_Q Qc XC mc ms free a s o t
theorem vx_ret {g : JFrame} {mc ms : Nat} (k : W p l e R s m args below meth c H locs cells slots (MQ below Qc args s mc ms free) g) : W p l e R s m args below meth c H locs cells slots (vx_MQ below Qc XC args s mc ms free) g := by
  intro T hT X
  obtain ⟨t, a1, o, b1, b2, b3, b4⟩ := k T hT X
  exact ⟨t, a1, o, b1, b2, Or.inl ⟨b3, b4⟩⟩
/-- not caught here: it goes on to the caller -/
theorem vx_widen {g : JFrame} {q : Addr} {k n : Nat} (h1 : cells ≤ k) (h2 : slots ≤ n) (kk : vx_W p l e R s m args below meth c H locs k n Q g q) : vx_W p l e R s m args below meth c H locs cells slots Q g q := fun T hT X => kk T hT (stand_widen X h1 h2)
theorem vx_out {pc : Nat} {E : String} {ce : Cell} {q : Addr} {mc ms : Nat} (hout : ∀ x ∈ c.exceptionTable.toList, covers x pc = false) (hlocks : meth.locks = false) (hcell : H[q]? = some ce) (hv : ce.vm = .none) (hcl : s.vm.findClass E = some ce.cls)
    (hx : ∀ t : State, t.heap = H → s.vm.Alike t.vm → XC E s t) (hf : ∀ z ∈ locs, free z.base) (hc : cells ≤ mc) (hs : slots ≤ ms) :
    vx_W p l e R s m args below meth c H locs cells slots (vx_MQ below Qc XC args s mc ms free) (F0 m pc ls rest) q := by
  intro T hT X
  obtain ⟨st1, hrun, hend, hW, hsm⟩ := X.leaveThrown q (g := F0 m pc ls rest) rfl rfl rfl hout hlocks
  have hcell9 : (T.setFrames (.throwing q :: below)).heap[q]? = some ce := by
    show T.heap[q]? = some ce
    rw [hT]; exact hcell
  exact ⟨_, st1, .threw q, hrun, hend, Or.inr ⟨q, rfl, E, ce, locs, hx _ hT hW.alike, hcell9, hv, hcl, hW, hsm.mono hc hs, hf⟩⟩
theorem vx_frame {U : State} {k n : Nat} (h : s.sameButNew ({ U with vm := s.vm } : State) locs k n) : s.heap.size ≤ U.heap.size ∧ ∀ q : Nat, q < s.heap.size → (∀ z ∈ locs, z.base ≠ q) → U.heap[q]? = s.heap[q]? := by
  obtain ⟨-, h2, -, -, -, h6⟩ := h
  refine ⟨h2, fun q hq hz => ?_⟩
  obtain ⟨c9, e1, e2, e3, e4⟩ := h6 q _ (Array.getElem?_eq_getElem hq)
  have hs : c9.slots = (s.heap[q]).slots := Array.ext_getElem? fun i => e4 i fun hm => hz _ hm rfl
  have h9 : c9 = s.heap[q] := by
    rw [hs] at e2
    exact e2
  have e5 : U.heap[q]? = some c9 := e1
  rw [e5, h9, Array.getElem?_eq_getElem hq]
/-- the words of a throw but the four that speak of the heap -/
def vx_no (w : Cond) : Bool := decide (w ≠ .isRef (.static Bundle.tN "UNASSIGNED_STACK" Bundle.steD)) && decide (w ≠ .isRef (.static Bundle.tN "SUPPRESSED_SENTINEL" Bundle.listD)) && decide (w ≠ .laysStatic Bundle.tN "UNASSIGNED_STACK" Bundle.steD) && decide (w ≠ .laysStatic Bundle.tN "SUPPRESSED_SENTINEL" Bundle.listD)
def vx_at0 (own : String) (ic : Nat) (X : String) (names : List String) : List Cond := (Bundle.ownAtoms0 own ic X names).filter vx_no
def vx_atS (own : String) (ic : Nat) (X : String) (names : List String) : List Cond := (Bundle.ownAtoms own ic X names).filter vx_no
/-- a word that the tables alone decide, or a good one -/
def vx_ot (w : Cond) : Bool := w.onTables || goodWord w
theorem vx_ot_at {args a' : Array Value} {s U : State} {w : Cond} (hW : s.WarmedH U.vm) (hvm : s.vm = U.vm) (hg : vx_ot w = true) (h : w.before args s = true) : w.before a' U = true := by
  simp only [vx_ot, Bool.or_eq_true] at hg
  rcases hg with hg | hg
  · exact va_tabs hg hvm h
  · exact word_at hW (good_of_word hg) h
/-- a list's words: the good ones out of the method's own list, the others by premises of their own -/
theorem vx_hat {args : Array Value} {s : State} {L B : List Cond} (h1 : ∀ w ∈ L.filter goodWord, w.before args s = true) (h2 : ∀ w ∈ L.filter (fun w => !goodWord w), w ∈ B) (h3 : ∀ w ∈ B, w.before args s = true) : ∀ w ∈ L, w.before args s = true := by
  intro w hw
  by_cases g : goodWord w = true
  · exact h1 w (List.mem_filter.mpr ⟨hw, g⟩)
  · refine h3 w (h2 w (List.mem_filter.mpr ⟨hw, ?_⟩))
    show (!goodWord w) = true
    cases hgw : goodWord w
    · rfl
    · exact absurd hgw g
theorem vx_c {args : Array Value} {s : State} {w : Cond} {B : List Cond} (h : w.before args s = true) (t : ∀ w ∈ B, w.before args s = true) : ∀ w' ∈ w :: B, w'.before args s = true := fun w' h' => (List.mem_cons.mp h').elim (fun e => by rw [e]; exact h) (t w')
theorem vx_n {args : Array Value} {s : State} : ∀ w ∈ ([] : List Cond), w.before args s = true := fun _ h => nomatch h
theorem vx_own {args : Array Value} {s : State} {L : List Cond} (h1 : ∀ w ∈ L.filter vx_no, w.before args s = true)
    (hU : (Cond.isRef (.static Bundle.tN "UNASSIGNED_STACK" Bundle.steD)).before args s = true) (hN : (Cond.isRef (.static Bundle.tN "SUPPRESSED_SENTINEL" Bundle.listD)).before args s = true)
    (lU : (Cond.laysStatic Bundle.tN "UNASSIGNED_STACK" Bundle.steD).before args s = true) (lN : (Cond.laysStatic Bundle.tN "SUPPRESSED_SENTINEL" Bundle.listD).before args s = true) : ∀ w ∈ L, w.before args s = true := by
  intro w hw
  by_cases e1 : w = .isRef (.static Bundle.tN "UNASSIGNED_STACK" Bundle.steD)
  · rw [e1]; exact hU
  · by_cases e2 : w = .isRef (.static Bundle.tN "SUPPRESSED_SENTINEL" Bundle.listD)
    · rw [e2]; exact hN
    · by_cases e3 : w = .laysStatic Bundle.tN "UNASSIGNED_STACK" Bundle.steD
      · rw [e3]; exact lU
      · by_cases e4 : w = .laysStatic Bundle.tN "SUPPRESSED_SENTINEL" Bundle.listD
        · rw [e4]; exact lN
        · exact h1 w (List.mem_filter.mpr ⟨hw, by unfold vx_no; rw [decide_eq_true e1, decide_eq_true e2, decide_eq_true e3, decide_eq_true e4]; rfl⟩)
/-- where a static field lies, its class's statics cell in H -/
def vx_L (C n d : String) (A : Nat → Prop) (U : State) (H : Heap) : Prop := ∃ (c : ClassId) (k : Class) (i : Nat) (f : Field) (a : Nat) (cell : Cell), U.vm.findClass C = some c ∧ U.fieldFound? C n d = some (c, k, i, f) ∧ f.isStatic = true ∧ k.statics = some a ∧ H[a]? = some cell ∧ cell.vm.isStatics = true ∧ cell.cls = c ∧ f.slot < cell.slots.size ∧ k.staticTypes[f.slot]? = some f.type ∧ ¬ A a
theorem vx_L.moved {C n d : String} {A : Nat → Prop} {u U : State} {H : Heap} (hvm : u.vm.Alike U.vm) (h : vx_L C n d A u H) : vx_L C n d A U H := by
  obtain ⟨c, k, i, f, a, cell, h1, h2, h3, h4, h5, h6, h7, h8, h9, h10⟩ := h
  obtain ⟨k', hi', he⟩ := State.fieldFound?_setVm hvm h2
  exact ⟨c, k', i, f, a, cell, by rw [hvm.findClass]; exact h1, hi', h3, by rw [he]; exact h4, h5, h6, h7, h8, by rw [he]; exact h9, h10⟩
theorem vx_L.kept {C n d : String} {A : Nat → Prop} {U : State} {H H1 : Heap} (h : vx_L C n d A U H) (hq : ∀ a : Nat, a < H.size → ¬ A a → H1[a]? = H[a]?) : vx_L C n d A U H1 := by
  obtain ⟨c, k, i, f, a, cell, h1, h2, h3, h4, h5, h6, h7, h8, h9, h10⟩ := h
  exact ⟨c, k, i, f, a, cell, h1, h2, h3, h4, by rw [hq a (Array.getElem?_eq_some_iff.mp h5).1 h10]; exact h5, h6, h7, h8, h9, h10⟩
theorem vx_L.narrow {C n d : String} {A B : Nat → Prop} {U : State} {H : Heap} (h : vx_L C n d A U H) (hAB : ∀ q, B q → A q) : vx_L C n d B U H := by
  obtain ⟨c, k, i, f, a, cell, h1, h2, h3, h4, h5, h6, h7, h8, h9, h10⟩ := h
  exact ⟨c, k, i, f, a, cell, h1, h2, h3, h4, h5, h6, h7, h8, h9, fun z => h10 (hAB _ z)⟩
theorem vx_L.word {C n d : String} {A : Nat → Prop} {s : State} {args : Array Value} (h : vx_L C n d A s s.heap) : (Cond.laysStatic C n d).before args s = true := by
  obtain ⟨c, k, i, f, a, cell, h1, h2, h3, h4, h5, h6, h7, h8, h9, -⟩ := h
  show (Cond.laysStatic C n d).holds args s none s [] = true
  exact Cond.laysStatic_of h1 h2 h3 h4 h5 h6 h7 h8 h9
/-- .. and what it holds: null or some reference -/
def vx_Zq (C n d : String) (A : Nat → Prop) (U : State) (H : Heap) : Prop := va_Zq C n d A U H ∧ vx_L C n d A U H
theorem vx_Zq.moved {C n d : String} {A : Nat → Prop} {u U : State} {H : Heap} (hvm : u.vm.Alike U.vm) (h : vx_Zq C n d A u H) : vx_Zq C n d A U H := ⟨va_Zq.moved hvm h.1, vx_L.moved hvm h.2⟩
theorem vx_Zq.kept {C n d : String} {A : Nat → Prop} {U : State} {H H1 : Heap} (h : vx_Zq C n d A U H) (hq : ∀ a : Nat, a < H.size → ¬ A a → H1[a]? = H[a]?) : vx_Zq C n d A U H1 := ⟨va_Zq.kept h.1 hq, vx_L.kept h.2 hq⟩
theorem vx_Zq.narrow {C n d : String} {A B : Nat → Prop} {U : State} {H : Heap} (h : vx_Zq C n d A U H) (hAB : ∀ q, B q → A q) : vx_Zq C n d B U H := ⟨va_Zq.narrow h.1 hAB, vx_L.narrow h.2 hAB⟩
theorem vx_Zqof {args : Array Value} {s : State} {C n d : String} {A : Nat → Prop} (hl : (Cond.laysStatic C n d).before args s = true) (hini : (Cond.initialized C).before args s = true) (h : (Cond.isRef (.static C n d)).before args s = true) (hA : ∀ a : Nat, a < s.heap.size → ¬ A a) : vx_Zq C n d A s s.heap := by
  refine ⟨va_Zqof hl hini h hA, ?_⟩
  obtain ⟨c, k, i, f, a, cell, h1, h2, h3, h4, h5, h6, h7, h8, h9⟩ := Cond.laysStatic_spec hl
  exact ⟨c, k, i, f, a, cell, h1, h2, h3, h4, h5, h6, h7, h8, h9, hA a (Array.getElem?_eq_some_iff.mp h5).1⟩
theorem vx_isRef {C n d : String} {v : Value} {A : Nat → Prop} {s : State} {args : Array Value} (h : va_Z C n d v A s s.heap) (hv : v.isRef = true) : (Cond.isRef (.static C n d)).before args s = true := by
  obtain ⟨cf, kf, fi, f, a, cell, h1, h2, h3, h4, h5, h6, h7, -⟩ := h
  have he : (Term.static C n d).eval args s none [] s = some v := by
    simp [Term.eval, State.fieldNamed?, h1, h2, h4, h5, h6, h7]
  simp only [Cond.before, Cond.holds, Cond.value, he]
  cases v <;> simp_all [Value.isRef]
theorem vx_isRefq {C n d : String} {A : Nat → Prop} {s : State} {args : Array Value} (h : va_Zq C n d A s s.heap) : (Cond.isRef (.static C n d)).before args s = true := by
  rcases h with h | ⟨t, h⟩
  · exact vx_isRef h rfl
  · exact vx_isRef h rfl
/-- the same frame, seen from here: as if the method were called anew in this heap -/
theorem vx_rebase {T : State} (X : Stand p l e R s m args below meth c T locs cells slots) {R' : Room} (hf : R'.frames ≤ R.frames) (hl : R'.locals ≤ R.locals) (hc : cells + R'.cells ≤ R.cells) (hs : slots + R'.slots ≤ R.slots) :
    Stand p l e R' ((T.setVm s.vm).setFrames (.invoking m args :: below)) m args below meth c T [] 0 0 := by
  have htop : (T.setVm s.vm).topJava?.isSome := X.here.top
  have hF : ((T.setVm s.vm).setFrames (.invoking m args :: below)).frames = .invoking m args :: below := State.frames_setFrames _ (State.cur_lt_of_top htop)
  obtain ⟨g₀, hg0⟩ := Option.isSome_iff_exists.mp htop
  obtain ⟨r, hr⟩ := State.topJava?_eq_some.mp hg0
  have hl9 : e.platform.stackLimits (T.setVm s.vm).me = e.platform.stackLimits s.me := X.limits
  have hb9 : (T.setVm s.vm).me.stackBytes = s.me.stackBytes := X.bytes
  refine ⟨X.admits, X.cas, X.clock, hF, ?_, X.hears, X.method, X.code, X.here, X.tail, X.warmed, ?_, ?_, ?_⟩
  · have h := X.room
    have hU : ((T.setVm s.vm).setFrames (.invoking m args :: below)).localsInUse = s.localsInUse := by
      rw [State.localsInUse_invoking hF (meth := meth) (c := c) X.method X.code, State.localsInUse_invoking X.frames X.method X.code]
    simp only [State.hasRoom, Bool.and_eq_true, decide_eq_true_eq] at h ⊢
    obtain ⟨⟨⟨⟨h1, h2, h3, h4, h5, h6⟩, h7⟩, h8⟩, h9⟩ := h
    rw [X.frames, List.length_cons] at h2 h3
    have q1 := X.heapSize
    have q2 := X.used
    simp only [hF, hU, List.length_cons, State.stackLimits_setFrames, State.stackBytes_setFrames, hl9, hb9]
    refine ⟨⟨⟨⟨by omega, by omega, by omega, by omega, by omega, h6⟩, ?_⟩, ?_⟩, X.book⟩
    · show T.heap.size + R'.cells ≤ e.platform.maxCells
      omega
    · show T.slotsUsed + R'.slots ≤ e.platform.maxSlots
      omega
  · rw [State.stackLimits_setFrames]; rfl
  · rw [State.stackBytes_setFrames]; rfl
  · refine ⟨?_, Nat.le_refl _, Nat.le_refl _, ?_, ?_, fun a c9 h9 => ⟨c9, h9, rfl, rfl, fun _ _ => rfl⟩⟩
    · obtain ⟨t, ht, -⟩ := State.frames_cons hr
      show T.setVm s.vm = { ((T.setVm s.vm).setFrames (.invoking m args :: below)).setFrames (T.setVm s.vm).frames with heap := T.heap, slotsUsed := T.slotsUsed }
      rw [State.setFrames_setFrames, State.setFrames_self ht]
      rfl
    · show T.slotsUsed = T.slotsUsed + ((T.heap.toList.drop T.heap.size).map (·.slots.size)).sum
      rw [List.drop_eq_nil_of_le (Nat.le_of_eq Array.length_toList)]
      rfl
    · show ((T.heap.toList.drop T.heap.size).map (·.slots.size)).sum ≤ 0
      rw [List.drop_eq_nil_of_le (Nat.le_of_eq Array.length_toList)]
      exact Nat.le_refl _
/-- 'throw new E()': new; dup; invokespecial; athrow -/
theorem vx_throw0 {cc : ByteArray} {pc : Nat} (hexec : p.tables.exec = Jvm.exec) (hb : c.code = cc) (hl : l.stackTraces = false) {own cls : String} {names : List String} {ik ic mc ms : Nat} {A : Nat → Prop}
    (hown : s.vm.findClass own = some m.cls) (hcls : Bundle.fit cls = true) (hnames : ∀ n ∈ names, Bundle.fit n = true)
    (hk : (Cond.classLink own ik cls).before args s = true) (hini : (Cond.initialized cls).before args s = true) (hat : ∀ w ∈ vx_at0 own ic cls names, w.before args s = true)
    (hgood : ∀ w ∈ Cond.classLink own ik cls :: Cond.initialized cls :: vx_at0 own ic cls names, vx_ot w = true)
    (hU : vx_Zq Bundle.tN "UNASSIGNED_STACK" Bundle.steD A s s.heap) (hN : vx_Zq Bundle.tN "SUPPRESSED_SENTINEL" Bundle.listD A s s.heap) (hS : va_S A s.heap H locs) (hsize : ls.size = c.maxLocals)
    (d0 : decode cc pc = .ok (.new ik, 3)) (d3 : decode cc (pc + 3) = .ok (.dup, 1)) (d4 : decode cc (pc + 4) = .ok (.invokespecial ic, 3)) (d7 : decode cc (pc + 7) = .ok (.athrow, 1))
    (hout : ∀ x ∈ c.exceptionTable.toList, covers x (pc + 7) = false)
    (hRframes : names.length + 3 < R.frames) (hRlocals : (rest.map fun v => v.category).sum + (13 * (names.length + 1) + 42) ≤ R.locals) (hRcells : cells + 1 ≤ R.cells) (hRslots : slots + 6 ≤ R.slots) (hlocks : meth.locks = false)
    (hx : ∀ t : State, s.vm.Alike t.vm → H.size ≤ t.heap.size → (∀ q : Nat, q < H.size → t.heap[q]? = H[q]?) → XC cls s t)
    (hf : ∀ z ∈ locs, free z.base) (hc : cells + 1 ≤ mc) (hs : slots + 6 ≤ ms) :
    W p l e R s m args below meth c H locs cells slots (vx_MQ below Qc XC args s mc ms free) (F0 m pc ls rest) := by
  intro T hT X
  have htr : e.platform.stackTraces = false := (show e.platform.stackTraces = l.stackTraces by rw [X.admits.platform]).trans hl
  have Y := vx_rebase X (R' := { frames := R.frames, locals := R.locals, cells := 1, slots := 6 }) (Nat.le_refl _) (Nat.le_refl _) hRcells hRslots
  obtain ⟨s', hA⟩ : ∃ z, z = (T.setVm s.vm).setFrames (.invoking m args :: below) := ⟨_, rfl⟩
  rw [← hA] at Y
  have hvm : s'.vm = s.vm := by rw [hA]; rfl
  have hhp : s'.heap = H := by rw [hA]; exact hT
  have hW0 : s.WarmedH s'.vm := by rw [hvm]; exact State.WarmedH.refl s
  have hat' : ∀ w ∈ vx_at0 own ic cls names, w.before args s' = true := fun w hw => vx_ot_at hW0 hvm.symm (hgood w (List.mem_cons_of_mem _ (List.mem_cons_of_mem _ hw))) (hat w hw)
  have hk' : (Cond.classLink own ik cls).before args s' = true := vx_ot_at hW0 hvm.symm (hgood _ List.mem_cons_self) hk
  have hini' : (Cond.initialized cls).before args s' = true := vx_ot_at hW0 hvm.symm (hgood _ (List.mem_cons_of_mem _ List.mem_cons_self)) hini
  have hU' : vx_Zq Bundle.tN "UNASSIGNED_STACK" Bundle.steD A s' s'.heap := by rw [hhp]; exact vx_Zq.moved hW0.alike (hU.kept hS.2.1)
  have hN' : vx_Zq Bundle.tN "SUPPRESSED_SENTINEL" Bundle.listD A s' s'.heap := by rw [hhp]; exact vx_Zq.moved hW0.alike (hN.kept hS.2.1)
  have h : ∀ w ∈ Bundle.ownAtoms0 own ic cls names, w.before args s' = true := vx_own hat' (vx_isRefq hU'.1) (vx_isRefq hN'.1) hU'.2.word hN'.2.word
  have hown' : s'.vm.findClass own = some m.cls := by rw [hvm]; exact hown
  have hins : (Cond.instantiable cls 6).before args s' = true := h _ (by simp [Bundle.ownAtoms0])
  obtain ⟨vm₁, cX, kX, hfX, hkX, -, -, X₁, st1⟩ := Y.newCold hexec (own := own) (C := cls) (index := ik) (n := 6) hown' hk' hins hini'
    (g := F0 m pc ls rest) rfl (by rw [hb]; exact d0) (Nat.le_refl _) (Nat.le_refl _)
  generalize hT1 : (T.setVm vm₁).pushCell { cls := cX, slots := kX.instanceTypes.map defaultValue, vm := .none } = T1 at X₁ st1
  have hcat : (Value.ref T.heap.size).category = 1 := rfl
  have hcellA : T1.heap[T.heap.size]? = some (freshCell cX kX) := by rw [← hT1]; exact State.heap_pushCell_size _ _
  have d3' : decode c.code (pc + 3) = .ok (.dup, 1) := by rw [hb]; exact d3
  obtain ⟨U, hsteps, hrun, hend, hW, hsame, ce, hce, hO⟩ := X₁.ctorThrow0 hexec htr (own := own) (cls := cls) (names := names) (ic := ic) hown' hcls hnames h (fun x hx => nomatch hx) hfX hkX hcellA (by rw [hhp, hT]; exact Nat.le_refl _)
    (g := { method := m, pc := pc + 4, locals := ls, stack := .ref T.heap.size :: .ref T.heap.size :: rest, locked := none }) rfl hsize rfl rfl (rest := rest) rfl
    (by rw [hb]; exact d4) (by rw [hb]; exact d7) hout hRframes (by simp only [List.map_cons, List.sum_cons, hcat]; omega) hlocks
  obtain ⟨f1, f2⟩ := vx_frame hsame
  rw [hhp] at f1 f2
  have hWs : s.WarmedH U.vm := State.WarmedH.trans hW0 hW
  have hcl : s.vm.findClass cls = some ce.cls := by
    have h9 := hO.cls
    rw [hvm] at h9
    exact h9
  have hall : s.sameButNew ({ U with vm := s.vm } : State) locs mc ms := by
    subst hA
    obtain ⟨e1, e2⟩ := hsame
    rw [State.setFrames_setFrames] at e1
    have h2 : (T.setVm s.vm).sameButNew ({ U with vm := s.vm } : State) [] (0 + 1) (0 + 6) := ⟨e1, e2⟩
    have h3 := X.same.trans h2
    rw [List.append_nil] at h3
    exact h3.mono hc hs
  refine ⟨U, ?_, .threw T.heap.size, hrun, hend, Or.inr ⟨T.heap.size, rfl, cls, ce, locs, hx U hWs.alike f1 (fun q hq => f2 q hq (fun z hz => nomatch hz)), hce, hO.vm, hcl, hWs, hall, hf⟩⟩
  refine st1 _ ?_
  show Steps p.tables e below (T1.setTop { method := m, pc := pc + 3, locals := ls, stack := .ref T.heap.size :: rest, locked := none }) _
  jvm_step X₁.here [X₁.here.top, hexec, d3', Value.category]
  exact hsteps
/-- 'throw new E("text")': new; dup; ldc; invokespecial; athrow -/
theorem vx_throwS {cc : ByteArray} {pc : Nat} (hexec : p.tables.exec = Jvm.exec) (hb : c.code = cc) (hl : l.stackTraces = false) {own cls text : String} {names : List String} {ik is ic mc ms sa : Nat} {A : Nat → Prop}
    (hown : s.vm.findClass own = some m.cls) (hcls : Bundle.fit cls = true) (hnames : ∀ n ∈ names, Bundle.fit n = true)
    (hk : (Cond.classLink own ik cls).before args s = true) (hini : (Cond.initialized cls).before args s = true) (hstr : vk_R own is text sa s) (hat : ∀ w ∈ vx_atS own ic cls names, w.before args s = true)
    (hgood : ∀ w ∈ Cond.classLink own ik cls :: Cond.initialized cls :: vx_atS own ic cls names, vx_ot w = true)
    (hU : vx_Zq Bundle.tN "UNASSIGNED_STACK" Bundle.steD A s s.heap) (hN : vx_Zq Bundle.tN "SUPPRESSED_SENTINEL" Bundle.listD A s s.heap) (hS : va_S A s.heap H locs) (hsize : ls.size = c.maxLocals)
    (d0 : decode cc pc = .ok (.new ik, 3)) (d3 : decode cc (pc + 3) = .ok (.dup, 1)) (d4 : decode cc (pc + 4) = .ok (.ldc is, 2)) (d6 : decode cc (pc + 6) = .ok (.invokespecial ic, 3)) (d9 : decode cc (pc + 9) = .ok (.athrow, 1))
    (hout : ∀ x ∈ c.exceptionTable.toList, covers x (pc + 9) = false)
    (hRframes : names.length + 3 < R.frames) (hRlocals : (rest.map fun v => v.category).sum + (13 * (names.length + 1) + 43) ≤ R.locals) (hRcells : cells + 1 ≤ R.cells) (hRslots : slots + 6 ≤ R.slots) (hlocks : meth.locks = false)
    (hx : ∀ t : State, s.vm.Alike t.vm → H.size ≤ t.heap.size → (∀ q : Nat, q < H.size → t.heap[q]? = H[q]?) → XC cls s t)
    (hf : ∀ z ∈ locs, free z.base) (hc : cells + 1 ≤ mc) (hs : slots + 6 ≤ ms) :
    W p l e R s m args below meth c H locs cells slots (vx_MQ below Qc XC args s mc ms free) (F0 m pc ls rest) := by
  intro T hT X
  have htr : e.platform.stackTraces = false := (show e.platform.stackTraces = l.stackTraces by rw [X.admits.platform]).trans hl
  have Y := vx_rebase X (R' := { frames := R.frames, locals := R.locals, cells := 1, slots := 6 }) (Nat.le_refl _) (Nat.le_refl _) hRcells hRslots
  obtain ⟨s', hA⟩ : ∃ z, z = (T.setVm s.vm).setFrames (.invoking m args :: below) := ⟨_, rfl⟩
  rw [← hA] at Y
  have hvm : s'.vm = s.vm := by rw [hA]; rfl
  have hhp : s'.heap = H := by rw [hA]; exact hT
  have hW0 : s.WarmedH s'.vm := by rw [hvm]; exact State.WarmedH.refl s
  have hat' : ∀ w ∈ vx_atS own ic cls names, w.before args s' = true := fun w hw => vx_ot_at hW0 hvm.symm (hgood w (List.mem_cons_of_mem _ (List.mem_cons_of_mem _ hw))) (hat w hw)
  have hk' : (Cond.classLink own ik cls).before args s' = true := vx_ot_at hW0 hvm.symm (hgood _ List.mem_cons_self) hk
  have hini' : (Cond.initialized cls).before args s' = true := vx_ot_at hW0 hvm.symm (hgood _ (List.mem_cons_of_mem _ List.mem_cons_self)) hini
  have hU' : vx_Zq Bundle.tN "UNASSIGNED_STACK" Bundle.steD A s' s'.heap := by rw [hhp]; exact vx_Zq.moved hW0.alike (hU.kept hS.2.1)
  have hN' : vx_Zq Bundle.tN "SUPPRESSED_SENTINEL" Bundle.listD A s' s'.heap := by rw [hhp]; exact vx_Zq.moved hW0.alike (hN.kept hS.2.1)
  have h : ∀ w ∈ Bundle.ownAtoms own ic cls names, w.before args s' = true := vx_own hat' (vx_isRefq hU'.1) (vx_isRefq hN'.1) hU'.2.word hN'.2.word
  have hown' : s'.vm.findClass own = some m.cls := by rw [hvm]; exact hown
  have hins : (Cond.instantiable cls 6).before args s' = true := h _ (by simp [Bundle.ownAtoms])
  obtain ⟨vm₁, cX, kX, hfX, hkX, -, -, X₁, st1⟩ := Y.newCold hexec (own := own) (C := cls) (index := ik) (n := 6) hown' hk' hins hini'
    (g := F0 m pc ls rest) rfl (by rw [hb]; exact d0) (Nat.le_refl _) (Nat.le_refl _)
  generalize hT1 : (T.setVm vm₁).pushCell { cls := cX, slots := kX.instanceTypes.map defaultValue, vm := .none } = T1 at X₁ st1
  have hcat : (Value.ref T.heap.size).category = 1 := rfl
  have hcellA : T1.heap[T.heap.size]? = some (freshCell cX kX) := by rw [← hT1]; exact State.heap_pushCell_size _ _
  have d3' : decode c.code (pc + 3) = .ok (.dup, 1) := by rw [hb]; exact d3
  have d4' : decode c.code (pc + 4) = .ok (.ldc is, 2) := by rw [hb]; exact d4
  have hstr' : vk_R own is text sa s' := vk_R.warm hW0 hstr
  obtain ⟨U, hsteps, hrun, hend, hW, hsame, ce, hce, hO⟩ := X₁.ctorThrowS hexec htr (own := own) (cls := cls) (names := names) (ic := ic) hown' hcls hnames h (fun x hx => nomatch hx) hfX hkX hcellA (by rw [hhp, hT]; exact Nat.le_refl _) (msg := .ref sa) rfl
    (g := { method := m, pc := pc + 6, locals := ls, stack := .ref sa :: .ref T.heap.size :: .ref T.heap.size :: rest, locked := none }) rfl hsize rfl rfl (rest := rest) rfl
    (by rw [hb]; exact d6) (by rw [hb]; exact d9) hout hRframes (by simp only [List.map_cons, List.sum_cons, hcat]; omega) hlocks
  obtain ⟨f1, f2⟩ := vx_frame hsame
  rw [hhp] at f1 f2
  have hWs : s.WarmedH U.vm := State.WarmedH.trans hW0 hW
  have hcl : s.vm.findClass cls = some ce.cls := by
    have h9 := hO.cls
    rw [hvm] at h9
    exact h9
  have hall : s.sameButNew ({ U with vm := s.vm } : State) locs mc ms := by
    subst hA
    obtain ⟨e1, e2⟩ := hsame
    rw [State.setFrames_setFrames] at e1
    have h2 : (T.setVm s.vm).sameButNew ({ U with vm := s.vm } : State) [] (0 + 1) (0 + 6) := ⟨e1, e2⟩
    have h3 := X.same.trans h2
    rw [List.append_nil] at h3
    exact h3.mono hc hs
  refine ⟨U, ?_, .threw T.heap.size, hrun, hend, Or.inr ⟨T.heap.size, rfl, cls, ce, locs, hx U hWs.alike f1 (fun q hq => f2 q hq (fun z hz => nomatch hz)), hce, hO.vm, hcl, hWs, hall, hf⟩⟩
  refine st1 _ ?_
  show Steps p.tables e below (T1.setTop { method := m, pc := pc + 3, locals := ls, stack := .ref T.heap.size :: rest, locked := none }) _
  jvm_step X₁.here [X₁.here.top, hexec, d3', Value.category]
  exact X₁.ldcString hexec (own := own) (text := text) (index := is) (a := sa) hown' hstr'.1 hstr'.2
    (g := { method := m, pc := pc + 4, locals := ls, stack := .ref T.heap.size :: .ref T.heap.size :: rest, locked := none }) rfl d4' _ hsteps
/-- 'throw new E("text")', the text by a wide index -/
theorem vx_throwSW {cc : ByteArray} {pc : Nat} (hexec : p.tables.exec = Jvm.exec) (hb : c.code = cc) (hl : l.stackTraces = false) {own cls text : String} {names : List String} {ik is ic mc ms sa : Nat} {A : Nat → Prop}
    (hown : s.vm.findClass own = some m.cls) (hcls : Bundle.fit cls = true) (hnames : ∀ n ∈ names, Bundle.fit n = true)
    (hk : (Cond.classLink own ik cls).before args s = true) (hini : (Cond.initialized cls).before args s = true) (hstr : vk_R own is text sa s) (hat : ∀ w ∈ vx_atS own ic cls names, w.before args s = true)
    (hgood : ∀ w ∈ Cond.classLink own ik cls :: Cond.initialized cls :: vx_atS own ic cls names, vx_ot w = true)
    (hU : vx_Zq Bundle.tN "UNASSIGNED_STACK" Bundle.steD A s s.heap) (hN : vx_Zq Bundle.tN "SUPPRESSED_SENTINEL" Bundle.listD A s s.heap) (hS : va_S A s.heap H locs) (hsize : ls.size = c.maxLocals)
    (d0 : decode cc pc = .ok (.new ik, 3)) (d3 : decode cc (pc + 3) = .ok (.dup, 1)) (d4 : decode cc (pc + 4) = .ok (.ldc_w is, 3)) (d7 : decode cc (pc + 7) = .ok (.invokespecial ic, 3)) (d10 : decode cc (pc + 10) = .ok (.athrow, 1))
    (hout : ∀ x ∈ c.exceptionTable.toList, covers x (pc + 10) = false)
    (hRframes : names.length + 3 < R.frames) (hRlocals : (rest.map fun v => v.category).sum + (13 * (names.length + 1) + 43) ≤ R.locals) (hRcells : cells + 1 ≤ R.cells) (hRslots : slots + 6 ≤ R.slots) (hlocks : meth.locks = false)
    (hx : ∀ t : State, s.vm.Alike t.vm → H.size ≤ t.heap.size → (∀ q : Nat, q < H.size → t.heap[q]? = H[q]?) → XC cls s t)
    (hf : ∀ z ∈ locs, free z.base) (hc : cells + 1 ≤ mc) (hs : slots + 6 ≤ ms) :
    W p l e R s m args below meth c H locs cells slots (vx_MQ below Qc XC args s mc ms free) (F0 m pc ls rest) := by
  intro T hT X
  have htr : e.platform.stackTraces = false := (show e.platform.stackTraces = l.stackTraces by rw [X.admits.platform]).trans hl
  have Y := vx_rebase X (R' := { frames := R.frames, locals := R.locals, cells := 1, slots := 6 }) (Nat.le_refl _) (Nat.le_refl _) hRcells hRslots
  obtain ⟨s', hA⟩ : ∃ z, z = (T.setVm s.vm).setFrames (.invoking m args :: below) := ⟨_, rfl⟩
  rw [← hA] at Y
  have hvm : s'.vm = s.vm := by rw [hA]; rfl
  have hhp : s'.heap = H := by rw [hA]; exact hT
  have hW0 : s.WarmedH s'.vm := by rw [hvm]; exact State.WarmedH.refl s
  have hat' : ∀ w ∈ vx_atS own ic cls names, w.before args s' = true := fun w hw => vx_ot_at hW0 hvm.symm (hgood w (List.mem_cons_of_mem _ (List.mem_cons_of_mem _ hw))) (hat w hw)
  have hk' : (Cond.classLink own ik cls).before args s' = true := vx_ot_at hW0 hvm.symm (hgood _ List.mem_cons_self) hk
  have hini' : (Cond.initialized cls).before args s' = true := vx_ot_at hW0 hvm.symm (hgood _ (List.mem_cons_of_mem _ List.mem_cons_self)) hini
  have hU' : vx_Zq Bundle.tN "UNASSIGNED_STACK" Bundle.steD A s' s'.heap := by rw [hhp]; exact vx_Zq.moved hW0.alike (hU.kept hS.2.1)
  have hN' : vx_Zq Bundle.tN "SUPPRESSED_SENTINEL" Bundle.listD A s' s'.heap := by rw [hhp]; exact vx_Zq.moved hW0.alike (hN.kept hS.2.1)
  have h : ∀ w ∈ Bundle.ownAtoms own ic cls names, w.before args s' = true := vx_own hat' (vx_isRefq hU'.1) (vx_isRefq hN'.1) hU'.2.word hN'.2.word
  have hown' : s'.vm.findClass own = some m.cls := by rw [hvm]; exact hown
  have hins : (Cond.instantiable cls 6).before args s' = true := h _ (by simp [Bundle.ownAtoms])
  obtain ⟨vm₁, cX, kX, hfX, hkX, -, -, X₁, st1⟩ := Y.newCold hexec (own := own) (C := cls) (index := ik) (n := 6) hown' hk' hins hini'
    (g := F0 m pc ls rest) rfl (by rw [hb]; exact d0) (Nat.le_refl _) (Nat.le_refl _)
  generalize hT1 : (T.setVm vm₁).pushCell { cls := cX, slots := kX.instanceTypes.map defaultValue, vm := .none } = T1 at X₁ st1
  have hcat : (Value.ref T.heap.size).category = 1 := rfl
  have hcellA : T1.heap[T.heap.size]? = some (freshCell cX kX) := by rw [← hT1]; exact State.heap_pushCell_size _ _
  have d3' : decode c.code (pc + 3) = .ok (.dup, 1) := by rw [hb]; exact d3
  have d4' : decode c.code (pc + 4) = .ok (.ldc_w is, 3) := by rw [hb]; exact d4
  have hstr' : vk_R own is text sa s' := vk_R.warm hW0 hstr
  obtain ⟨U, hsteps, hrun, hend, hW, hsame, ce, hce, hO⟩ := X₁.ctorThrowS hexec htr (own := own) (cls := cls) (names := names) (ic := ic) hown' hcls hnames h (fun x hx => nomatch hx) hfX hkX hcellA (by rw [hhp, hT]; exact Nat.le_refl _) (msg := .ref sa) rfl
    (g := { method := m, pc := pc + 7, locals := ls, stack := .ref sa :: .ref T.heap.size :: .ref T.heap.size :: rest, locked := none }) rfl hsize rfl rfl (rest := rest) rfl
    (by rw [hb]; exact d7) (by rw [hb]; exact d10) hout hRframes (by simp only [List.map_cons, List.sum_cons, hcat]; omega) hlocks
  obtain ⟨f1, f2⟩ := vx_frame hsame
  rw [hhp] at f1 f2
  have hWs : s.WarmedH U.vm := State.WarmedH.trans hW0 hW
  have hcl : s.vm.findClass cls = some ce.cls := by
    have h9 := hO.cls
    rw [hvm] at h9
    exact h9
  have hall : s.sameButNew ({ U with vm := s.vm } : State) locs mc ms := by
    subst hA
    obtain ⟨e1, e2⟩ := hsame
    rw [State.setFrames_setFrames] at e1
    have h2 : (T.setVm s.vm).sameButNew ({ U with vm := s.vm } : State) [] (0 + 1) (0 + 6) := ⟨e1, e2⟩
    have h3 := X.same.trans h2
    rw [List.append_nil] at h3
    exact h3.mono hc hs
  refine ⟨U, ?_, .threw T.heap.size, hrun, hend, Or.inr ⟨T.heap.size, rfl, cls, ce, locs, hx U hWs.alike f1 (fun q hq => f2 q hq (fun z hz => nomatch hz)), hce, hO.vm, hcl, hWs, hall, hf⟩⟩
  refine st1 _ ?_
  show Steps p.tables e below (T1.setTop { method := m, pc := pc + 3, locals := ls, stack := .ref T.heap.size :: rest, locked := none }) _
  jvm_step X₁.here [X₁.here.top, hexec, d3', Value.category]
  exact X₁.ldcStringW hexec (own := own) (text := text) (index := is) (a := sa) hown' hstr'.1 hstr'.2
    (g := { method := m, pc := pc + 4, locals := ls, stack := .ref T.heap.size :: .ref T.heap.size :: rest, locked := none }) rfl d4' _ hsteps
end Ends
section Bodies
variable {l : Launch}
theorem vx_ofW {y : MethodName} {ws ws' : List Cond} {rm : Room} {Pc : Array Value → State → Prop} {Qc : Array Value → State → Outcome → State → Prop} {XC : String → State → State → Prop} {mc ms : Nat} {free : Addr → Prop} {cc : ByteArray} {maxL : Nat} {ret : Option FieldType}
    (hy : plainName y.cls = true) (hw : ws = Cond.code y cc maxL ret :: ws')
    (body : ∀ p e s m args below meth c s₁, BodyLoose p l y (headSpec ws rm) cc maxL ret e s m args below meth c s₁ → c.maxLocals = maxL → (∀ x ∈ c.exceptionTable.toList, False) → Pc args s →
      W p l e (headSpec ws rm).room s m args below meth c s.heap [] 0 0 (vx_MQ below Qc XC args s mc ms free) (entryFrame m args maxL)) : vx_Met l y ws rm Pc Qc XC mc ms free := by
  refine MetFree.of_bodyS (code := cc) (maxLocals := maxL) (ret := ret) hy ?_ ?_
  · intro args s m h hn
    obtain ⟨meth, c, h1, h2, h3, h4, h5, h6, -, -⟩ := Cond.code_spec hn (atoms_spec (ws := ws) h _ (by rw [hw]; exact List.mem_cons_self))
    exact ⟨meth, c, h1, h2, h3, h4, h5, h6⟩
  · intro p e s m args below meth c s₁ B hml hP _
    have hh0 : s₁.heap = s.heap := by rw [B.state]; rfl
    have ht : ∀ x ∈ c.exceptionTable.toList, False := by
      obtain ⟨meth9, c9, h1, h2, -, -, -, -, h7, -⟩ := Cond.code_spec B.named (atoms_spec (ws := ws) B.pre _ (by rw [hw]; exact List.mem_cons_self))
      cases Option.some.inj (h1.symm.trans B.method)
      cases Option.some.inj (h2.symm.trans (Stand.of_body B).code)
      intro x hx
      rw [Array.isEmpty_iff.mp h7] at hx
      cases hx
    obtain ⟨t, a1, o, b1, b2, b3⟩ := body p e s m args below meth c s₁ B hml ht hP s₁ hh0 (Stand.of_body B)
    exact ⟨t, o, a1, b1, b2, b3⟩
/-- the table of a body with handlers -/
theorem vx_table {p : Program} {x y : MethodName} {S : Spec} {cc bytes : ByteArray} {maxL maxL' : Nat} {ret ret' : Option FieldType} {e : Env} {s s₁ : State} {m : MethodId} {args : Array Value} {below : List Frame} {meth : Method} {c : Code} {hh : List (Nat × Nat × Nat × Nat)}
    (B : BodyLoose p l y S cc maxL ret e s m args below meth c s₁) (h : (Cond.codeWith y bytes maxL' ret' hh).before args s = true) : c.exceptionTable.toList = tableOf hh := by
  obtain ⟨m9, meth9, c9, hn9, h1, h2, -, -, h6, -⟩ := Cond.codeWith_spec h
  cases Option.some.inj (hn9.symm.trans B.named)
  cases Option.some.inj (h1.symm.trans B.method)
  cases Option.some.inj (h2.symm.trans (Stand.of_body B).code)
  rw [← h6, table_eq]
end Bodies
end VXA
/-! ===== END ===== -/
/-! ===== BEGIN a static call of a method with an exception table ===== -/
section VXS
variable {p : Program} {l : Launch} {e : Env} {R : Room} {s : State} {m : MethodId} {args : Array Value} {below : List Frame} {meth : Method} {c : Code} {T : State} {H : Heap} {locs : List Loc} {cells slots : Nat}
abbrev vx_CSW (R : Room) (s : State) (args : Array Value) (own : String) (index : Nat) (y : MethodName) (bytes : ByteArray) (maxL : Nat) (ret : Option FieldType) (hh : List (Nat × Nat × Nat × Nat)) (ws : List Cond) (rm : Room) (mc ms n : Nat) : Prop :=
  (rm.cells = mc ∧ rm.slots = ms ∧ rm.frames + 1 ≤ R.frames ∧ 8 + (maxL + 11) + rm.locals ≤ R.locals ∧ (∀ w ∈ ws, ∀ (a' : Array Value) (U : State), s.WarmedH U.vm → w.before a' U = true) ∧ Cond.codeWith y bytes maxL ret hh ∈ ws) ∧
  (Cond.codeWith y bytes maxL ret hh).before args s = true ∧ (Cond.initialized y.cls).before args s = true ∧ (y.cls ≠ "java/lang/invoke/MethodHandle" ∧ y.cls ≠ "java/lang/invoke/VarHandle") ∧
  (∀ sig, parseMethodDescriptor y.desc = some sig → n = sig.parameters.length) ∧ (Cond.methodLink own index y).before args s = true ∧ (Cond.static y).before args s = true
theorem vx_cwSW {own : String} {index maxL mc ms : Nat} {y : MethodName} {bytes : ByteArray} {ret : Option FieldType} {hh : List (Nat × Nat × Nat × Nat)} {Ts ws ws' : List Cond} {rm : Room} (n : Nat) (ht : ∀ w ∈ Ts, w.before args s = true) (hT : GoodIn Ts (va_wsS own index y ws)) (hw : ws = Cond.codeWith y bytes maxL ret hh :: ws') (hrc : rm.cells = mc) (hrs : rm.slots = ms)
    (hd : y.cls ≠ "java/lang/invoke/MethodHandle" ∧ y.cls ≠ "java/lang/invoke/VarHandle" ∧ (parseMethodDescriptor y.desc).map (fun d => d.parameters.length) = some n) (hR : rm.frames + 1 ≤ R.frames ∧ 8 + (maxL + 11) + rm.locals ≤ R.locals) :
    vx_CSW R s args own index y bytes maxL ret hh ws rm mc ms n := by
  have ok : ∀ w ∈ va_wsS own index y ws, w.before args s = true := fun w h => ht w (hT w h).1
  have hG : GoodIn Ts ws := fun w h => hT w (by unfold va_wsS; exact List.mem_append_right _ h)
  have hc : Cond.codeWith y bytes maxL ret hh ∈ ws := by rw [hw]; exact List.mem_cons_self
  refine ⟨⟨hrc, hrs, hR.1, hR.2, pay_in ht hG, hc⟩, ht _ (hG _ hc).1, ok _ (by simp [va_wsS]), ⟨hd.1, hd.2.1⟩, fun sig h => ?_, ok _ (by simp [va_wsS]), ok _ (by simp [va_wsS])⟩
  have h2 := hd.2.2
  rw [h] at h2
  exact (Option.some.inj h2).symm
theorem vx_callSW (X : Stand p l e R s m args below meth c T locs cells slots) (hexec : p.tables.exec = Jvm.exec) {own : String} {index : Nat} {y : MethodName} {bytes : ByteArray} {maxL : Nat} {ret : Option FieldType} {hh : List (Nat × Nat × Nat × Nat)}
    (hown : s.vm.findClass own = some m.cls) (hlink : (Cond.methodLink own index y).before args s = true) (hstat : (Cond.static y).before args s = true) (hinit : (Cond.initialized y.cls).before args s = true)
    (hcode : (Cond.codeWith y bytes maxL ret hh).before args s = true) (hy : y.cls ≠ "java/lang/invoke/MethodHandle" ∧ y.cls ≠ "java/lang/invoke/VarHandle")
    {W9 : Nat} {Pre : Pt → Array Value → Prop} {Post : Pt → Array Value → Option Value → Pt → Prop} (hK : Back l R p e below s args y 3 W9 Pre Post)
    {g : JFrame} (hg : g.method = m) (hsize : g.locals.size = c.maxLocals) {argsL rest : List Value} (hlen : ∀ sig, parseMethodDescriptor y.desc = some sig → argsL.length = sig.parameters.length)
    (hstack : g.stack = argsL.reverse ++ rest) (hW : 2 * g.monitorRoom + (rest.map fun v => v.category).sum ≤ W9) (hdg : decode c.code g.pc = .ok (.invokestatic index, 3))
    (hpre : ∀ vm₁, s.WarmedH vm₁ → Pre ⟨T.setVm vm₁, locs, cells, slots⟩ argsL.toArray) :
    ∃ (v : Option Value) (vm₁ : Vm) (B : Pt), s.WarmedH vm₁ ∧ Stand p l e R s m args below meth c B.U B.locs B.cells B.slots ∧ Post ⟨T.setVm vm₁, locs, cells, slots⟩ argsL.toArray v B ∧
      ∀ target, Steps p.tables e below (B.U.setTop { g with pc := g.pc + 3, stack := v.toList ++ rest }) target → Steps p.tables e below (T.setTop g) target := by
  obtain ⟨mk, methM, cM, hnamed, hmethM, -, -, -, -, -, -, hsigM⟩ := Cond.codeWith_spec hcode
  have hstatic : methM.isStatic = true := Cond.static_spec hnamed hmethM hstat
  obtain ⟨kP, hkP, -⟩ := className_of_methodNamed hnamed
  have hinitP : kP.init = .initialized := Cond.initialized_spec (findClass_of_methodNamed hnamed) hkP hinit
  obtain ⟨vm₁, X₁, hstep₁⟩ := X.invokestatic hexec hown hlink hnamed hmethM hstatic hkP hinitP hy (g := g) hg (argsL := argsL) (rest := rest) (hlen _ hsigM) hstack hdg
  obtain ⟨v, B, X', hpost, hsteps⟩ := hK m meth c ⟨T.setVm vm₁, locs, cells, slots⟩ { g with stack := rest } (.invokestatic index) mk argsL.toArray X₁ hg hsize hdg hW (X₁.named hnamed) (hpre vm₁ X₁.warmed)
  exact ⟨v, vm₁, B, X₁.warmed, X', hpost, fun target h => hstep₁ _ fun acts => by rw [doInvoke_state]; exact hsteps.trans h⟩
theorem vx_runSW {y : MethodName} {bytes cc : ByteArray} {maxL nL mc ms n index : Nat} {ret : Option FieldType} {hh : List (Nat × Nat × Nat × Nat)} {ws : List Cond} {rm : Room} {Pc : Array Value → State → Prop} {Qc : Array Value → State → Outcome → State → Prop} {free : Addr → Prop} {Ts : List Cond} {own : String} {As rest : List Value} {g : JFrame}
    (S : CallFix p m c cc nL s args Ts own) (hM : Met l y ws rm Pc Qc mc ms free) (cw : vx_CSW R s args own index y bytes maxL ret hh ws rm mc ms n) (hp : PreS s H Pc As)
    (hg : g.method = m) (hn : As.length = n) (hsize : g.locals.size = nL) (hstack : g.stack = As.reverse ++ rest) (hW : 2 * g.monitorRoom + (rest.map fun v => v.category).sum ≤ 8) (hdg : decode cc g.pc = .ok (.invokestatic index, 3)) (hf : cells + mc ≤ R.cells ∧ slots + ms ≤ R.slots) :
    va_Run p l e R s m args below meth c H locs cells slots mc ms g rest (Qc As.toArray) (free) := by
  obtain ⟨⟨hrc, hrs, hfr, hlo, hws, hcw⟩, hcode, hini, hy, hlen, hl, hstt⟩ := cw
  have hK : Back l R p e below s args y 3 8 (PreOf R mc ms Pc) (PostOf Qc mc ms free) := va_backW (hh := hh) (bytes := bytes) (maxL := maxL) (ret := ret) hM hp.1 hrc hrs hfr hlo hws hcw (fun a' U hW => word_at hW (Or.inl (by first | rfl | simp [Cond.onTables, Cond.keeps, Cond.steady])) hini)
  obtain ⟨hx, hb, hml, ho, -⟩ := S
  intro T hT X
  obtain ⟨v, vm₁, ⟨U', l2, c2, s2⟩, hW₁, X', ⟨g', mk, t, L, e1, e2, hq, h1, hL, h2, h3⟩, st⟩ := vx_callSW X hx (hh := hh) (bytes := bytes) (maxL := maxL) (ret := ret) ho hl hstt hini hcode hy hK hg (hsize.trans hml.symm) (argsL := As) (rest := rest) (fun sig h => hn.trans (hlen sig h)) hstack hW (by rw [hb]; exact hdg)
    (fun vm₁ hW₁ => ⟨hf.1, hf.2, hp.2 (T.setVm vm₁) hT hW₁⟩)
  dsimp only [Pt.U, Pt.locs, Pt.cells, Pt.slots] at X' e1 e2 h1 h2 h3 st
  subst h1; subst h2; subst h3
  exact ⟨v, (T.setVm vm₁).calling g' mk As.toArray, t, U', L, hT, X', hL, e1, e2, hq, st⟩
end VXS
theorem vx_ofWH {l : Launch} {y : MethodName} {ws ws' : List Cond} {rm : Room} {Pc : Array Value → State → Prop} {Qc : Array Value → State → Outcome → State → Prop} {XC : String → State → State → Prop} {mc ms : Nat} {free : Addr → Prop} {cc : ByteArray} {maxL : Nat} {ret : Option FieldType} {hh : List (Nat × Nat × Nat × Nat)}
    (hy : plainName y.cls = true) (hw : ws = Cond.codeWith y cc maxL ret hh :: ws')
    (body : ∀ p e s m args below meth c s₁, BodyLoose p l y (headSpec ws rm) cc maxL ret e s m args below meth c s₁ → c.maxLocals = maxL → Pc args s →
      W p l e (headSpec ws rm).room s m args below meth c s.heap [] 0 0 (vx_MQ below Qc XC args s mc ms free) (entryFrame m args maxL)) : vx_Met l y ws rm Pc Qc XC mc ms free := by
  refine MetFree.of_bodyS (code := cc) (maxLocals := maxL) (ret := ret) hy ?_ ?_
  · intro args s m h hn
    obtain ⟨m9, meth, c, hn9, h1, h2, h3, h4, -, h5, h6, -⟩ := Cond.codeWith_spec (atoms_spec (ws := ws) h _ (by rw [hw]; exact List.mem_cons_self))
    cases hn.symm.trans hn9
    exact ⟨meth, c, h1, h2, h3, h4, h5, h6⟩
  · intro p e s m args below meth c s₁ B hml hP _
    have hh0 : s₁.heap = s.heap := by rw [B.state]; rfl
    obtain ⟨t, a1, o, b1, b2, b3⟩ := body p e s m args below meth c s₁ B hml hP s₁ hh0 (Stand.of_body B)
    exact ⟨t, o, a1, b1, b2, b3⟩
/-! ===== END ===== -/

/-! ===== BEGIN printed: names, fields, word lists, decode rows ===== -/
end
section
def RX0 : String := "OrderedBytes$Block"
def TX0 : u_T := fun k => match k with
  | 0 => ("OrderedBytes$Block", "start", "I", false)
  | 1 => ("OrderedBytes$Block", "units", "I", false)
  | 2 => ("OrderedBytes$Block", "owner", "LOrderedBytes$Node;", false)
  | _ => ("OrderedBytes$Block", "behind", "LOrderedBytes$Block;", false)
def tyX0 : Nat → FieldType := fun k => match k with
  | 0 => .int
  | 1 => .int
  | 2 => .object "OrderedBytes$Node"
  | _ => .object "OrderedBytes$Block"
abbrev wsX00 : List Cond := u_ws RX0 TX0 4
theorem nmX0 : ∀ a, a < 4 → ∀ b, b < 4 → a ≠ b → (TX0 a).2.1 ≠ (TX0 b).2.1 := by decide +kernel
theorem tyX0_ok : ∀ k, k < 4 → parseFieldDescriptor (TX0 k).2.2.1 = some (tyX0 k) := by decide +kernel
abbrev cX0_init : ByteArray := prog_2_method_1_code
def yX0_init : MethodName := ⟨RX0, "<init>", "(II)V"⟩
def RX1 : String := "OrderedBytes$Heap"
def TX1 : u_T := fun k => match k with
  | 0 => ("OrderedBytes$Heap", "limit", "I", true)
  | 1 => ("OrderedBytes$Heap", "edge", "LOrderedBytes$Block;", true)
  | 2 => ("OrderedBytes$Heap", "used", "I", false)
  | 3 => ("OrderedBytes$Heap", "capacity", "I", false)
  | _ => ("OrderedBytes$Heap", "bytes", "[B", false)
def tyX1 : Nat → FieldType := fun k => match k with
  | 0 => .int
  | 1 => .object "OrderedBytes$Block"
  | 2 => .int
  | 3 => .int
  | _ => .array .byte
abbrev wsX10 : List Cond := u_ws RX1 TX1 5
theorem nmX1 : ∀ a, a < 5 → ∀ b, b < 5 → a ≠ b → (TX1 a).2.1 ≠ (TX1 b).2.1 := by decide +kernel
theorem tyX1_ok : ∀ k, k < 5 → parseFieldDescriptor (TX1 k).2.2.1 = some (tyX1 k) := by decide +kernel
abbrev cX1_init : ByteArray := prog_3_method_1_code
def yX1_init : MethodName := ⟨RX1, "<init>", "(I)V"⟩
abbrev cX1_take : ByteArray := prog_3_method_2_code
def yX1_take : MethodName := ⟨RX1, "take", "(LOrderedBytes$Node;I)LOrderedBytes$Block;"⟩
abbrev cX1_giveBack : ByteArray := prog_3_method_3_code
def yX1_giveBack : MethodName := ⟨RX1, "giveBack", "(LOrderedBytes$Block;)V"⟩
abbrev cX1_empty : ByteArray := prog_3_method_4_code
def yX1_empty : MethodName := ⟨RX1, "empty", "()V"⟩
abbrev cX1_write : ByteArray := prog_3_method_5_code
def yX1_write : MethodName := ⟨RX1, "write", "(LOrderedBytes$Block;LOrderedBytes$Row;I)V"⟩
abbrev cX1_read : ByteArray := prog_3_method_6_code
def yX1_read : MethodName := ⟨RX1, "read", "(LOrderedBytes$Block;IILOrderedBytes$Row;)V"⟩
abbrev cX1_compareRow : ByteArray := prog_3_method_7_code
def yX1_compareRow : MethodName := ⟨RX1, "compareRow", "(LOrderedBytes$Row;ILOrderedBytes$Node;)I"⟩
abbrev cX1_compareNodes : ByteArray := prog_3_method_8_code
def yX1_compareNodes : MethodName := ⟨RX1, "compareNodes", "(LOrderedBytes$Node;LOrderedBytes$Node;)I"⟩
abbrev cX1_compareBytes : ByteArray := prog_3_method_9_code
def yX1_compareBytes : MethodName := ⟨RX1, "compareBytes", "([BIILOrderedBytes$Node;)I"⟩
abbrev cX1_firstFit : ByteArray := prog_3_method_10_code
def yX1_firstFit : MethodName := ⟨RX1, "firstFit", "(I)LOrderedBytes$Block;"⟩
abbrev cX1_joinFreeOnes : ByteArray := prog_3_method_11_code
def yX1_joinFreeOnes : MethodName := ⟨RX1, "joinFreeOnes", "(LOrderedBytes$Block;)V"⟩
abbrev cX1_cut : ByteArray := prog_3_method_12_code
def yX1_cut : MethodName := ⟨RX1, "cut", "(LOrderedBytes$Block;I)V"⟩
abbrev cX1_grow : ByteArray := prog_3_method_13_code
def yX1_grow : MethodName := ⟨RX1, "grow", "(I)V"⟩
abbrev cX1_pushTogether : ByteArray := prog_3_method_14_code
def yX1_pushTogether : MethodName := ⟨RX1, "pushTogether", "()LOrderedBytes$Block;"⟩
abbrev cX1_moveTo : ByteArray := prog_3_method_15_code
def yX1_moveTo : MethodName := ⟨RX1, "moveTo", "(LOrderedBytes$Block;I)V"⟩
abbrev cX1_isSound : ByteArray := prog_3_method_16_code
def yX1_isSound : MethodName := ⟨RX1, "isSound", "()Z"⟩
def RX2 : String := "OrderedBytes$Node"
def TX2 : u_T := fun k => match k with
  | 0 => ("OrderedBytes$Node", "keyBytes", "I", true)
  | 1 => ("OrderedBytes$Node", "valueBytes", "I", false)
  | 2 => ("OrderedBytes$Node", "block", "LOrderedBytes$Block;", false)
  | 3 => ("OrderedBytes$Node", "left", "LOrderedBytes$Node;", false)
  | 4 => ("OrderedBytes$Node", "right", "LOrderedBytes$Node;", false)
  | 5 => ("OrderedBytes$Node", "parent", "LOrderedBytes$Node;", false)
  | 6 => ("OrderedBytes$Node", "red", "Z", false)
  | _ => ("OrderedBytes$Node", "size", "I", false)
def tyX2 : Nat → FieldType := fun k => match k with
  | 0 => .int
  | 1 => .int
  | 2 => .object "OrderedBytes$Block"
  | 3 => .object "OrderedBytes$Node"
  | 4 => .object "OrderedBytes$Node"
  | 5 => .object "OrderedBytes$Node"
  | 6 => .boolean
  | _ => .int
abbrev wsX20 : List Cond := u_ws RX2 TX2 8
theorem nmX2 : ∀ a, a < 8 → ∀ b, b < 8 → a ≠ b → (TX2 a).2.1 ≠ (TX2 b).2.1 := by decide +kernel
theorem tyX2_ok : ∀ k, k < 8 → parseFieldDescriptor (TX2 k).2.2.1 = some (tyX2 k) := by decide +kernel
abbrev cX2_init : ByteArray := prog_4_method_1_code
def yX2_init : MethodName := ⟨RX2, "<init>", "(I)V"⟩
abbrev cX2_child : ByteArray := prog_4_method_2_code
def yX2_child : MethodName := ⟨RX2, "child", "(I)LOrderedBytes$Node;"⟩
abbrev cX2_setChild : ByteArray := prog_4_method_3_code
def yX2_setChild : MethodName := ⟨RX2, "setChild", "(ILOrderedBytes$Node;)V"⟩
abbrev cX2_sideOf : ByteArray := prog_4_method_4_code
def yX2_sideOf : MethodName := ⟨RX2, "sideOf", "(LOrderedBytes$Node;)I"⟩
def RX3 : String := "OrderedBytes$Row"
def TX3 : u_T := fun k => match k with
  | 0 => ("OrderedBytes$Row", "bytes", "[B", true)
  | _ => ("OrderedBytes$Row", "length", "I", false)
def tyX3 : Nat → FieldType := fun k => match k with
  | 0 => .array .byte
  | _ => .int
abbrev wsX30 : List Cond := u_ws RX3 TX3 2
theorem nmX3 : ∀ a, a < 2 → ∀ b, b < 2 → a ≠ b → (TX3 a).2.1 ≠ (TX3 b).2.1 := by decide +kernel
theorem tyX3_ok : ∀ k, k < 2 → parseFieldDescriptor (TX3 k).2.2.1 = some (tyX3 k) := by decide +kernel
abbrev cX3_init : ByteArray := prog_5_method_1_code
def yX3_init : MethodName := ⟨RX3, "<init>", "(I)V"⟩
abbrev cX3_append : ByteArray := prog_5_method_2_code
def yX3_append : MethodName := ⟨RX3, "append", "(B)V"⟩
def RX4 : String := "OrderedBytes$Tree"
def TX4 : u_T := fun k => match k with
  | 0 => ("OrderedBytes$Tree", "heap", "LOrderedBytes$Heap;", true)
  | 1 => ("OrderedBytes$Tree", "nil", "LOrderedBytes$Node;", true)
  | _ => ("OrderedBytes$Tree", "root", "LOrderedBytes$Node;", false)
def tyX4 : Nat → FieldType := fun k => match k with
  | 0 => .object "OrderedBytes$Heap"
  | 1 => .object "OrderedBytes$Node"
  | _ => .object "OrderedBytes$Node"
abbrev wsX40 : List Cond := u_ws RX4 TX4 3
theorem nmX4 : ∀ a, a < 3 → ∀ b, b < 3 → a ≠ b → (TX4 a).2.1 ≠ (TX4 b).2.1 := by decide +kernel
theorem tyX4_ok : ∀ k, k < 3 → parseFieldDescriptor (TX4 k).2.2.1 = some (tyX4 k) := by decide +kernel
abbrev cX4_init : ByteArray := prog_6_method_1_code
def yX4_init : MethodName := ⟨RX4, "<init>", "(LOrderedBytes$Heap;)V"⟩
abbrev cX4_size : ByteArray := prog_6_method_2_code
def yX4_size : MethodName := ⟨RX4, "size", "()I"⟩
abbrev cX4_empty : ByteArray := prog_6_method_3_code
def yX4_empty : MethodName := ⟨RX4, "empty", "()V"⟩
abbrev cX4_find : ByteArray := prog_6_method_4_code
def yX4_find : MethodName := ⟨RX4, "find", "(LOrderedBytes$Row;I)LOrderedBytes$Node;"⟩
abbrev cX4_keysBelow : ByteArray := prog_6_method_5_code
def yX4_keysBelow : MethodName := ⟨RX4, "keysBelow", "(LOrderedBytes$Row;IZ)I"⟩
abbrev cX4_pick : ByteArray := prog_6_method_6_code
def yX4_pick : MethodName := ⟨RX4, "pick", "(I)LOrderedBytes$Node;"⟩
abbrev cX4_placeOf : ByteArray := prog_6_method_7_code
def yX4_placeOf : MethodName := ⟨RX4, "placeOf", "(LOrderedBytes$Node;)I"⟩
abbrev cX4_holds : ByteArray := prog_6_method_8_code
def yX4_holds : MethodName := ⟨RX4, "holds", "(LOrderedBytes$Node;)Z"⟩
abbrev cX4_link : ByteArray := prog_6_method_9_code
def yX4_link : MethodName := ⟨RX4, "link", "(LOrderedBytes$Node;)V"⟩
abbrev cX4_unlink : ByteArray := prog_6_method_10_code
def yX4_unlink : MethodName := ⟨RX4, "unlink", "(LOrderedBytes$Node;)V"⟩
abbrev cX4_least : ByteArray := prog_6_method_11_code
def yX4_least : MethodName := ⟨RX4, "least", "(LOrderedBytes$Node;)LOrderedBytes$Node;"⟩
abbrev cX4_replace : ByteArray := prog_6_method_12_code
def yX4_replace : MethodName := ⟨RX4, "replace", "(LOrderedBytes$Node;LOrderedBytes$Node;)V"⟩
abbrev cX4_takeOver : ByteArray := prog_6_method_13_code
def yX4_takeOver : MethodName := ⟨RX4, "takeOver", "(LOrderedBytes$Node;LOrderedBytes$Node;)V"⟩
abbrev cX4_rotate : ByteArray := prog_6_method_14_code
def yX4_rotate : MethodName := ⟨RX4, "rotate", "(LOrderedBytes$Node;I)V"⟩
abbrev cX4_mendRedBelowRed : ByteArray := prog_6_method_15_code
def yX4_mendRedBelowRed : MethodName := ⟨RX4, "mendRedBelowRed", "(LOrderedBytes$Node;)V"⟩
abbrev cX4_mendMissingBlack : ByteArray := prog_6_method_16_code
def yX4_mendMissingBlack : MethodName := ⟨RX4, "mendMissingBlack", "(LOrderedBytes$Node;)V"⟩
abbrev cX4_giveBlackFrom : ByteArray := prog_6_method_17_code
def yX4_giveBlackFrom : MethodName := ⟨RX4, "giveBlackFrom", "(LOrderedBytes$Node;LOrderedBytes$Node;I)V"⟩
abbrev cX4_isSound : ByteArray := prog_6_method_18_code
def yX4_isSound : MethodName := ⟨RX4, "isSound", "()Z"⟩
abbrev cX4_blackOnes : ByteArray := prog_6_method_19_code
def yX4_blackOnes : MethodName := ⟨RX4, "blackOnes", "(LOrderedBytes$Tree;LOrderedBytes$Node;LOrderedBytes$Node;LOrderedBytes$Node;I)I"⟩
abbrev cX4_isLinkedWell : ByteArray := prog_6_method_20_code
def yX4_isLinkedWell : MethodName := ⟨RX4, "isLinkedWell", "(LOrderedBytes$Node;)Z"⟩
abbrev cX4_isBetween : ByteArray := prog_6_method_21_code
def yX4_isBetween : MethodName := ⟨RX4, "isBetween", "(LOrderedBytes$Node;LOrderedBytes$Node;LOrderedBytes$Node;)Z"⟩
def RX5 : String := "OrderedBytes"
def TX5 : u_T := fun k => match k with
  | 0 => ("OrderedBytes", "entryLimit", "I", true)
  | 1 => ("OrderedBytes", "heap", "LOrderedBytes$Heap;", true)
  | 2 => ("OrderedBytes", "tree", "LOrderedBytes$Tree;", true)
  | 3 => ("OrderedBytes", "tape", "LOrderedBytes$Row;", true)
  | 4 => ("OrderedBytes", "result", "LOrderedBytes$Row;", true)
  | 5 => ("OrderedBytes", "current", "LOrderedBytes$Node;", false)
  | 6 => ("OrderedBytes", "keyBytes", "I", false)
  | _ => ("OrderedBytes", "valueBytes", "I", false)
def tyX5 : Nat → FieldType := fun k => match k with
  | 0 => .int
  | 1 => .object "OrderedBytes$Heap"
  | 2 => .object "OrderedBytes$Tree"
  | 3 => .object "OrderedBytes$Row"
  | 4 => .object "OrderedBytes$Row"
  | 5 => .object "OrderedBytes$Node"
  | 6 => .int
  | _ => .int
abbrev wsX50 : List Cond := u_ws RX5 TX5 8
theorem nmX5 : ∀ a, a < 8 → ∀ b, b < 8 → a ≠ b → (TX5 a).2.1 ≠ (TX5 b).2.1 := by decide +kernel
theorem tyX5_ok : ∀ k, k < 8 → parseFieldDescriptor (TX5 k).2.2.1 = some (tyX5 k) := by decide +kernel
abbrev cX5_init : ByteArray := prog_1_method_1_code
def yX5_init : MethodName := ⟨RX5, "<init>", "(II)V"⟩
abbrev cX5_feed : ByteArray := prog_1_method_2_code
def yX5_feed : MethodName := ⟨RX5, "feed", "(JI)I"⟩
abbrev cX5_put : ByteArray := prog_1_method_3_code
def yX5_put : MethodName := ⟨RX5, "put", "(I)Z"⟩
abbrev cX5_get : ByteArray := prog_1_method_4_code
def yX5_get : MethodName := ⟨RX5, "get", "()I"⟩
abbrev cX5_remove : ByteArray := prog_1_method_5_code
def yX5_remove : MethodName := ⟨RX5, "remove", "()Z"⟩
abbrev cX5_seek : ByteArray := prog_1_method_6_code
def yX5_seek : MethodName := ⟨RX5, "seek", "(I)I"⟩
abbrev cX5_at : ByteArray := prog_1_method_7_code
def yX5_at : MethodName := ⟨RX5, "at", "(I)I"⟩
abbrev cX5_step : ByteArray := prog_1_method_8_code
def yX5_step : MethodName := ⟨RX5, "step", "(Z)Z"⟩
abbrev cX5_value : ByteArray := prog_1_method_9_code
def yX5_value : MethodName := ⟨RX5, "value", "()I"⟩
abbrev cX5_place : ByteArray := prog_1_method_10_code
def yX5_place : MethodName := ⟨RX5, "place", "()I"⟩
abbrev cX5_range : ByteArray := prog_1_method_11_code
def yX5_range : MethodName := ⟨RX5, "range", "()I"⟩
abbrev cX5_removeFrom : ByteArray := prog_1_method_12_code
def yX5_removeFrom : MethodName := ⟨RX5, "removeFrom", "(I)I"⟩
abbrev cX5_clear : ByteArray := prog_1_method_13_code
def yX5_clear : MethodName := ⟨RX5, "clear", "()I"⟩
abbrev cX5_byteAt : ByteArray := prog_1_method_14_code
def yX5_byteAt : MethodName := ⟨RX5, "byteAt", "(I)I"⟩
abbrev cX5_count : ByteArray := prog_1_method_15_code
def yX5_count : MethodName := ⟨RX5, "count", "(I)I"⟩
abbrev cX5_sound : ByteArray := prog_1_method_16_code
def yX5_sound : MethodName := ⟨RX5, "sound", "()Z"⟩
abbrev cX5_nearest : ByteArray := prog_1_method_17_code
def yX5_nearest : MethodName := ⟨RX5, "nearest", "(II)I"⟩
abbrev cX5_unitsOf : ByteArray := prog_1_method_18_code
def yX5_unitsOf : MethodName := ⟨RX5, "unitsOf", "(I)I"⟩
abbrev cX5_isKeyLength : ByteArray := prog_1_method_19_code
def yX5_isKeyLength : MethodName := ⟨RX5, "isKeyLength", "(I)Z"⟩
abbrev cX5_readTape : ByteArray := prog_1_method_20_code
def yX5_readTape : MethodName := ⟨RX5, "readTape", "()I"⟩
abbrev cX5_readKey : ByteArray := prog_1_method_21_code
def yX5_readKey : MethodName := ⟨RX5, "readKey", "()I"⟩
abbrev cX5_currentPlace : ByteArray := prog_1_method_22_code
def yX5_currentPlace : MethodName := ⟨RX5, "currentPlace", "()I"⟩
abbrev cX5_isFull : ByteArray := prog_1_method_23_code
def yX5_isFull : MethodName := ⟨RX5, "isFull", "(LOrderedBytes$Node;I)Z"⟩
abbrev cX5_newEntry : ByteArray := prog_1_method_24_code
def yX5_newEntry : MethodName := ⟨RX5, "newEntry", "(II)LOrderedBytes$Node;"⟩
abbrev cX5_changeValue : ByteArray := prog_1_method_25_code
def yX5_changeValue : MethodName := ⟨RX5, "changeValue", "(LOrderedBytes$Node;I)V"⟩
abbrev cX5_fill : ByteArray := prog_1_method_26_code
def yX5_fill : MethodName := ⟨RX5, "fill", "(LOrderedBytes$Node;I)V"⟩
abbrev cX5_drop : ByteArray := prog_1_method_27_code
def yX5_drop : MethodName := ⟨RX5, "drop", "(LOrderedBytes$Node;)V"⟩
abbrev cX5_goTo : ByteArray := prog_1_method_28_code
def yX5_goTo : MethodName := ⟨RX5, "goTo", "(LOrderedBytes$Node;)I"⟩
abbrev cX5_showValue : ByteArray := prog_1_method_29_code
def yX5_showValue : MethodName := ⟨RX5, "showValue", "(LOrderedBytes$Node;)I"⟩
abbrev cX5_blocksMatchEntries : ByteArray := prog_1_method_30_code
def yX5_blocksMatchEntries : MethodName := ⟨RX5, "blocksMatchEntries", "()Z"⟩
def RX6 : String := "OrderedBytesModel"
def TX6 : u_T := fun k => match k with
  | 0 => ("OrderedBytesModel", "thrown", "I", false)
  | 1 => ("OrderedBytesModel", "most", "I", true)
  | 2 => ("OrderedBytesModel", "units", "I", true)
  | 3 => ("OrderedBytesModel", "fed", "I", false)
  | 4 => ("OrderedBytesModel", "tape", "[I", true)
  | 5 => ("OrderedBytesModel", "size", "I", false)
  | 6 => ("OrderedBytesModel", "result", "[I", true)
  | 7 => ("OrderedBytesModel", "count", "I", false)
  | 8 => ("OrderedBytesModel", "length", "I", false)
  | 9 => ("OrderedBytesModel", "bytes", "[I", true)
  | 10 => ("OrderedBytesModel", "keySizes", "[I", true)
  | 11 => ("OrderedBytesModel", "valueSizes", "[I", true)
  | _ => ("OrderedBytesModel", "current", "I", false)
def tyX6 : Nat → FieldType := fun k => match k with
  | 0 => .int
  | 1 => .int
  | 2 => .int
  | 3 => .int
  | 4 => .array .int
  | 5 => .int
  | 6 => .array .int
  | 7 => .int
  | 8 => .int
  | 9 => .array .int
  | 10 => .array .int
  | 11 => .array .int
  | _ => .int
abbrev wsX60 : List Cond := u_ws RX6 TX6 13
theorem nmX6 : ∀ a, a < 13 → ∀ b, b < 13 → a ≠ b → (TX6 a).2.1 ≠ (TX6 b).2.1 := by decide +kernel
theorem tyX6_ok : ∀ k, k < 13 → parseFieldDescriptor (TX6 k).2.2.1 = some (tyX6 k) := by decide +kernel
abbrev cX6_init : ByteArray := prog_8_method_1_code
def yX6_init : MethodName := ⟨RX6, "<init>", "(II)V"⟩
abbrev cX6_thrown : ByteArray := prog_8_method_2_code
def yX6_thrown : MethodName := ⟨RX6, "thrown", "()I"⟩
abbrev cX6_fail : ByteArray := prog_8_method_3_code
def yX6_fail : MethodName := ⟨RX6, "fail", "(I)I"⟩
abbrev cX6_within : ByteArray := prog_8_method_4_code
def yX6_within : MethodName := ⟨RX6, "within", "(III)Z"⟩
abbrev cX6_feed : ByteArray := prog_8_method_5_code
def yX6_feed : MethodName := ⟨RX6, "feed", "(JI)I"⟩
abbrev cX6_taken : ByteArray := prog_8_method_6_code
def yX6_taken : MethodName := ⟨RX6, "taken", "()I"⟩
abbrev cX6_start : ByteArray := prog_8_method_7_code
def yX6_start : MethodName := ⟨RX6, "start", "(I)I"⟩
abbrev cX6_compare : ByteArray := prog_8_method_8_code
def yX6_compare : MethodName := ⟨RX6, "compare", "(III)I"⟩
abbrev cX6_below : ByteArray := prog_8_method_9_code
def yX6_below : MethodName := ⟨RX6, "below", "(IZ)I"⟩
abbrev cX6_find : ByteArray := prog_8_method_10_code
def yX6_find : MethodName := ⟨RX6, "find", "(I)I"⟩
abbrev cX6_unitsOf : ByteArray := prog_8_method_11_code
def yX6_unitsOf : MethodName := ⟨RX6, "unitsOf", "(I)I"⟩
abbrev cX6_used : ByteArray := prog_8_method_12_code
def yX6_used : MethodName := ⟨RX6, "used", "()I"⟩
abbrev cX6_move : ByteArray := prog_8_method_13_code
def yX6_move : MethodName := ⟨RX6, "move", "(II)V"⟩
abbrev cX6_take : ByteArray := prog_8_method_14_code
def yX6_take : MethodName := ⟨RX6, "take", "(I)V"⟩
abbrev cX6_insert : ByteArray := prog_8_method_15_code
def yX6_insert : MethodName := ⟨RX6, "insert", "(III)V"⟩
abbrev cX6_put : ByteArray := prog_8_method_16_code
def yX6_put : MethodName := ⟨RX6, "put", "(I)Z"⟩
abbrev cX6_told : ByteArray := prog_8_method_17_code
def yX6_told : MethodName := ⟨RX6, "told", "(IZ)I"⟩
abbrev cX6_get : ByteArray := prog_8_method_18_code
def yX6_get : MethodName := ⟨RX6, "get", "()I"⟩
abbrev cX6_remove : ByteArray := prog_8_method_19_code
def yX6_remove : MethodName := ⟨RX6, "remove", "()Z"⟩
abbrev cX6_seek : ByteArray := prog_8_method_20_code
def yX6_seek : MethodName := ⟨RX6, "seek", "(I)I"⟩
abbrev cX6_at : ByteArray := prog_8_method_21_code
def yX6_at : MethodName := ⟨RX6, "at", "(I)I"⟩
abbrev cX6_step : ByteArray := prog_8_method_22_code
def yX6_step : MethodName := ⟨RX6, "step", "(Z)Z"⟩
abbrev cX6_value : ByteArray := prog_8_method_23_code
def yX6_value : MethodName := ⟨RX6, "value", "()I"⟩
abbrev cX6_place : ByteArray := prog_8_method_24_code
def yX6_place : MethodName := ⟨RX6, "place", "()I"⟩
abbrev cX6_range : ByteArray := prog_8_method_25_code
def yX6_range : MethodName := ⟨RX6, "range", "()I"⟩
abbrev cX6_removeFrom : ByteArray := prog_8_method_26_code
def yX6_removeFrom : MethodName := ⟨RX6, "removeFrom", "(I)I"⟩
abbrev cX6_clear : ByteArray := prog_8_method_27_code
def yX6_clear : MethodName := ⟨RX6, "clear", "()I"⟩
abbrev cX6_byteAt : ByteArray := prog_8_method_28_code
def yX6_byteAt : MethodName := ⟨RX6, "byteAt", "(I)I"⟩
abbrev cX6_count : ByteArray := prog_8_method_29_code
def yX6_count : MethodName := ⟨RX6, "count", "(I)I"⟩
abbrev cX6_sound : ByteArray := prog_8_method_30_code
def yX6_sound : MethodName := ⟨RX6, "sound", "()Z"⟩
def RJx8e188 : String := "java/lang/Cloneable"
def TJx8e188 : u_T := fun k => match k with
  | _ => ("", "", "", false)
def tyJx8e188 : Nat → FieldType := fun k => match k with
  | _ => .int
abbrev wsJx8e1880 : List Cond := u_ws RJx8e188 TJx8e188 0
theorem nmJx8e188 : ∀ a, a < 0 → ∀ b, b < 0 → a ≠ b → (TJx8e188 a).2.1 ≠ (TJx8e188 b).2.1 := by decide +kernel
theorem tyJx8e188_ok : ∀ k, k < 0 → parseFieldDescriptor (TJx8e188 k).2.2.1 = some (tyJx8e188 k) := by decide +kernel
def RJ6 : String := "java/lang/Integer"
def TJ6 : u_T := fun k => match k with
  | _ => ("", "", "", false)
def tyJ6 : Nat → FieldType := fun k => match k with
  | _ => .int
abbrev wsJ60 : List Cond := u_ws RJ6 TJ6 0
theorem nmJ6 : ∀ a, a < 0 → ∀ b, b < 0 → a ≠ b → (TJ6 a).2.1 ≠ (TJ6 b).2.1 := by decide +kernel
theorem tyJ6_ok : ∀ k, k < 0 → parseFieldDescriptor (TJ6 k).2.2.1 = some (tyJ6 k) := by decide +kernel
abbrev cJ6_numberOfLeadingZeros_0f7a4 : ByteArray := prog_14_method_47_code
def yJ6_numberOfLeadingZeros_0f7a4 : MethodName := ⟨RJ6, "numberOfLeadingZeros", "(I)I"⟩
def RJ9 : String := "java/lang/Math"
def TJ9 : u_T := fun k => match k with
  | _ => ("", "", "", false)
def tyJ9 : Nat → FieldType := fun k => match k with
  | _ => .int
abbrev wsJ90 : List Cond := u_ws RJ9 TJ9 0
theorem nmJ9 : ∀ a, a < 0 → ∀ b, b < 0 → a ≠ b → (TJ9 a).2.1 ≠ (TJ9 b).2.1 := by decide +kernel
theorem tyJ9_ok : ∀ k, k < 0 → parseFieldDescriptor (TJ9 k).2.2.1 = some (tyJ9 k) := by decide +kernel
abbrev cJ9_max_7cf53 : ByteArray := prog_15_method_65_code
def yJ9_max_7cf53 : MethodName := ⟨RJ9, "max", "(II)I"⟩
abbrev cJ9_min_7cf53 : ByteArray := prog_15_method_69_code
def yJ9_min_7cf53 : MethodName := ⟨RJ9, "min", "(II)I"⟩
def RJ0 : String := "java/lang/String"
def TJ0 : u_T := fun k => match k with
  | _ => ("", "", "", false)
def tyJ0 : Nat → FieldType := fun k => match k with
  | _ => .int
abbrev wsJ00 : List Cond := u_ws RJ0 TJ0 0
theorem nmJ0 : ∀ a, a < 0 → ∀ b, b < 0 → a ≠ b → (TJ0 a).2.1 ≠ (TJ0 b).2.1 := by decide +kernel
theorem tyJ0_ok : ∀ k, k < 0 → parseFieldDescriptor (TJ0 k).2.2.1 = some (tyJ0 k) := by decide +kernel
def RJ10 : String := "java/lang/System"
def TJ10 : u_T := fun k => match k with
  | _ => ("", "", "", false)
def tyJ10 : Nat → FieldType := fun k => match k with
  | _ => .int
abbrev wsJ100 : List Cond := u_ws RJ10 TJ10 0
theorem nmJ10 : ∀ a, a < 0 → ∀ b, b < 0 → a ≠ b → (TJ10 a).2.1 ≠ (TJ10 b).2.1 := by decide +kernel
theorem tyJ10_ok : ∀ k, k < 0 → parseFieldDescriptor (TJ10 k).2.2.1 = some (tyJ10 k) := by decide +kernel
def RJ7 : String := "java/util/Arrays"
def TJ7 : u_T := fun k => match k with
  | _ => ("", "", "", false)
def tyJ7 : Nat → FieldType := fun k => match k with
  | _ => .int
abbrev wsJ70 : List Cond := u_ws RJ7 TJ7 0
theorem nmJ7 : ∀ a, a < 0 → ∀ b, b < 0 → a ≠ b → (TJ7 a).2.1 ≠ (TJ7 b).2.1 := by decide +kernel
theorem tyJ7_ok : ∀ k, k < 0 → parseFieldDescriptor (TJ7 k).2.2.1 = some (tyJ7 k) := by decide +kernel
abbrev cJ7_copyOf_9075b : ByteArray := prog_20_method_121_code
def yJ7_copyOf_9075b : MethodName := ⟨RJ7, "copyOf", "([BI)[B"⟩
def RL : String := "OrderedBytesLaw"
abbrev cL_cell : ByteArray := method_2_code
def yL_cell : MethodName := ⟨RL, "cell", "([II)I"⟩
abbrev cL_feed : ByteArray := method_3_code
def yL_feed : MethodName := ⟨RL, "feed", "(LOrderedBytes;JI[J)I"⟩
abbrev cL_put : ByteArray := method_4_code
def yL_put : MethodName := ⟨RL, "put", "(LOrderedBytes;I[J)I"⟩
abbrev cL_get : ByteArray := method_5_code
def yL_get : MethodName := ⟨RL, "get", "(LOrderedBytes;[J)I"⟩
abbrev cL_remove : ByteArray := method_6_code
def yL_remove : MethodName := ⟨RL, "remove", "(LOrderedBytes;[J)I"⟩
abbrev cL_seek : ByteArray := method_7_code
def yL_seek : MethodName := ⟨RL, "seek", "(LOrderedBytes;I[J)I"⟩
abbrev cL_at : ByteArray := method_8_code
def yL_at : MethodName := ⟨RL, "at", "(LOrderedBytes;I[J)I"⟩
abbrev cL_step : ByteArray := method_9_code
def yL_step : MethodName := ⟨RL, "step", "(LOrderedBytes;Z[J)I"⟩
abbrev cL_value : ByteArray := method_10_code
def yL_value : MethodName := ⟨RL, "value", "(LOrderedBytes;[J)I"⟩
abbrev cL_place : ByteArray := method_11_code
def yL_place : MethodName := ⟨RL, "place", "(LOrderedBytes;[J)I"⟩
abbrev cL_range : ByteArray := method_12_code
def yL_range : MethodName := ⟨RL, "range", "(LOrderedBytes;[J)I"⟩
abbrev cL_removeFrom : ByteArray := method_13_code
def yL_removeFrom : MethodName := ⟨RL, "removeFrom", "(LOrderedBytes;I[J)I"⟩
abbrev cL_byteAt : ByteArray := method_14_code
def yL_byteAt : MethodName := ⟨RL, "byteAt", "(LOrderedBytes;I[J)I"⟩
abbrev cL_law : ByteArray := code
def yL_law : MethodName := ⟨RL, "law", "([I)Z"⟩
abbrev vwCl : List vw_C := [(RX0, TX0, 4), (RX1, TX1, 5), (RX2, TX2, 8), (RX3, TX3, 2), (RX4, TX4, 3), (RX5, TX5, 8), (RX6, TX6, 13)]
end
section
/-! MEMORY AND THE JUDGEMENT ob_G. A world w = (T, V, B, J): T a = some (kind, length) where a cell stands (kinds 0 .. 6: objects of vwCl's classes; 7 byte[], 8 int[], 9 long[]); V a k: field k of the object at a; B a j, J a j: what arrays hold. ob_G X y R Q pc lv st w k n: method y, at pc with the locals lv, the stack st and the world w, comes to its end with Q -/
abbrev ob_T : Type := Nat → Option (Nat × Nat)
abbrev ob_V : Type := Nat → Nat → Value
abbrev ob_B : Type := Nat → Nat → Int32
abbrev ob_J : Type := Nat → Nat → Int64
abbrev ob_w : Type := ob_T × ob_V × ob_B × ob_J
def ob_set {α : Type} (V : Nat → Nat → α) (a k : Nat) (v : α) : Nat → Nat → α := fun b j => if b = a ∧ j = k then v else V b j
theorem ob_set_s {α : Type} (V : Nat → Nat → α) (a k : Nat) (v : α) : ob_set V a k v a k = v := by simp [ob_set]
theorem ob_set_k {α : Type} (V : Nat → Nat → α) (a k : Nat) (v : α) (b : Nat) {j : Nat} (h : j ≠ k) : ob_set V a k v b j = V b j := by simp [ob_set, h]
theorem ob_set_a {α : Type} (V : Nat → Nat → α) (a k : Nat) (v : α) {b : Nat} (j : Nat) (h : b ≠ a) : ob_set V a k v b j = V b j := by simp [ob_set, h]
/-- classes' numbers and slots; the classes of byte[], int[], long[] -/
abbrev ob_D : Type := va_G × (Nat → ClassId)
def ob_at (D : ob_D) (w : ob_w) (a c n : Nat) (H : Heap) : Prop :=
  if c = 7 then H[a]? = some (arrV (D.2 0) n (fun j => .int (w.2.2.1 a j)))
  else if c = 8 then H[a]? = some (arrV (D.2 1) n (fun j => .int (w.2.2.1 a j)))
  else if c = 9 then H[a]? = some (arrV (D.2 2) n (fun j => .long (w.2.2.2 a j)))
  else ∃ r : vw_C, vwCl[c]? = some r ∧ t_OB a (D.1.1 c) r.2.2 (D.1.2 c) H (w.2.1 a)
def ob_P (D : ob_D) (w : ob_w) (H : Heap) : Prop := ∀ a c n, w.1 a = some (c, n) → ob_at D w a c n H
theorem ob_at.kept {D : ob_D} {w : ob_w} {a c n : Nat} {H H1 : Heap} (h : ob_at D w a c n H) (hq : H1[a]? = H[a]?) : ob_at D w a c n H1 := by
  unfold ob_at at h ⊢
  split
  · rename_i hc; rw [if_pos hc] at h; rw [hq]; exact h
  · rename_i hc; rw [if_neg hc] at h
    split
    · rename_i hc; rw [if_pos hc] at h; rw [hq]; exact h
    · rename_i hc; rw [if_neg hc] at h
      split
      · rename_i hc; rw [if_pos hc] at h; rw [hq]; exact h
      · rename_i hc; rw [if_neg hc] at h
        obtain ⟨r, h1, h2⟩ := h
        exact ⟨r, h1, h2.kept hq⟩
theorem ob_at.same {D : ob_D} {w w' : ob_w} {a c n : Nat} {H : Heap} (h : ob_at D w a c n H) (hV : w'.2.1 a = w.2.1 a) (hB : w'.2.2.1 a = w.2.2.1 a) (hJ : w'.2.2.2 a = w.2.2.2 a) : ob_at D w' a c n H := by
  unfold ob_at at h ⊢
  rw [hV, hB, hJ]
  exact h
theorem ob_at.lt {D : ob_D} {w : ob_w} {a c n : Nat} {H : Heap} (h : ob_at D w a c n H) : a < H.size := by
  unfold ob_at at h
  split at h
  · exact (Array.getElem?_eq_some_iff.mp h).1
  · split at h
    · exact (Array.getElem?_eq_some_iff.mp h).1
    · split at h
      · exact (Array.getElem?_eq_some_iff.mp h).1
      · obtain ⟨r, h1, cell, h2, -⟩ := h
        exact (Array.getElem?_eq_some_iff.mp h2).1
theorem ob_at.obj {D : ob_D} {w : ob_w} {a c n : Nat} {H : Heap} (hc : c < 7) (h : ob_at D w a c n H) : ∃ r : vw_C, vwCl[c]? = some r ∧ t_OB a (D.1.1 c) r.2.2 (D.1.2 c) H (w.2.1 a) := by
  unfold ob_at at h
  rwa [if_neg (by omega), if_neg (by omega), if_neg (by omega)] at h
theorem ob_at.mk {D : ob_D} {w : ob_w} {a c n : Nat} {H : Heap} (hc : c < 7) (h : ∃ r : vw_C, vwCl[c]? = some r ∧ t_OB a (D.1.1 c) r.2.2 (D.1.2 c) H (w.2.1 a)) : ob_at D w a c n H := by
  unfold ob_at
  rwa [if_neg (by omega), if_neg (by omega), if_neg (by omega)]
/-- one cell changes -/
theorem ob_P.put {D : ob_D} {w w' : ob_w} {H H1 : Heap} {a : Nat} (h : ob_P D w H) (hT : w'.1 = w.1) (ha : ∀ c n, w.1 a = some (c, n) → ob_at D w' a c n H1) (oq : ∀ q : Nat, q ≠ a → H1[q]? = H[q]?)
    (hV : ∀ b, b ≠ a → w'.2.1 b = w.2.1 b) (hB : ∀ b, b ≠ a → w'.2.2.1 b = w.2.2.1 b) (hJ : ∀ b, b ≠ a → w'.2.2.2 b = w.2.2.2 b) : ob_P D w' H1 := by
  intro b c n hb
  rw [hT] at hb
  by_cases hba : b = a
  · subst hba; exact ha c n hb
  · exact ((h b c n hb).kept (oq b hba)).same (hV b hba) (hB b hba) (hJ b hba)
/-- launch, classes, where the own cells begin -/
abbrev ob_X : Type := Launch × ob_D × Nat
def ob_lo (X : ob_X) (w : ob_w) : Prop := ∀ a x, w.1 a = some x → X.2.2 ≤ a
def ob_tys (D : ob_D) : List (ClassId × FieldType) := [(D.2 0, .byte), (D.2 1, .int), (D.2 2, .long)]
/-- the words of all methods -/
def ob_tb : List Cond := lw_tbl.filter goodWord
/-- the String constants of the throws -/
def ob_strs : List (Nat × String) := [(105, "no such key"), (116, "no such way to seek"), (131, "no such place"), (137, "no entry is current"), (139, "longer than a key"), (149, "fewer than none"), (164, "no such byte in the result"), (181, "no key"), (47, "not 1 to 8 bytes"), (57, "the tape is too short"), (72, "no key with a value"), (86, "full")]
/-- constructors that the throws' chain declares (no good words) -/
def ob_dcl : List MethodName := [⟨"java/lang/RuntimeException", "<init>", "(Ljava/lang/String;)V"⟩, ⟨"java/lang/Exception", "<init>", "(Ljava/lang/String;)V"⟩, ⟨"java/lang/Throwable", "<init>", "(Ljava/lang/String;)V"⟩]
def ob_K (X : ob_X) (U : State) : Prop := va_K X.2.1.1 vwCl (ob_tys X.2.1) U ∧ X.1.stackTraces = false ∧ (∀ q ∈ ob_strs, ∃ sa, vk_R RX5 q.1 q.2 sa U) ∧ (∀ x ∈ ob_dcl, va_Nw (.declares x) U) ∧ vx_Zq Bundle.tN "UNASSIGNED_STACK" Bundle.steD (fun q => X.2.2 ≤ q) U U.heap ∧ vx_Zq Bundle.tN "SUPPRESSED_SENTINEL" Bundle.listD (fun q => X.2.2 ≤ q) U U.heap
/-- a method: name, code, locals, answer's type, its table of handlers -/
abbrev ob_y : Type := MethodName × ByteArray × Nat × Option FieldType × List (Nat × Nat × Nat × Nat)
/-- how a method ends: it returns (a value), or throws (a class) -/
abbrev ob_r : Type := Option Value ⊕ String
def ob_Qc (X : ob_X) (Q : ob_r → ob_w → Prop) : Array Value → State → Outcome → State → Prop := fun _ st oc t => (∃ (v : Option Value) (w : ob_w), oc = .returned v ∧ Q (.inl v) w ∧ ob_P X.2.1 w t.heap ∧ ob_lo X w) ∧ va_F (fun q => X.2.2 ≤ q) st t
def ob_XC (X : ob_X) (Q : ob_r → ob_w → Prop) : String → State → State → Prop := fun E st t => (∃ w : ob_w, Q (.inr E) w ∧ ob_P X.2.1 w t.heap ∧ ob_lo X w) ∧ va_F (fun q => X.2.2 ≤ q) st t
def ob_Cx (X : ob_X) (y : ob_y) (p : Program) (e : Env) (s : State) (m : MethodId) (args : Array Value) (meth : Method) (c : Code) : Prop :=
  p.tables.exec = Jvm.exec ∧ c.code = y.2.1 ∧ meth.sig.returnType = y.2.2.2.1 ∧ c.maxLocals = y.2.2.1 ∧ s.vm.findClass y.1.cls = some m.cls ∧ (∀ w ∈ ob_tb, w.before args s = true) ∧ meth.locks = false ∧ meth.name = y.1.name ∧ c.exceptionTable.toList = tableOf y.2.2.2.2 ∧ ob_K X s ∧ X.2.2 ≤ s.heap.size
def ob_G (X : ob_X) (y : ob_y) (R : Room) (Q : ob_r → ob_w → Prop) (pc : Nat) (lv : List (Nat × Value)) (st : List Value) (w : ob_w) (k n : Nat) : Prop :=
  ∀ (p : Program) (e : Env) (s : State) (m : MethodId) (args : Array Value) (below : List Frame) (meth : Method) (c : Code), ob_Cx X y p e s m args meth c →
    ∀ (H : Heap) (locs : List Loc) (ls : Array Slot), lv_has ls y.2.2.1 lv → ob_P X.2.1 w H → ob_lo X w → va_S (fun q => X.2.2 ≤ q) s.heap H locs →
      W p X.1 e R s m args below meth c H locs k n (vx_MQ below (ob_Qc X Q) (ob_XC X Q) args s R.cells R.slots (fun q => X.2.2 ≤ q)) (F0 m pc ls st)
/-- what local i holds -/
def ob_get : List (Nat × Value) → Nat → Option Value
  | [], _ => none
  | (j, v) :: l, i => if j = i then some v else ob_get l i
def ob_put (lv : List (Nat × Value)) (i : Nat) (v : Value) : List (Nat × Value) := (i, v) :: lv.filter (fun q => !(q.1 == i) && !(q.1 + 1 == i && q.2.category == 2))
theorem ob_get_mem : ∀ {lv : List (Nat × Value)} {i : Nat} {v : Value}, ob_get lv i = some v → (i, v) ∈ lv
  | [], _, _, h => by cases h
  | (j, u) :: l, i, v, h => by
    unfold ob_get at h
    split at h
    · rename_i e; subst e; cases h; exact List.mem_cons_self
    · exact List.mem_cons_of_mem _ (ob_get_mem h)
theorem ob_lv {ls : Array Slot} {nL : Nat} {lv : List (Nat × Value)} (h : lv_has ls nL lv) {i : Nat} {v : Value} (hv : ob_get lv i = some v) : ls[i]? = some (.val v) := h.2.2 (i, v) (ob_get_mem hv)
section OBG
variable {X : ob_X} {y : ob_y} {R : Room} {Q : ob_r → ob_w → Prop} {pc : Nat} {lv : List (Nat × Value)} {st : List Value} {w : ob_w} {k n : Nat}
/-- the locals, said anew -/
theorem og_lv (lv' : List (Nat × Value)) (h : lv'.map (fun q => ob_get lv q.1) = lv'.map (fun q => some q.2)) (kk : ob_G X y R Q pc lv' st w k n) : ob_G X y R Q pc lv st w k n := by
  intro p e s m args below meth c C H locs ls h1
  refine kk p e s m args below meth c C H locs ls ⟨h1.1, h1.2.1, fun q hq => ?_⟩
  obtain ⟨i, hi⟩ := List.getElem?_of_mem hq
  have e1 : (lv'.map (fun q => ob_get lv q.1))[i]? = some (ob_get lv q.1) := by rw [List.getElem?_map, hi]; rfl
  rw [h, List.getElem?_map, hi] at e1
  exact ob_lv h1 (Option.some.inj e1).symm
theorem og_widen {k' n' : Nat} (h1 : k ≤ k') (h2 : n ≤ n') (kk : ob_G X y R Q pc lv st w k' n') : ob_G X y R Q pc lv st w k n := fun p e s m args below meth c C H locs ls a1 a2 a3 a4 => W.widen h1 h2 (kk p e s m args below meth c C H locs ls a1 a2 a3 a4)
/-- a weaker end -/
theorem og_post {Q' : ob_r → ob_w → Prop} (h : ∀ r w, Q' r w → Q r w) (kk : ob_G X y R Q' pc lv st w k n) : ob_G X y R Q pc lv st w k n := by
  intro p e s m args below meth c C H locs ls a1 a2 a3 a4 T hT S
  obtain ⟨t, b1, o, b2, b3, b4⟩ := kk p e s m args below meth c C H locs ls a1 a2 a3 a4 T hT S
  refine ⟨t, b1, o, b2, b3, ?_⟩
  rcases b4 with ⟨⟨⟨v, w1, c1, c2, c3⟩, c4⟩, c5⟩ | ⟨q, c1, E, ce, L, ⟨⟨w1, c2, c3⟩, c4⟩, c5⟩
  · exact Or.inl ⟨⟨⟨v, w1, c1, h _ _ c2, c3⟩, c4⟩, c5⟩
  · exact Or.inr ⟨q, c1, E, ce, L, ⟨⟨w1, h _ _ c2, c3⟩, c4⟩, c5⟩
theorem og_iconst {n9 : Int} {v : Int32} (hdg : decode y.2.1 pc = .ok (.iconst n9, 1)) (hv : Int32.ofInt n9 = v) (kk : ob_G X y R Q (pc + 1) lv (.int v :: st) w k n) : ob_G X y R Q pc lv (st) w k n := fun p e s m args below meth c C H locs ls a1 a2 a3 a4 => lv_iconst C.1 C.2.1 hdg hv (kk p e s m args below meth c C H locs ls a1 a2 a3 a4)
theorem og_bipush {n9 : Int} {v : Int32} (hdg : decode y.2.1 pc = .ok (.bipush n9, 2)) (hv : (Int8.ofInt n9).toInt32 = v) (kk : ob_G X y R Q (pc + 2) lv (.int v :: st) w k n) : ob_G X y R Q pc lv (st) w k n := fun p e s m args below meth c C H locs ls a1 a2 a3 a4 => lv_bipush C.1 C.2.1 hdg hv (kk p e s m args below meth c C H locs ls a1 a2 a3 a4)
theorem og_sipush {n9 : Int} {v : Int32} (hdg : decode y.2.1 pc = .ok (.sipush n9, 3)) (hv : (Int16.ofInt n9).toInt32 = v) (kk : ob_G X y R Q (pc + 3) lv (.int v :: st) w k n) : ob_G X y R Q pc lv (st) w k n := fun p e s m args below meth c C H locs ls a1 a2 a3 a4 => lv_sipush C.1 C.2.1 hdg hv (kk p e s m args below meth c C H locs ls a1 a2 a3 a4)
theorem og_lconst {n9 : Fin 2} {v : Int64} (hdg : decode y.2.1 pc = .ok (.lconst n9, 1)) (hv : Int64.ofNat (n9 : Nat) = v) (kk : ob_G X y R Q (pc + 1) lv (.long v :: st) w k n) : ob_G X y R Q pc lv (st) w k n := fun p e s m args below meth c C H locs ls a1 a2 a3 a4 => lv_lconst C.1 C.2.1 hdg hv (kk p e s m args below meth c C H locs ls a1 a2 a3 a4)
theorem og_iadd {x y9 : Int32} (hdg : decode y.2.1 pc = .ok (.iadd, 1)) (kk : ob_G X y R Q (pc + 1) lv (.int (x + y9) :: st) w k n) : ob_G X y R Q pc lv (.int y9 :: .int x :: st) w k n := fun p e s m args below meth c C H locs ls a1 a2 a3 a4 => lv_iadd C.1 C.2.1 hdg (kk p e s m args below meth c C H locs ls a1 a2 a3 a4)
theorem og_isub {x y9 : Int32} (hdg : decode y.2.1 pc = .ok (.isub, 1)) (kk : ob_G X y R Q (pc + 1) lv (.int (x - y9) :: st) w k n) : ob_G X y R Q pc lv (.int y9 :: .int x :: st) w k n := fun p e s m args below meth c C H locs ls a1 a2 a3 a4 => lv_isub C.1 C.2.1 hdg (kk p e s m args below meth c C H locs ls a1 a2 a3 a4)
theorem og_imul {x y9 : Int32} (hdg : decode y.2.1 pc = .ok (.imul, 1)) (kk : ob_G X y R Q (pc + 1) lv (.int (x * y9) :: st) w k n) : ob_G X y R Q pc lv (.int y9 :: .int x :: st) w k n := fun p e s m args below meth c C H locs ls a1 a2 a3 a4 => lv_imul C.1 C.2.1 hdg (kk p e s m args below meth c C H locs ls a1 a2 a3 a4)
theorem og_iand {x y9 : Int32} (hdg : decode y.2.1 pc = .ok (.iand, 1)) (kk : ob_G X y R Q (pc + 1) lv (.int (x &&& y9) :: st) w k n) : ob_G X y R Q pc lv (.int y9 :: .int x :: st) w k n := fun p e s m args below meth c C H locs ls a1 a2 a3 a4 => lv_iand C.1 C.2.1 hdg (kk p e s m args below meth c C H locs ls a1 a2 a3 a4)
theorem og_ior {x y9 : Int32} (hdg : decode y.2.1 pc = .ok (.ior, 1)) (kk : ob_G X y R Q (pc + 1) lv (.int (x ||| y9) :: st) w k n) : ob_G X y R Q pc lv (.int y9 :: .int x :: st) w k n := fun p e s m args below meth c C H locs ls a1 a2 a3 a4 => lv_ior C.1 C.2.1 hdg (kk p e s m args below meth c C H locs ls a1 a2 a3 a4)
theorem og_idiv {x y9 : Int32} (hdg : decode y.2.1 pc = .ok (.idiv, 1)) (hne : ¬ y9 = 0) (kk : ob_G X y R Q (pc + 1) lv (.int (x / y9) :: st) w k n) : ob_G X y R Q pc lv (.int y9 :: .int x :: st) w k n := fun p e s m args below meth c C H locs ls a1 a2 a3 a4 => lv_idiv C.1 C.2.1 hdg hne (kk p e s m args below meth c C H locs ls a1 a2 a3 a4)
theorem og_irem {x y9 : Int32} (hdg : decode y.2.1 pc = .ok (.irem, 1)) (hne : ¬ y9 = 0) (kk : ob_G X y R Q (pc + 1) lv (.int (x - x / y9 * y9) :: st) w k n) : ob_G X y R Q pc lv (.int y9 :: .int x :: st) w k n := fun p e s m args below meth c C H locs ls a1 a2 a3 a4 => lv_irem C.1 C.2.1 hdg hne (kk p e s m args below meth c C H locs ls a1 a2 a3 a4)
theorem og_ineg {x : Int32} (hdg : decode y.2.1 pc = .ok (.ineg, 1)) (kk : ob_G X y R Q (pc + 1) lv (.int (-x) :: st) w k n) : ob_G X y R Q pc lv (.int x :: st) w k n := fun p e s m args below meth c C H locs ls a1 a2 a3 a4 => lv_ineg C.1 C.2.1 hdg (kk p e s m args below meth c C H locs ls a1 a2 a3 a4)
theorem og_ladd {x y9 : Int64} (hdg : decode y.2.1 pc = .ok (.ladd, 1)) (kk : ob_G X y R Q (pc + 1) lv (.long (x + y9) :: st) w k n) : ob_G X y R Q pc lv (.long y9 :: .long x :: st) w k n := fun p e s m args below meth c C H locs ls a1 a2 a3 a4 => lv_ladd C.1 C.2.1 hdg (kk p e s m args below meth c C H locs ls a1 a2 a3 a4)
theorem og_lsub {x y9 : Int64} (hdg : decode y.2.1 pc = .ok (.lsub, 1)) (kk : ob_G X y R Q (pc + 1) lv (.long (x - y9) :: st) w k n) : ob_G X y R Q pc lv (.long y9 :: .long x :: st) w k n := fun p e s m args below meth c C H locs ls a1 a2 a3 a4 => lv_lsub C.1 C.2.1 hdg (kk p e s m args below meth c C H locs ls a1 a2 a3 a4)
theorem og_land {x y9 : Int64} (hdg : decode y.2.1 pc = .ok (.land, 1)) (kk : ob_G X y R Q (pc + 1) lv (.long (x &&& y9) :: st) w k n) : ob_G X y R Q pc lv (.long y9 :: .long x :: st) w k n := fun p e s m args below meth c C H locs ls a1 a2 a3 a4 => lv_land C.1 C.2.1 hdg (kk p e s m args below meth c C H locs ls a1 a2 a3 a4)
theorem og_lor {x y9 : Int64} (hdg : decode y.2.1 pc = .ok (.lor, 1)) (kk : ob_G X y R Q (pc + 1) lv (.long (x ||| y9) :: st) w k n) : ob_G X y R Q pc lv (.long y9 :: .long x :: st) w k n := fun p e s m args below meth c C H locs ls a1 a2 a3 a4 => lv_lor C.1 C.2.1 hdg (kk p e s m args below meth c C H locs ls a1 a2 a3 a4)
theorem og_lxor {x y9 : Int64} (hdg : decode y.2.1 pc = .ok (.lxor, 1)) (kk : ob_G X y R Q (pc + 1) lv (.long (x ^^^ y9) :: st) w k n) : ob_G X y R Q pc lv (.long y9 :: .long x :: st) w k n := fun p e s m args below meth c C H locs ls a1 a2 a3 a4 => lv_lxor C.1 C.2.1 hdg (kk p e s m args below meth c C H locs ls a1 a2 a3 a4)
theorem og_ishl {x y9 : Int32} (hdg : decode y.2.1 pc = .ok (.ishl, 1)) (kk : ob_G X y R Q (pc + 1) lv (.int (x <<< (y9 &&& 31)) :: st) w k n) : ob_G X y R Q pc lv (.int y9 :: .int x :: st) w k n := fun p e s m args below meth c C H locs ls a1 a2 a3 a4 => lv_ishl C.1 C.2.1 hdg (kk p e s m args below meth c C H locs ls a1 a2 a3 a4)
theorem og_ishr {x y9 : Int32} (hdg : decode y.2.1 pc = .ok (.ishr, 1)) (kk : ob_G X y R Q (pc + 1) lv (.int (x >>> (y9 &&& 31)) :: st) w k n) : ob_G X y R Q pc lv (.int y9 :: .int x :: st) w k n := fun p e s m args below meth c C H locs ls a1 a2 a3 a4 => lv_ishr C.1 C.2.1 hdg (kk p e s m args below meth c C H locs ls a1 a2 a3 a4)
theorem og_i2l {x : Int32} {v : Int64} (hdg : decode y.2.1 pc = .ok (.i2l, 1)) (hv : x.toInt64 = v) (kk : ob_G X y R Q (pc + 1) lv (.long v :: st) w k n) : ob_G X y R Q pc lv (.int x :: st) w k n := fun p e s m args below meth c C H locs ls a1 a2 a3 a4 => lv_i2l C.1 C.2.1 hdg hv (kk p e s m args below meth c C H locs ls a1 a2 a3 a4)
theorem og_l2i {x : Int64} {v : Int32} (hdg : decode y.2.1 pc = .ok (.l2i, 1)) (hv : x.toInt32 = v) (kk : ob_G X y R Q (pc + 1) lv (.int v :: st) w k n) : ob_G X y R Q pc lv (.long x :: st) w k n := fun p e s m args below meth c C H locs ls a1 a2 a3 a4 => lv_l2i C.1 C.2.1 hdg hv (kk p e s m args below meth c C H locs ls a1 a2 a3 a4)
theorem og_i2b {x : Int32} {v : Int32} (hdg : decode y.2.1 pc = .ok (.i2b, 1)) (hv : x.toInt8.toInt32 = v) (kk : ob_G X y R Q (pc + 1) lv (.int v :: st) w k n) : ob_G X y R Q pc lv (.int x :: st) w k n := fun p e s m args below meth c C H locs ls a1 a2 a3 a4 => lv_i2b C.1 C.2.1 hdg hv (kk p e s m args below meth c C H locs ls a1 a2 a3 a4)
theorem og_iushr {x y9 v : Int32} (hdg : decode y.2.1 pc = .ok (.iushr, 1)) (hv : (x.toUInt32 >>> (y9.toUInt32 &&& Int32.toUInt32 31)).toInt32 = v) (kk : ob_G X y R Q (pc + 1) lv (.int v :: st) w k n) : ob_G X y R Q pc lv (.int y9 :: .int x :: st) w k n := fun p e s m args below meth c C H locs ls a1 a2 a3 a4 => lv_iushr C.1 C.2.1 hdg hv (kk p e s m args below meth c C H locs ls a1 a2 a3 a4)
theorem og_lushr {x v : Int64} {y9 : Int32} (hdg : decode y.2.1 pc = .ok (.lushr, 1)) (hv : (x.toUInt64 >>> (y9.toInt64.toUInt64 &&& Int64.toUInt64 63)).toInt64 = v) (kk : ob_G X y R Q (pc + 1) lv (.long v :: st) w k n) : ob_G X y R Q pc lv (.int y9 :: .long x :: st) w k n := fun p e s m args below meth c C H locs ls a1 a2 a3 a4 => lv_lushr C.1 C.2.1 hdg hv (kk p e s m args below meth c C H locs ls a1 a2 a3 a4)
theorem og_lshl {x v : Int64} {y9 : Int32} (hdg : decode y.2.1 pc = .ok (.lshl, 1)) (hv : x <<< (y9.toInt64 &&& 63) = v) (kk : ob_G X y R Q (pc + 1) lv (.long v :: st) w k n) : ob_G X y R Q pc lv (.int y9 :: .long x :: st) w k n := fun p e s m args below meth c C H locs ls a1 a2 a3 a4 => lv_lshl C.1 C.2.1 hdg hv (kk p e s m args below meth c C H locs ls a1 a2 a3 a4)
theorem og_lshr {x v : Int64} {y9 : Int32} (hdg : decode y.2.1 pc = .ok (.lshr, 1)) (hv : x >>> (y9.toInt64 &&& 63) = v) (kk : ob_G X y R Q (pc + 1) lv (.long v :: st) w k n) : ob_G X y R Q pc lv (.int y9 :: .long x :: st) w k n := fun p e s m args below meth c C H locs ls a1 a2 a3 a4 => lv_lshr C.1 C.2.1 hdg hv (kk p e s m args below meth c C H locs ls a1 a2 a3 a4)
theorem og_dup {va : Value} (hdg : decode y.2.1 pc = .ok (.dup, 1)) (hva : va.category = 1) (kk : ob_G X y R Q (pc + 1) lv (va :: va :: st) w k n) : ob_G X y R Q pc lv (va :: st) w k n := fun p e s m args below meth c C H locs ls a1 a2 a3 a4 => lv_dup C.1 C.2.1 hdg hva (kk p e s m args below meth c C H locs ls a1 a2 a3 a4)
theorem og_pop {va : Value} (hdg : decode y.2.1 pc = .ok (.pop, 1)) (hva : va.category = 1) (kk : ob_G X y R Q (pc + 1) lv (st) w k n) : ob_G X y R Q pc lv (va :: st) w k n := fun p e s m args below meth c C H locs ls a1 a2 a3 a4 => lv_pop C.1 C.2.1 hdg hva (kk p e s m args below meth c C H locs ls a1 a2 a3 a4)
theorem og_goto {off : Int} {tgt : Nat} (hdg : decode y.2.1 pc = .ok (.goto off, 3)) (ht : (pc : Int) + off = (tgt : Int)) (kk : ob_G X y R Q tgt lv st w k n) : ob_G X y R Q pc lv st w k n := fun p e s m args below meth c C H locs ls a1 a2 a3 a4 => lv_goto C.1 C.2.1 hdg ht (kk p e s m args below meth c C H locs ls a1 a2 a3 a4)
theorem og_ifnull {x : Nat} {off : Int} (hdg : decode y.2.1 pc = .ok (.ifnull off, 3)) (kk : ob_G X y R Q (pc + 3) lv st w k n) : ob_G X y R Q pc lv (.ref x :: st) w k n := fun p e s m args below meth c C H locs ls a1 a2 a3 a4 => lv_ifnull C.1 C.2.1 hdg (kk p e s m args below meth c C H locs ls a1 a2 a3 a4)
theorem og_ifnonnull {x : Nat} {off : Int} {tgt : Nat} (hdg : decode y.2.1 pc = .ok (.ifnonnull off, 3)) (ht : (pc : Int) + off = (tgt : Int)) (kk : ob_G X y R Q tgt lv st w k n) : ob_G X y R Q pc lv (.ref x :: st) w k n := fun p e s m args below meth c C H locs ls a1 a2 a3 a4 => lv_ifnonnull C.1 C.2.1 hdg ht (kk p e s m args below meth c C H locs ls a1 a2 a3 a4)
theorem og_ifnullN {off : Int} {tgt : Nat} (hdg : decode y.2.1 pc = .ok (.ifnull off, 3)) (ht : (pc : Int) + off = (tgt : Int)) (kk : ob_G X y R Q tgt lv st w k n) : ob_G X y R Q pc lv (.null :: st) w k n := fun p e s m args below meth c C H locs ls a1 a2 a3 a4 => lv_ifnullN C.1 C.2.1 hdg ht (kk p e s m args below meth c C H locs ls a1 a2 a3 a4)
theorem og_ifnonnullN {off : Int} (hdg : decode y.2.1 pc = .ok (.ifnonnull off, 3)) (kk : ob_G X y R Q (pc + 3) lv st w k n) : ob_G X y R Q pc lv (.null :: st) w k n := fun p e s m args below meth c C H locs ls a1 a2 a3 a4 => lv_ifnonnullN C.1 C.2.1 hdg (kk p e s m args below meth c C H locs ls a1 a2 a3 a4)
theorem og_null (hdg : decode y.2.1 pc = .ok (.aconst_null, 1)) (kk : ob_G X y R Q (pc + 1) lv (.null :: st) w k n) : ob_G X y R Q pc lv st w k n := fun p e s m args below meth c C H locs ls a1 a2 a3 a4 => lv_null C.1 C.2.1 hdg (kk p e s m args below meth c C H locs ls a1 a2 a3 a4)
theorem og_if_eq {x : Int32} {off : Int} {tgt : Nat} (hdg : decode y.2.1 pc = .ok (.ifCond .eq off, 3)) (ht : (pc : Int) + off = (tgt : Int)) (kt : x = 0 → ob_G X y R Q tgt lv st w k n) (kf : ¬ x = 0 → ob_G X y R Q (pc + 3) lv st w k n) : ob_G X y R Q pc lv (.int x :: st) w k n := fun p e s m args below meth c C H locs ls a1 a2 a3 a4 => lv_if_eq C.1 C.2.1 hdg ht (fun z => kt z p e s m args below meth c C H locs ls a1 a2 a3 a4) (fun z => kf z p e s m args below meth c C H locs ls a1 a2 a3 a4)
theorem og_if_ne {x : Int32} {off : Int} {tgt : Nat} (hdg : decode y.2.1 pc = .ok (.ifCond .ne off, 3)) (ht : (pc : Int) + off = (tgt : Int)) (kt : ¬ x = 0 → ob_G X y R Q tgt lv st w k n) (kf : x = 0 → ob_G X y R Q (pc + 3) lv st w k n) : ob_G X y R Q pc lv (.int x :: st) w k n := fun p e s m args below meth c C H locs ls a1 a2 a3 a4 => lv_if_ne C.1 C.2.1 hdg ht (fun z => kt z p e s m args below meth c C H locs ls a1 a2 a3 a4) (fun z => kf z p e s m args below meth c C H locs ls a1 a2 a3 a4)
theorem og_if_lt {x : Int32} {off : Int} {tgt : Nat} (hdg : decode y.2.1 pc = .ok (.ifCond .lt off, 3)) (ht : (pc : Int) + off = (tgt : Int)) (kt : x < 0 → ob_G X y R Q tgt lv st w k n) (kf : ¬ x < 0 → ob_G X y R Q (pc + 3) lv st w k n) : ob_G X y R Q pc lv (.int x :: st) w k n := fun p e s m args below meth c C H locs ls a1 a2 a3 a4 => lv_if_lt C.1 C.2.1 hdg ht (fun z => kt z p e s m args below meth c C H locs ls a1 a2 a3 a4) (fun z => kf z p e s m args below meth c C H locs ls a1 a2 a3 a4)
theorem og_if_ge {x : Int32} {off : Int} {tgt : Nat} (hdg : decode y.2.1 pc = .ok (.ifCond .ge off, 3)) (ht : (pc : Int) + off = (tgt : Int)) (kt : 0 ≤ x → ob_G X y R Q tgt lv st w k n) (kf : ¬ 0 ≤ x → ob_G X y R Q (pc + 3) lv st w k n) : ob_G X y R Q pc lv (.int x :: st) w k n := fun p e s m args below meth c C H locs ls a1 a2 a3 a4 => lv_if_ge C.1 C.2.1 hdg ht (fun z => kt z p e s m args below meth c C H locs ls a1 a2 a3 a4) (fun z => kf z p e s m args below meth c C H locs ls a1 a2 a3 a4)
theorem og_if_gt {x : Int32} {off : Int} {tgt : Nat} (hdg : decode y.2.1 pc = .ok (.ifCond .gt off, 3)) (ht : (pc : Int) + off = (tgt : Int)) (kt : 0 < x → ob_G X y R Q tgt lv st w k n) (kf : ¬ 0 < x → ob_G X y R Q (pc + 3) lv st w k n) : ob_G X y R Q pc lv (.int x :: st) w k n := fun p e s m args below meth c C H locs ls a1 a2 a3 a4 => lv_if_gt C.1 C.2.1 hdg ht (fun z => kt z p e s m args below meth c C H locs ls a1 a2 a3 a4) (fun z => kf z p e s m args below meth c C H locs ls a1 a2 a3 a4)
theorem og_if_le {x : Int32} {off : Int} {tgt : Nat} (hdg : decode y.2.1 pc = .ok (.ifCond .le off, 3)) (ht : (pc : Int) + off = (tgt : Int)) (kt : x ≤ 0 → ob_G X y R Q tgt lv st w k n) (kf : ¬ x ≤ 0 → ob_G X y R Q (pc + 3) lv st w k n) : ob_G X y R Q pc lv (.int x :: st) w k n := fun p e s m args below meth c C H locs ls a1 a2 a3 a4 => lv_if_le C.1 C.2.1 hdg ht (fun z => kt z p e s m args below meth c C H locs ls a1 a2 a3 a4) (fun z => kf z p e s m args below meth c C H locs ls a1 a2 a3 a4)
theorem og_icmp_eq {x y9 : Int32} {off : Int} {tgt : Nat} (hdg : decode y.2.1 pc = .ok (.if_icmp .eq off, 3)) (ht : (pc : Int) + off = (tgt : Int)) (kt : x = y9 → ob_G X y R Q tgt lv st w k n) (kf : ¬ x = y9 → ob_G X y R Q (pc + 3) lv st w k n) : ob_G X y R Q pc lv (.int y9 :: .int x :: st) w k n := fun p e s m args below meth c C H locs ls a1 a2 a3 a4 => lv_icmp_eq C.1 C.2.1 hdg ht (fun z => kt z p e s m args below meth c C H locs ls a1 a2 a3 a4) (fun z => kf z p e s m args below meth c C H locs ls a1 a2 a3 a4)
theorem og_icmp_ne {x y9 : Int32} {off : Int} {tgt : Nat} (hdg : decode y.2.1 pc = .ok (.if_icmp .ne off, 3)) (ht : (pc : Int) + off = (tgt : Int)) (kt : ¬ x = y9 → ob_G X y R Q tgt lv st w k n) (kf : x = y9 → ob_G X y R Q (pc + 3) lv st w k n) : ob_G X y R Q pc lv (.int y9 :: .int x :: st) w k n := fun p e s m args below meth c C H locs ls a1 a2 a3 a4 => lv_icmp_ne C.1 C.2.1 hdg ht (fun z => kt z p e s m args below meth c C H locs ls a1 a2 a3 a4) (fun z => kf z p e s m args below meth c C H locs ls a1 a2 a3 a4)
theorem og_icmp_lt {x y9 : Int32} {off : Int} {tgt : Nat} (hdg : decode y.2.1 pc = .ok (.if_icmp .lt off, 3)) (ht : (pc : Int) + off = (tgt : Int)) (kt : x < y9 → ob_G X y R Q tgt lv st w k n) (kf : ¬ x < y9 → ob_G X y R Q (pc + 3) lv st w k n) : ob_G X y R Q pc lv (.int y9 :: .int x :: st) w k n := fun p e s m args below meth c C H locs ls a1 a2 a3 a4 => lv_icmp_lt C.1 C.2.1 hdg ht (fun z => kt z p e s m args below meth c C H locs ls a1 a2 a3 a4) (fun z => kf z p e s m args below meth c C H locs ls a1 a2 a3 a4)
theorem og_icmp_ge {x y9 : Int32} {off : Int} {tgt : Nat} (hdg : decode y.2.1 pc = .ok (.if_icmp .ge off, 3)) (ht : (pc : Int) + off = (tgt : Int)) (kt : y9 ≤ x → ob_G X y R Q tgt lv st w k n) (kf : ¬ y9 ≤ x → ob_G X y R Q (pc + 3) lv st w k n) : ob_G X y R Q pc lv (.int y9 :: .int x :: st) w k n := fun p e s m args below meth c C H locs ls a1 a2 a3 a4 => lv_icmp_ge C.1 C.2.1 hdg ht (fun z => kt z p e s m args below meth c C H locs ls a1 a2 a3 a4) (fun z => kf z p e s m args below meth c C H locs ls a1 a2 a3 a4)
theorem og_icmp_gt {x y9 : Int32} {off : Int} {tgt : Nat} (hdg : decode y.2.1 pc = .ok (.if_icmp .gt off, 3)) (ht : (pc : Int) + off = (tgt : Int)) (kt : y9 < x → ob_G X y R Q tgt lv st w k n) (kf : ¬ y9 < x → ob_G X y R Q (pc + 3) lv st w k n) : ob_G X y R Q pc lv (.int y9 :: .int x :: st) w k n := fun p e s m args below meth c C H locs ls a1 a2 a3 a4 => lv_icmp_gt C.1 C.2.1 hdg ht (fun z => kt z p e s m args below meth c C H locs ls a1 a2 a3 a4) (fun z => kf z p e s m args below meth c C H locs ls a1 a2 a3 a4)
theorem og_icmp_le {x y9 : Int32} {off : Int} {tgt : Nat} (hdg : decode y.2.1 pc = .ok (.if_icmp .le off, 3)) (ht : (pc : Int) + off = (tgt : Int)) (kt : x ≤ y9 → ob_G X y R Q tgt lv st w k n) (kf : ¬ x ≤ y9 → ob_G X y R Q (pc + 3) lv st w k n) : ob_G X y R Q pc lv (.int y9 :: .int x :: st) w k n := fun p e s m args below meth c C H locs ls a1 a2 a3 a4 => lv_icmp_le C.1 C.2.1 hdg ht (fun z => kt z p e s m args below meth c C H locs ls a1 a2 a3 a4) (fun z => kf z p e s m args below meth c C H locs ls a1 a2 a3 a4)
theorem og_dup_x1 {va vb : Value} (hdg : decode y.2.1 pc = .ok (.dup_x1, 1)) (hva : va.category = 1) (hvb : vb.category = 1) (kk : ob_G X y R Q (pc + 1) lv (va :: vb :: va :: st) w k n) : ob_G X y R Q pc lv (va :: vb :: st) w k n := fun p e s m args below meth c C H locs ls a1 a2 a3 a4 => lv_dup_x1 C.1 C.2.1 hdg hva hvb (kk p e s m args below meth c C H locs ls a1 a2 a3 a4)
theorem og_lcmp {x x9 : Int64} (hdg : decode y.2.1 pc = .ok (.lcmp, 1)) (kk : ob_G X y R Q (pc + 1) lv (.int (lg_cmp x x9) :: st) w k n) : ob_G X y R Q pc lv (.long x9 :: .long x :: st) w k n := fun p e s m args below meth c C H locs ls a1 a2 a3 a4 => W.lcmp C.1 C.2.1 hdg (kk p e s m args below meth c C H locs ls a1 a2 a3 a4)
theorem og_iload_n {j : Fin 4} {x : Int32} (hdg : decode y.2.1 pc = .ok (.iload_n j, 1)) (hl : ob_get lv (j : Nat) = some (.int x)) (kk : ob_G X y R Q (pc + 1) lv (.int x :: st) w k n) : ob_G X y R Q pc lv st w k n := fun p e s m args below meth c C H locs ls a1 a2 a3 a4 => lv_iload_n C.1 C.2.1 hdg rfl (ob_lv a1 hl) (kk p e s m args below meth c C H locs ls a1 a2 a3 a4)
theorem og_iload {j : Nat} {x : Int32} (hdg : decode y.2.1 pc = .ok (.iload j, 2)) (hl : ob_get lv j = some (.int x)) (kk : ob_G X y R Q (pc + 2) lv (.int x :: st) w k n) : ob_G X y R Q pc lv st w k n := fun p e s m args below meth c C H locs ls a1 a2 a3 a4 => lv_iload C.1 C.2.1 hdg (ob_lv a1 hl) (kk p e s m args below meth c C H locs ls a1 a2 a3 a4)
theorem og_lload_n {j : Fin 4} {x : Int64} (hdg : decode y.2.1 pc = .ok (.lload_n j, 1)) (hl : ob_get lv (j : Nat) = some (.long x)) (kk : ob_G X y R Q (pc + 1) lv (.long x :: st) w k n) : ob_G X y R Q pc lv st w k n := fun p e s m args below meth c C H locs ls a1 a2 a3 a4 => lv_lload_n C.1 C.2.1 hdg rfl (ob_lv a1 hl) (kk p e s m args below meth c C H locs ls a1 a2 a3 a4)
theorem og_aload_n {j : Fin 4} {v : Value} (hdg : decode y.2.1 pc = .ok (.aload_n j, 1)) (hl : ob_get lv (j : Nat) = some v) (hv : v.isRef = true) (kk : ob_G X y R Q (pc + 1) lv (v :: st) w k n) : ob_G X y R Q pc lv st w k n := by
  intro p e s m args below meth c C H locs ls a1 a2 a3 a4
  cases v with
  | ref x => exact lv_aload_n C.1 C.2.1 hdg rfl (ob_lv a1 hl) (kk p e s m args below meth c C H locs ls a1 a2 a3 a4)
  | null => exact lv_aload_nN C.1 C.2.1 hdg rfl (ob_lv a1 hl) (kk p e s m args below meth c C H locs ls a1 a2 a3 a4)
  | _ => cases hv
theorem og_aload {j : Nat} {v : Value} (hdg : decode y.2.1 pc = .ok (.aload j, 2)) (hl : ob_get lv j = some v) (hv : v.isRef = true) (kk : ob_G X y R Q (pc + 2) lv (v :: st) w k n) : ob_G X y R Q pc lv st w k n := by
  intro p e s m args below meth c C H locs ls a1 a2 a3 a4
  cases v with
  | ref x => exact lv_aload C.1 C.2.1 hdg (ob_lv a1 hl) (kk p e s m args below meth c C H locs ls a1 a2 a3 a4)
  | null => exact lv_aloadN C.1 C.2.1 hdg (ob_lv a1 hl) (kk p e s m args below meth c C H locs ls a1 a2 a3 a4)
  | _ => cases hv
theorem og_istore_n {j : Fin 4} {x : Int32} (hdg : decode y.2.1 pc = .ok (.istore_n j, 1)) (hn : (j : Nat) < y.2.2.1) (kk : ob_G X y R Q (pc + 1) (ob_put lv j (.int x)) st w k n) : ob_G X y R Q pc lv (.int x :: st) w k n := fun p e s m args below meth c C H locs ls a1 a2 a3 a4 => lv_istore_n C.1 C.2.1 hdg rfl a1 hn rfl (fun ls' a1' => kk p e s m args below meth c C H locs ls' a1' a2 a3 a4)
theorem og_istore {j : Nat} {x : Int32} (hdg : decode y.2.1 pc = .ok (.istore j, 2)) (hn : j < y.2.2.1) (kk : ob_G X y R Q (pc + 2) (ob_put lv j (.int x)) st w k n) : ob_G X y R Q pc lv (.int x :: st) w k n := fun p e s m args below meth c C H locs ls a1 a2 a3 a4 => lv_istore C.1 C.2.1 hdg a1 hn rfl (fun ls' a1' => kk p e s m args below meth c C H locs ls' a1' a2 a3 a4)
theorem og_astore_n {j : Fin 4} {v : Value} (hdg : decode y.2.1 pc = .ok (.astore_n j, 1)) (hn : (j : Nat) < y.2.2.1) (hv : v.isRef = true) (kk : ob_G X y R Q (pc + 1) (ob_put lv j v) st w k n) : ob_G X y R Q pc lv (v :: st) w k n := by
  intro p e s m args below meth c C H locs ls a1 a2 a3 a4
  cases v with
  | ref x => exact lv_astore_n C.1 C.2.1 hdg rfl a1 hn rfl (fun ls' a1' => kk p e s m args below meth c C H locs ls' a1' a2 a3 a4)
  | null => exact lv_astore_nN C.1 C.2.1 hdg rfl a1 hn rfl (fun ls' a1' => kk p e s m args below meth c C H locs ls' a1' a2 a3 a4)
  | _ => cases hv
theorem og_astore {j : Nat} {v : Value} (hdg : decode y.2.1 pc = .ok (.astore j, 2)) (hn : j < y.2.2.1) (hv : v.isRef = true) (kk : ob_G X y R Q (pc + 2) (ob_put lv j v) st w k n) : ob_G X y R Q pc lv (v :: st) w k n := by
  intro p e s m args below meth c C H locs ls a1 a2 a3 a4
  cases v with
  | ref x => exact lv_astore C.1 C.2.1 hdg a1 hn rfl (fun ls' a1' => kk p e s m args below meth c C H locs ls' a1' a2 a3 a4)
  | null => exact lv_astoreN C.1 C.2.1 hdg a1 hn rfl (fun ls' a1' => kk p e s m args below meth c C H locs ls' a1' a2 a3 a4)
  | _ => cases hv
theorem og_iinc {j : Nat} {d : Int} {x v : Int32} (hdg : decode y.2.1 pc = .ok (.iinc j d, 3)) (hl : ob_get lv j = some (.int x)) (hv : x + Int32.ofInt d = v) (hn : j < y.2.2.1) (kk : ob_G X y R Q (pc + 3) (ob_put lv j (.int v)) st w k n) : ob_G X y R Q pc lv st w k n := by
  intro p e s m args below meth c C H locs ls a1 a2 a3 a4
  obtain ⟨i, hi⟩ := List.getElem?_of_mem (ob_get_mem hl)
  exact lv_iinc C.1 C.2.1 hdg a1 hi hv hn rfl (fun ls' a1' => kk p e s m args below meth c C H locs ls' a1' a2 a3 a4)
theorem og_acmp_eq {a b : Nat} {off : Int} {tgt : Nat} (hdg : decode y.2.1 pc = .ok (.if_acmp .eq off, 3)) (ht : (pc : Int) + off = (tgt : Int)) (kt : a = b → ob_G X y R Q tgt lv st w k n) (kf : a ≠ b → ob_G X y R Q (pc + 3) lv st w k n) : ob_G X y R Q pc lv (.ref b :: .ref a :: st) w k n := fun p e s m args below meth c C H locs ls a1 a2 a3 a4 => lv_acmp_eq (rx := some a) (ry := some b) C.1 C.2.1 hdg ht (fun z => kt (Option.some.inj z) p e s m args below meth c C H locs ls a1 a2 a3 a4) (fun z => kf (fun q => z (congrArg some q)) p e s m args below meth c C H locs ls a1 a2 a3 a4)
theorem og_acmp_ne {a b : Nat} {off : Int} {tgt : Nat} (hdg : decode y.2.1 pc = .ok (.if_acmp .ne off, 3)) (ht : (pc : Int) + off = (tgt : Int)) (kt : a ≠ b → ob_G X y R Q tgt lv st w k n) (kf : a = b → ob_G X y R Q (pc + 3) lv st w k n) : ob_G X y R Q pc lv (.ref b :: .ref a :: st) w k n := fun p e s m args below meth c C H locs ls a1 a2 a3 a4 => lv_acmp_ne (rx := some a) (ry := some b) C.1 C.2.1 hdg ht (fun z => kt (fun q => z (congrArg some q)) p e s m args below meth c C H locs ls a1 a2 a3 a4) (fun z => kf (by first | exact Option.some.inj z | exact Classical.byContradiction (fun q => z (fun r => q (Option.some.inj r)))) p e s m args below meth c C H locs ls a1 a2 a3 a4)
/-- the answer -/
theorem og_ireturn {x : Int32} {ty : FieldType} (hr : y.2.2.2.1 = some ty) (hdg : decode y.2.1 pc = .ok (.ireturn, 1)) (hn : narrow ty (.int x) = .int x) (hk : k ≤ R.cells) (hs : n ≤ R.slots) (hq : Q (.inl (some (.int x))) w) : ob_G X y R Q pc lv [.int x] w k n := fun p e s m args below meth c C H locs ls a1 a2 a3 a4 => W.widen hk hs (vx_ret (W.zret (hlocks := C.2.2.2.2.2.2.1) C.1 C.2.1 (C.2.2.1.trans hr) hn (fun t ht hW => ⟨⟨_, w, rfl, hq, by rw [ht]; exact a2, a3⟩, a4.F ht⟩) a4.2.2 hdg))
theorem og_return (hr : y.2.2.2.1 = none) (hdg : decode y.2.1 pc = .ok (.return_, 1)) (hk : k ≤ R.cells) (hs : n ≤ R.slots) (hq : Q (.inl none) w) : ob_G X y R Q pc lv [] w k n := fun p e s m args below meth c C H locs ls a1 a2 a3 a4 => W.widen hk hs (vx_ret (W.vret (hlocks := C.2.2.2.2.2.2.1) C.1 C.2.1 (C.2.2.1.trans hr) (fun t ht hW => ⟨⟨_, w, rfl, hq, by rw [ht]; exact a2, a3⟩, a4.F ht⟩) a4.2.2 hdg))
theorem og_areturn {v : Value} {rt : FieldType} (hr : y.2.2.2.1 = some rt) (hrt : (∃ d, rt = .object d) ∨ ∃ t, rt = .array t) (hv : v = .null ∨ ∃ a, v = .ref a) (hdg : decode y.2.1 pc = .ok (.areturn, 1)) (hk : k ≤ R.cells) (hs : n ≤ R.slots) (hq : Q (.inl (some v)) w) : ob_G X y R Q pc lv [v] w k n := fun p e s m args below meth c C H locs ls a1 a2 a3 a4 => W.widen hk hs (vx_ret (W.aret (hlocks := C.2.2.2.2.2.2.1) C.1 C.2.1 (C.2.2.1.trans hr) hrt hv (fun t ht hW => ⟨⟨_, w, rfl, hq, by rw [ht]; exact a2, a3⟩, a4.F ht⟩) a4.2.2 hdg))
end OBG
end
section
/-! ROWS THAT TOUCH THE HEAP, CALLS, CONTRACTS -/
theorem ob_in {w : Cond} (i : Nat) (h : lw_tbl[i]? = some w) (g : goodWord w = true) : w ∈ ob_tb := List.mem_filter.mpr ⟨List.mem_of_getElem? h, g⟩
theorem ob_gI {L : List Cond} (h : ∀ w ∈ L, w ∈ ob_tb) : GoodIn ob_tb L := fun w hw => ⟨h w hw, good_of_word (List.mem_filter.mp (h w hw)).2⟩
def ob_ty (ci k : Nat) : FieldType := match ci with
  | 0 => tyX0 k
  | 1 => tyX1 k
  | 2 => tyX2 k
  | 3 => tyX3 k
  | 4 => tyX4 k
  | 5 => tyX5 k
  | _ => tyX6 k
/-- a class of vwCl -/
def ob_cl (ci : Nat) (C : String) (T : u_T) (N : Nat) : Prop := vwCl[ci]? = some (C, T, N) ∧ ci < 7 ∧ (∀ w ∈ u_ws C T N, w ∈ ob_tb) ∧ (∀ k, k < N → parseFieldDescriptor (T k).2.2.1 = some (ob_ty ci k)) ∧ (∀ a, a < N → ∀ b, b < N → a ≠ b → (T a).2.1 ≠ (T b).2.1)
/-- field k of class ci, linked by the entry idx of the class own -/
def ob_fk (own : String) (idx ci k : Nat) (fin : Bool) : Prop := ∃ (C : String) (T : u_T) (N : Nat), ob_cl ci C T N ∧ k < N ∧ Cond.fieldLink own idx (T k).1 (T k).2.1 (T k).2.2.1 ∈ ob_tb ∧ (T k).2.2.2 = fin ∧ (T k).1 = C
section OBH
variable {X : ob_X} {y : ob_y} {R : Room} {Q : ob_r → ob_w → Prop} {pc : Nat} {lv : List (Nat × Value)} {st : List Value} {w : ob_w} {k n : Nat}
theorem og_getf {idx ci kf a n0 : Nat} {fin : Bool} {v : Value} (hdg : decode y.2.1 pc = .ok (.getfield idx, 3)) (hf : ob_fk y.1.cls idx ci kf fin) (ha : w.1 a = some (ci, n0)) (hv : w.2.1 a kf = v) (kk : ob_G X y R Q (pc + 3) lv (v :: st) w k n) : ob_G X y R Q pc lv (.ref a :: st) w k n := by
  intro p e s m args below meth c C H locs ls a1 a2 a3 a4
  obtain ⟨CC, T, N, ⟨hc, h7, hin, -, -⟩, hk, hl, -, -⟩ := hf
  obtain ⟨r, h1, cell, q1, q2, q3, q4⟩ := (a2 a ci n0 ha).obj h7
  have hr : r = (CC, T, N) := Option.some.inj (h1.symm.trans hc)
  subst hr
  have hts := C.2.2.2.2.2.1
  obtain ⟨hS, hfc, kC, hkC, hkind⟩ := C.2.2.2.2.2.2.2.2.2.1.1.1 ci _ hc
  obtain ⟨cf, kf9, fi, f, hi, hsl⟩ := hS kf hk
  refine W.getf C.1 C.2.1 C.2.2.2.2.1 (hts _ hl) hi (u_facts hfc hkC (u_lays hts hin hk) hi).1 q1 (by rw [q3]; exact fun h => by cases h) (v := v) ?_ rfl rfl hdg (kk p e s m args below meth c C H locs ls a1 a2 a3 a4)
  rw [hsl, q4 kf hk, hv]
theorem og_put {idx ci kf a n0 : Nat} {v : Value} (hdg : decode y.2.1 pc = .ok (.putfield idx, 3)) (hf : ob_fk y.1.cls idx ci kf false) (ha : w.1 a = some (ci, n0)) (hn : narrow (ob_ty ci kf) v = v) (hv : fits (ob_ty ci kf) v = true) (kk : ob_G X y R Q (pc + 3) lv st (w.1, ob_set w.2.1 a kf v, w.2.2.1, w.2.2.2) k n) : ob_G X y R Q pc lv (v :: .ref a :: st) w k n := by
  intro p e s m args below meth c C H locs ls a1 a2 a3 a4
  obtain ⟨CC, T, N, ⟨hc, h7, hin, hty, hnm⟩, hk, hl, hfin, -⟩ := hf
  have hts := C.2.2.2.2.2.1
  have hK := C.2.2.2.2.2.2.2.2.2.1.1
  have hap := va_apart (own := y.1.cls) hts hin (ob_ty ci) hty hnm hK hc
  obtain ⟨r, h1, cell, q1, q2, q3, q4⟩ := (a2 a ci n0 ha).obj h7
  have hr : r = (CC, T, N) := Option.some.inj (h1.symm.trans hc)
  subst hr
  obtain ⟨hS, hfc, kC, hkC, hkind⟩ := hK.1 ci _ hc
  obtain ⟨cf, kf9, fi, f, hi, hsl⟩ := hS kf hk
  have hlay := hts _ (hin _ (u_in_lay hk))
  unfold u_lay at hlay
  rw [if_neg (by rw [hfin]; decide)] at hlay
  have hst := (u_facts hfc hkC (u_lays hts hin hk) hi).1
  have h6 := u_store hfc hkC hkind hlay hi (hty kf hk) hn hv
  refine W.putK C.1 C.2.1 (f := f) ⟨C.2.2.2.2.1, hts _ hl, ⟨_, _, _, hi⟩, hst⟩ (by rw [q2]; exact h6) q1 q3 (by rw [hsl]; exact k2_hasslot (q4 kf hk)) rfl rfl hdg fun H' e1 e2 e3 => ?_
  rw [hsl] at e1 ⊢
  refine kk p e s m args below meth c C H' _ ls a1 (ob_P.put (a := a) a2 rfl ?_ e3 (fun b hb => by funext j; exact ob_set_a _ _ _ _ j hb) (fun _ _ => rfl) (fun _ _ => rfl)) a3 (a4.put e2 e3 (a3 a _ ha))
  intro c9 n9 h9
  cases h9.symm.trans ha
  refine ob_at.mk h7 ⟨_, hc, t_OB.to (V := updV (w.2.1 a) kf v) ⟨_, e1, q2, q3, t_set q4 hap hk v⟩ (fun j _ => ?_)⟩
  simp [updV, ob_set]
theorem og_putF {idx ci kf a n0 : Nat} {v : Value} (hdg : decode y.2.1 pc = .ok (.putfield idx, 3)) (hf : ob_fk y.1.cls idx ci kf true) (hin2 : y.1.name = "<init>") (hown : (vwCl[ci]?).map (fun q => q.1) = some y.1.cls) (ha : w.1 a = some (ci, n0)) (hn : narrow (ob_ty ci kf) v = v) (hv : fits (ob_ty ci kf) v = true) (kk : ob_G X y R Q (pc + 3) lv st (w.1, ob_set w.2.1 a kf v, w.2.2.1, w.2.2.2) k n) : ob_G X y R Q pc lv (v :: .ref a :: st) w k n := by
  intro p e s m args below meth c C H locs ls a1 a2 a3 a4
  obtain ⟨CC, T, N, ⟨hc, h7, hin, hty, hnm⟩, hk, hl, hfin, hcls⟩ := hf
  have hCC : CC = y.1.cls := by rw [hc] at hown; exact Option.some.inj hown
  have hts := C.2.2.2.2.2.1
  have hK := C.2.2.2.2.2.2.2.2.2.1.1
  have hap := va_apart (own := y.1.cls) hts hin (ob_ty ci) hty hnm hK hc
  obtain ⟨r, h1, cell, q1, q2, q3, q4⟩ := (a2 a ci n0 ha).obj h7
  have hr : r = (CC, T, N) := Option.some.inj (h1.symm.trans hc)
  subst hr
  obtain ⟨hS, hfc, kC, hkC, hkind⟩ := hK.1 ci _ hc
  obtain ⟨cf, kf9, fi, f, hi, hsl⟩ := hS kf hk
  have hlay := hts _ (hin _ (u_in_lay hk))
  unfold u_lay at hlay
  rw [if_pos hfin] at hlay
  have hst := (u_facts hfc hkC (u_lays hts hin hk) hi).1
  have hcf : m.cls = cf := by
    obtain ⟨_, _, c', _, _, _, -, -, hf', -, -, -, hown2, -⟩ := Cond.laysFinal_spec hlay
    have e1 : c' = cf := by have := hi.symm.trans hf'; simp at this; exact this.1.symm
    rw [hcls, hCC] at hown2
    rw [← e1]; exact Option.some.inj (C.2.2.2.2.1.symm.trans hown2)
  have h6 := u_fits hfc hkC hkind (Or.inr hlay) hi (hty kf hk) hn hv
  refine W.putFinK C.1 C.2.1 C.2.2.2.2.1 (hts _ hl) hi hst hcf (C.2.2.2.2.2.2.2.1.trans hin2) (by rw [q2]; exact h6) q1 q3 (by rw [hsl]; exact k2_hasslot (q4 kf hk)) rfl rfl hdg fun H' e1 e2 e3 => ?_
  rw [hsl] at e1 ⊢
  refine kk p e s m args below meth c C H' _ ls a1 (ob_P.put (a := a) a2 rfl ?_ e3 (fun b hb => by funext j; exact ob_set_a _ _ _ _ j hb) (fun _ _ => rfl) (fun _ _ => rfl)) a3 (a4.put e2 e3 (a3 a _ ha))
  intro c9 n9 h9
  cases h9.symm.trans ha
  refine ob_at.mk h7 ⟨_, hc, t_OB.to (V := updV (w.2.1 a) kf v) ⟨_, e1, q2, q3, t_set q4 hap hk v⟩ (fun j _ => ?_)⟩
  simp [updV, ob_set]
/-- a new cell at q -/
def ob_new (T : ob_T) (q c n : Nat) : ob_T := fun b => if b = q then some (c, n) else T b
def ob_row {α : Type} (V : Nat → α) (q : Nat) (f : α) : Nat → α := fun b => if b = q then f else V b
theorem ob_P.push {D : ob_D} {w w' : ob_w} {H H1 : Heap} {c n : Nat} (h : ob_P D w H) (z : H1.size = H.size + 1) (oq : ∀ q : Nat, q < H.size → H1[q]? = H[q]?) (hT : w'.1 = ob_new w.1 H.size c n) (ha : ob_at D w' H.size c n H1)
    (hV : ∀ b, b ≠ H.size → w'.2.1 b = w.2.1 b) (hB : ∀ b, b ≠ H.size → w'.2.2.1 b = w.2.2.1 b) (hJ : ∀ b, b ≠ H.size → w'.2.2.2 b = w.2.2.2 b) : ob_P D w' H1 := by
  intro b c9 n9 hb
  rw [hT] at hb
  unfold ob_new at hb
  split at hb
  · rename_i e; subst e; cases hb; exact ha
  · rename_i e
    exact ((h b c9 n9 hb).kept (oq b (h b c9 n9 hb).lt)).same (hV b e) (hB b e) (hJ b e)
theorem og_new {idx ci N : Nat} {C : String} {T : u_T} {fs : Nat → Value} (hdg : decode y.2.1 pc = .ok (.new idx, 3)) (hc : ob_cl ci C T N) (hl : Cond.classLink y.1.cls idx C ∈ ob_tb) (hi : Cond.instantiable C N ∈ ob_tb) (hini : Cond.initialized C ∈ ob_tb) (hfs : ∀ j, j < N → defaultValue (ob_ty ci j) = fs j) (hk : k + 1 ≤ R.cells) (hs : n + N ≤ R.slots)
    (kk : ∀ q, w.1 q = none → X.2.2 ≤ q → ob_G X y R Q (pc + 3) lv (.ref q :: st) (ob_new w.1 q ci 0, ob_row w.2.1 q fs, w.2.2.1, w.2.2.2) (k + 1) (n + N)) : ob_G X y R Q pc lv st w k n := by
  intro p e s m args below meth c C9 H locs ls a1 a2 a3 a4
  obtain ⟨hc0, h7, hin, hty, hnm⟩ := hc
  have hts := C9.2.2.2.2.2.1
  have hK := C9.2.2.2.2.2.2.2.2.2.1.1
  have hKn := hK.1 ci _ hc0
  refine W.newcK C9.1 C9.2.1 C9.2.2.2.2.1 (hts _ hl) (hts _ hi) (hts _ hini) rfl hdg hk hs hKn.2.1 rfl fun H1 kC hkC e1 z1 o1 => ?_
  have hq : w.1 H.size = none := by
    cases hz : w.1 H.size with
    | none => rfl
    | some x => exact absurd (a2 _ x.1 x.2 hz).lt (Nat.lt_irrefl _)
  have hlo : X.2.2 ≤ H.size := Nat.le_trans C9.2.2.2.2.2.2.2.2.2.2 a4.1
  refine kk H.size hq hlo p e s m args below meth c C9 H1 locs ls a1 (ob_P.push a2 z1 o1 rfl (ob_at.mk h7 ⟨_, hc0, ?_⟩) (fun b hb => by simp [ob_row, hb]) (fun _ _ => rfl) (fun _ _ => rfl)) ?_ ⟨Nat.le_trans a4.1 (by omega), fun x h1 h2 => (o1 x (Nat.lt_of_lt_of_le h1 a4.1)).trans (a4.2.1 x h1 h2), a4.2.2⟩
  · refine (u_born (ob_ty ci) hts hin hKn hkC e1 hty).to (fun j hj => ?_)
    simp [ob_row, hfs j hj]
  · intro a x hx
    unfold ob_new at hx
    dsimp only at hx
    split at hx
    · rename_i e9; subst e9; exact hlo
    · exact a3 a x hx
theorem og_objInit {idx a : Nat} (hdg : decode y.2.1 pc = .ok (.invokespecial idx, 3)) (hl : Cond.methodLink y.1.cls idx objectInit ∈ ob_tb) (hi : Cond.instanceMethod objectInit ∈ ob_tb) (hc : Cond.code objectInit ⟨#[0xb1]⟩ 1 none ∈ ob_tb) (hf : 1 ≤ R.frames) (hlo : (st.map fun v => v.category).sum + 12 ≤ R.locals) (kk : ob_G X y R Q (pc + 3) lv st w k n) : ob_G X y R Q pc lv (.ref a :: st) w k n := fun p e s m args below meth c C H locs ls a1 a2 a3 a4 => W.objInit C.1 C.2.1 C.2.2.2.2.1 (C.2.2.2.2.2.1 _ hl) (C.2.2.2.2.2.1 _ hi) (C.2.2.2.2.2.1 _ hc) rfl (by show ls.size = c.maxLocals; rw [C.2.2.2.1]; exact a1.1) rfl hdg hf (by show 2 * 0 + _ + 12 ≤ _; omega) (kk p e s m args below meth c C H locs ls a1 a2 a3 a4)
theorem og_mmax {idx : Nat} {x x9 : Int32} (hdg : decode y.2.1 pc = .ok (.invokestatic idx, 3)) (hl : Cond.methodLink y.1.cls idx Lib.Math.max.name ∈ ob_tb) (hf : 1 ≤ R.frames) (hlo : (st.map fun v => v.category).sum + 13 ≤ R.locals) (hk : k ≤ R.cells) (hs : n ≤ R.slots) (h1 : Cond.static Lib.Math.max.name ∈ ob_tb) (h2 : Cond.initialized "java/lang/Math" ∈ ob_tb) (h3 : Cond.code Lib.Math.max.name Lib.Math.max.code 2 (some .int) ∈ ob_tb) (kk : ob_G X y R Q (pc + 3) lv (.int (if x < x9 then x9 else x) :: st) w k n) : ob_G X y R Q pc lv (.int x9 :: .int x :: st) w k n := fun p e s m args below meth c C H locs ls a1 a2 a3 a4 => va_mmax C.1 C.2.1 (by rw [C.2.2.2.1]; exact a1.1.symm) C.2.2.2.2.1 (C.2.2.2.2.2.1 _ hl) (C.2.2.2.2.2.1 _ h1) (C.2.2.2.2.2.1 _ h2) (C.2.2.2.2.2.1 _ h3) hf hlo hk hs hdg (kk p e s m args below meth c C H locs ls a1 a2 a3 a4)
theorem og_mmin {idx : Nat} {x x9 : Int32} (hdg : decode y.2.1 pc = .ok (.invokestatic idx, 3)) (hl : Cond.methodLink y.1.cls idx Lib.Math.min.name ∈ ob_tb) (hf : 1 ≤ R.frames) (hlo : (st.map fun v => v.category).sum + 13 ≤ R.locals) (hk : k ≤ R.cells) (hs : n ≤ R.slots) (h1 : Cond.static Lib.Math.min.name ∈ ob_tb) (h2 : Cond.initialized "java/lang/Math" ∈ ob_tb) (h3 : Cond.code Lib.Math.min.name Lib.Math.min.code 2 (some .int) ∈ ob_tb) (kk : ob_G X y R Q (pc + 3) lv (.int (if x9 < x then x9 else x) :: st) w k n) : ob_G X y R Q pc lv (.int x9 :: .int x :: st) w k n := fun p e s m args below meth c C H locs ls a1 a2 a3 a4 => va_mmin C.1 C.2.1 (by rw [C.2.2.2.1]; exact a1.1.symm) C.2.2.2.2.1 (C.2.2.2.2.2.1 _ hl) (C.2.2.2.2.2.1 _ h1) (C.2.2.2.2.2.1 _ h2) (C.2.2.2.2.2.1 _ h3) hf hlo hk hs hdg (kk p e s m args below meth c C H locs ls a1 a2 a3 a4)
/-! arrays -/
theorem og_bald {a m0 : Nat} {i : Int32} (hdg : decode y.2.1 pc = .ok (.baload, 1)) (ha : w.1 a = some (7, m0)) (hi : vp_in i m0) (kk : ob_G X y R Q (pc + 1) lv (.int (w.2.2.1 a i.toNatClampNeg) :: st) w k n) : ob_G X y R Q pc lv (.int i :: .ref a :: st) w k n := by
  intro p e s m args below meth c C H locs ls a1 a2 a3 a4
  have h := a2 a 7 m0 ha
  have hK := C.2.2.2.2.2.2.2.2.2.1.1
  have hlt : i.toNatClampNeg < m0 := Nat.not_le.mp fun q => hi (Or.inr q)
  exact W.bald (v := .int (w.2.2.1 a i.toNatClampNeg)) C.1 C.2.1 h ((hK.2 0 _ rfl).1 m0 _) (fun q => by cases q) (by show ¬ (i < 0 ∨ (arrV _ _ _).slots.size ≤ _); rw [arrV_size]; exact hi) (arrV_read _ _ hlt) rfl rfl hdg (kk p e s m args below meth c C H locs ls a1 a2 a3 a4)
theorem og_iald {a m0 : Nat} {i : Int32} (hdg : decode y.2.1 pc = .ok (.iaload, 1)) (ha : w.1 a = some (8, m0)) (hi : vp_in i m0) (kk : ob_G X y R Q (pc + 1) lv (.int (w.2.2.1 a i.toNatClampNeg) :: st) w k n) : ob_G X y R Q pc lv (.int i :: .ref a :: st) w k n := by
  intro p e s m args below meth c C H locs ls a1 a2 a3 a4
  have h := a2 a 8 m0 ha
  have hK := C.2.2.2.2.2.2.2.2.2.1.1
  have hlt : i.toNatClampNeg < m0 := Nat.not_le.mp fun q => hi (Or.inr q)
  exact W.iald (v := .int (w.2.2.1 a i.toNatClampNeg)) C.1 C.2.1 h ((hK.2 1 _ rfl).1 m0 _) (fun q => by cases q) (by show ¬ (i < 0 ∨ (arrV _ _ _).slots.size ≤ _); rw [arrV_size]; exact hi) (arrV_read _ _ hlt) rfl rfl hdg (kk p e s m args below meth c C H locs ls a1 a2 a3 a4)
theorem og_lald {a m0 : Nat} {i : Int32} (hdg : decode y.2.1 pc = .ok (.laload, 1)) (ha : w.1 a = some (9, m0)) (hi : vp_in i m0) (kk : ob_G X y R Q (pc + 1) lv (.long (w.2.2.2 a i.toNatClampNeg) :: st) w k n) : ob_G X y R Q pc lv (.int i :: .ref a :: st) w k n := by
  intro p e s m args below meth c C H locs ls a1 a2 a3 a4
  have h := a2 a 9 m0 ha
  have hK := C.2.2.2.2.2.2.2.2.2.1.1
  have hlt : i.toNatClampNeg < m0 := Nat.not_le.mp fun q => hi (Or.inr q)
  exact W.lald (v := .long (w.2.2.2 a i.toNatClampNeg)) C.1 C.2.1 h ((hK.2 2 _ rfl).1 m0 _) (fun q => by cases q) (by show ¬ (i < 0 ∨ (arrV _ _ _).slots.size ≤ _); rw [arrV_size]; exact hi) (arrV_read _ _ hlt) rfl rfl hdg (kk p e s m args below meth c C H locs ls a1 a2 a3 a4)
theorem og_bast {a m0 : Nat} {i x : Int32} (hdg : decode y.2.1 pc = .ok (.bastore, 1)) (ha : w.1 a = some (7, m0)) (hi : vp_in i m0) (kk : ob_G X y R Q (pc + 1) lv st (w.1, w.2.1, ob_set w.2.2.1 a i.toNatClampNeg x.toInt8.toInt32, w.2.2.2) k n) : ob_G X y R Q pc lv (.int x :: .int i :: .ref a :: st) w k n := by
  intro p e s m args below meth c C H locs ls a1 a2 a3 a4
  have h := a2 a 7 m0 ha
  have hK := C.2.2.2.2.2.2.2.2.2.1.1
  refine W.bast C.1 C.2.1 h ((hK.2 0 _ rfl).1 m0 _) (fun q => by cases q) (by show ¬ (i < 0 ∨ (arrV _ _ _).slots.size ≤ _); rw [arrV_size]; exact hi) rfl rfl hdg fun H1 e1 z oq => ?_
  refine kk p e s m args below meth c C H1 _ ls a1 (ob_P.put (a := a) a2 rfl ?_ oq (fun _ _ => rfl) (fun b hb => by funext j; exact ob_set_a _ _ _ _ j hb) (fun _ _ => rfl)) a3 (a4.put z oq (a3 a _ ha))
  intro c9 n9 h9
  cases h9.symm.trans ha
  show H1[a]? = some (arrV _ _ _)
  rw [e1, arrV_store]
  congr 2
  funext q
  by_cases hq : q = i.toNatClampNeg
  · subst hq; simp [updV, ob_set, narrow]
  · simp [updV, ob_set, hq]
theorem og_iast {a m0 : Nat} {i x : Int32} (hdg : decode y.2.1 pc = .ok (.iastore, 1)) (ha : w.1 a = some (8, m0)) (hi : vp_in i m0) (kk : ob_G X y R Q (pc + 1) lv st (w.1, w.2.1, ob_set w.2.2.1 a i.toNatClampNeg x, w.2.2.2) k n) : ob_G X y R Q pc lv (.int x :: .int i :: .ref a :: st) w k n := by
  intro p e s m args below meth c C H locs ls a1 a2 a3 a4
  have h := a2 a 8 m0 ha
  have hK := C.2.2.2.2.2.2.2.2.2.1.1
  refine W.iast C.1 C.2.1 h ((hK.2 1 _ rfl).1 m0 _) (fun q => by cases q) (by show ¬ (i < 0 ∨ (arrV _ _ _).slots.size ≤ _); rw [arrV_size]; exact hi) rfl rfl hdg fun H1 e1 z oq => ?_
  refine kk p e s m args below meth c C H1 _ ls a1 (ob_P.put (a := a) a2 rfl ?_ oq (fun _ _ => rfl) (fun b hb => by funext j; exact ob_set_a _ _ _ _ j hb) (fun _ _ => rfl)) a3 (a4.put z oq (a3 a _ ha))
  intro c9 n9 h9
  cases h9.symm.trans ha
  show H1[a]? = some (arrV _ _ _)
  rw [e1, arrV_store]
  congr 2
  funext q
  by_cases hq : q = i.toNatClampNeg
  · subst hq; simp [updV, ob_set]
  · simp [updV, ob_set, hq]
theorem og_last {a m0 : Nat} {i : Int32} {x : Int64} (hdg : decode y.2.1 pc = .ok (.lastore, 1)) (ha : w.1 a = some (9, m0)) (hi : vp_in i m0) (kk : ob_G X y R Q (pc + 1) lv st (w.1, w.2.1, w.2.2.1, ob_set w.2.2.2 a i.toNatClampNeg x) k n) : ob_G X y R Q pc lv (.long x :: .int i :: .ref a :: st) w k n := by
  intro p e s m args below meth c C H locs ls a1 a2 a3 a4
  have h := a2 a 9 m0 ha
  have hK := C.2.2.2.2.2.2.2.2.2.1.1
  refine W.last C.1 C.2.1 h ((hK.2 2 _ rfl).1 m0 _) (fun q => by cases q) (by show ¬ (i < 0 ∨ (arrV _ _ _).slots.size ≤ _); rw [arrV_size]; exact hi) rfl rfl hdg fun H1 e1 z oq => ?_
  refine kk p e s m args below meth c C H1 _ ls a1 (ob_P.put (a := a) a2 rfl ?_ oq (fun _ _ => rfl) (fun _ _ => rfl) (fun b hb => by funext j; exact ob_set_a _ _ _ _ j hb)) a3 (a4.put z oq (a3 a _ ha))
  intro c9 n9 h9
  cases h9.symm.trans ha
  show H1[a]? = some (arrV _ _ _)
  rw [e1, arrV_store]
  congr 2
  funext q
  by_cases hq : q = i.toNatClampNeg
  · subst hq; simp [updV, ob_set]
  · simp [updV, ob_set, hq]
theorem og_alen {a c0 m0 : Nat} (hdg : decode y.2.1 pc = .ok (.arraylength, 1)) (ha : w.1 a = some (c0, m0)) (h0 : c0 = 7 ∨ c0 = 8) (kk : ob_G X y R Q (pc + 1) lv (.int (nI m0) :: st) w k n) : ob_G X y R Q pc lv (.ref a :: st) w k n := by
  intro p e s m args below meth c C H locs ls a1 a2 a3 a4
  have h := a2 a c0 m0 ha
  have hK := C.2.2.2.2.2.2.2.2.2.1.1
  rcases h0 with rfl | rfl
  · exact W.alen (n := nI m0) C.1 C.2.1 h ((hK.2 0 _ rfl).1 m0 _) (by rw [arrV_size] <;> rfl) rfl rfl hdg (kk p e s m args below meth c C H locs ls a1 a2 a3 a4)
  · exact W.alen (n := nI m0) C.1 C.2.1 h ((hK.2 1 _ rfl).1 m0 _) (by rw [arrV_size] <;> rfl) rfl rfl hdg (kk p e s m args below meth c C H locs ls a1 a2 a3 a4)
/-- new arrays: t = 0 byte[], 1 int[], 2 long[] -/
theorem og_newa {t : Nat} {at9 : ArrayType} {m0 : Nat} {i : Int32} (hdg : decode y.2.1 pc = .ok (.newarray at9, 2)) (hty : (t = 0 ∧ at9 = .byte) ∨ (t = 1 ∧ at9 = .int) ∨ (t = 2 ∧ at9 = .long)) (harr : Cond.arrayClass (newarray.typeOf at9) ∈ ob_tb) (hi : i = nI m0) (hm : m0 ≤ 1000000) (hk : k + 1 ≤ R.cells) (hs : n + m0 ≤ R.slots)
    (kk : ∀ q, w.1 q = none → X.2.2 ≤ q → ob_G X y R Q (pc + 2) lv (.ref q :: st) (ob_new w.1 q (7 + t) m0, w.2.1, ob_row w.2.2.1 q (fun _ => 0), ob_row w.2.2.2 q (fun _ => 0)) (k + 1) (n + m0)) : ob_G X y R Q pc lv (.int i :: st) w k n := by
  intro p e s m args below meth c C H locs ls a1 a2 a3 a4
  have hK := C.2.2.2.2.2.2.2.2.2.1.1
  have hts := C.2.2.2.2.2.1
  subst hi
  refine va_newaK C.1 C.2.1 (hts _ harr) rfl hdg rfl (nI_pos (by omega)) (nI_clamp (by omega)) (by rcases hty with ⟨-, rfl⟩ | ⟨-, rfl⟩ | ⟨-, rfl⟩ <;> simp [newarray.typeOf, componentBytes] <;> omega) hk hs rfl fun H1 cA e1 z1 o1 hAr hNm => ?_
  have hq : w.1 H.size = none := by
    cases hz : w.1 H.size with
    | none => rfl
    | some x => exact absurd (a2 _ x.1 x.2 hz).lt (Nat.lt_irrefl _)
  have hlo : X.2.2 ≤ H.size := Nat.le_trans C.2.2.2.2.2.2.2.2.2.2 a4.1
  refine kk H.size hq hlo p e s m args below meth c C H1 locs ls a1 (ob_P.push a2 z1 o1 rfl ?_ (fun _ _ => rfl) (fun b hb => by simp [ob_row, hb]) (fun b hb => by simp [ob_row, hb])) ?_ ⟨Nat.le_trans a4.1 (by omega), fun x h1 h2 => (o1 x (Nat.lt_of_lt_of_le h1 a4.1)).trans (a4.2.1 x h1 h2), a4.2.2⟩
  · rcases hty with ⟨rfl, rfl⟩ | ⟨rfl, rfl⟩ | ⟨rfl, rfl⟩
    · have e9 : cA = X.2.1.2 0 := Option.some.inj (hNm.symm.trans (hK.2 0 _ rfl).2)
      subst e9
      simpa [ob_at, ob_row, newarray.typeOf, defaultValue] using e1
    · have e9 : cA = X.2.1.2 1 := Option.some.inj (hNm.symm.trans (hK.2 1 _ rfl).2)
      subst e9
      simpa [ob_at, ob_row, newarray.typeOf, defaultValue] using e1
    · have e9 : cA = X.2.1.2 2 := Option.some.inj (hNm.symm.trans (hK.2 2 _ rfl).2)
      subst e9
      simpa [ob_at, ob_row, newarray.typeOf, defaultValue] using e1
  · intro a x hx
    unfold ob_new at hx
    dsimp only at hx
    split at hx
    · rename_i e9; subst e9; exact hlo
    · exact a3 a x hx
theorem og_ldc {idx : Nat} {v : Int32} (hdg : decode y.2.1 pc = .ok (.ldc idx, 2)) (hc : Cond.constant y.1.cls idx v ∈ ob_tb) (kk : ob_G X y R Q (pc + 2) lv (.int v :: st) w k n) : ob_G X y R Q pc lv st w k n := fun p e s m args below meth c C H locs ls a1 a2 a3 a4 => lv_ldc C.1 C.2.1 C.2.2.2.2.1 (C.2.2.2.2.2.1 _ hc) hdg (kk p e s m args below meth c C H locs ls a1 a2 a3 a4)
theorem og_ldcw {idx : Nat} {v : Int32} (hdg : decode y.2.1 pc = .ok (.ldc_w idx, 3)) (hc : Cond.constant y.1.cls idx v ∈ ob_tb) (kk : ob_G X y R Q (pc + 3) lv (.int v :: st) w k n) : ob_G X y R Q pc lv st w k n := fun p e s m args below meth c C H locs ls a1 a2 a3 a4 => lv_ldcw C.1 C.2.1 C.2.2.2.2.1 (C.2.2.2.2.2.1 _ hc) hdg (kk p e s m args below meth c C H locs ls a1 a2 a3 a4)
theorem og_ldc2 {idx : Nat} {v : Int64} (hdg : decode y.2.1 pc = .ok (.ldc2_w idx, 3)) (hc : Cond.constantLong y.1.cls idx v ∈ ob_tb) (kk : ob_G X y R Q (pc + 3) lv (.long v :: st) w k n) : ob_G X y R Q pc lv st w k n := fun p e s m args below meth c C H locs ls a1 a2 a3 a4 => lv_ldc2 C.1 C.2.1 C.2.2.2.2.1 (C.2.2.2.2.2.1 _ hc) hdg (kk p e s m args below meth c C H locs ls a1 a2 a3 a4)
theorem og_tableOut {dflt lo hi : Int} {offs : Array Int} {len : Nat} {x : Int32} {tgt : Nat} (hdg : decode y.2.1 pc = .ok (.tableswitch dflt lo hi offs, len)) (h : x.toInt < lo ∨ hi < x.toInt) (ht : (pc : Int) + dflt = (tgt : Int)) (kk : ob_G X y R Q tgt lv st w k n) : ob_G X y R Q pc lv (.int x :: st) w k n := fun p e s m args below meth c C H locs ls a1 a2 a3 a4 => lv_tableOut C.1 C.2.1 hdg h ht (kk p e s m args below meth c C H locs ls a1 a2 a3 a4)
theorem og_tableIn {dflt lo hi : Int} {offs : Array Int} {len : Nat} {x : Int32} {off : Int} {tgt : Nat} (hdg : decode y.2.1 pc = .ok (.tableswitch dflt lo hi offs, len)) (h1 : ¬ x.toInt < lo) (h2 : ¬ hi < x.toInt) (ho : offs[(x.toInt - lo).toNat]? = some off) (ht : (pc : Int) + off = (tgt : Int)) (kk : ob_G X y R Q tgt lv st w k n) : ob_G X y R Q pc lv (.int x :: st) w k n := fun p e s m args below meth c C H locs ls a1 a2 a3 a4 => lv_tableIn C.1 C.2.1 hdg h1 h2 ho ht (kk p e s m args below meth c C H locs ls a1 a2 a3 a4)
/-! contracts and calls -/
def ob_wd (X : ob_X) (w : ob_w) (U : State) : Prop := ob_P X.2.1 w U.heap ∧ ob_lo X w ∧ X.2.2 ≤ U.heap.size ∧ ob_K X U
def ob_ws (y : ob_y) : List Cond := Cond.code y.1 y.2.1 y.2.2.1 y.2.2.2.1 :: ob_tb
abbrev ob_rm (d mc ms : Nat) : Room := { frames := d, cells := mc, slots := ms, locals := 60 * d }
/-- method y, called with As in the world w, ends with Q: d frames deep, at most mc new cells of ms slots -/
def ob_C (X : ob_X) (y : ob_y) (d mc ms : Nat) (As : List Value) (w : ob_w) (Q : ob_r → ob_w → Prop) : Prop :=
  vx_Met X.1 y.1 (ob_ws y) (ob_rm d mc ms) (va_Pc As (ob_wd X w)) (ob_Qc X Q) (ob_XC X Q) mc ms (fun q => X.2.2 ≤ q)
theorem ob_C_of {X : ob_X} {y : ob_y} {d mc ms : Nat} {As : List Value} {w : ob_w} {Q : ob_r → ob_w → Prop} (hy : plainName y.1.cls = true) (hh : y.2.2.2.2 = []) (hl : (lg_sl As).length ≤ y.2.2.1) (h : ob_G X y (ob_rm d mc ms) Q 0 (lv_args 0 As) [] w 0 0) : ob_C X y d mc ms As w Q := by
  refine vx_ofW (cc := y.2.1) (maxL := y.2.2.1) (ret := y.2.2.2.1) hy rfl ?_
  intro p e s m args below meth c s₁ B hml htab hv
  obtain ⟨rfl, hP, hlo, hsz, hK⟩ := hv
  have hts := atoms_spec (ws := ob_ws y) B.pre
  have hent := lv_entry As (n := y.2.2.1) hl
  rw [lg_entry_eq]
  have ht : c.exceptionTable.toList = tableOf y.2.2.2.2 := by
    rw [hh]
    cases hz : c.exceptionTable.toList with
    | nil => rfl
    | cons x l => exact absurd (htab x (by rw [hz]; exact List.mem_cons_self)) (fun z => z)
  exact h p e s m As.toArray below meth c ⟨B.exec, B.bytes, B.returns, hml, findClass_of_methodNamed B.named, fun w9 h9 => hts w9 (List.mem_cons_of_mem _ h9), B.notSynchronized, (name_of_methodNamed B.named B.method).1, ht, hK, hsz⟩ s.heap [] _ hent hP hlo va_S.rf
theorem ob_K.warm {X : ob_X} {s U : State} {H : Heap} {locs : List Loc} (h : ob_K X s) (hS : va_S (fun q => X.2.2 ≤ q) s.heap H locs) (hU : U.heap = H) (hW : s.WarmedH U.vm) : ob_K X U := by
  obtain ⟨h1, h2, h3, h4, h5, h6⟩ := h
  refine ⟨va_K.moved hW.alike h1, h2, fun q hq => ?_, fun x hx => va_Nw.warmD hW (h4 x hx), ?_, ?_⟩
  · obtain ⟨sa, hsa⟩ := h3 q hq
    exact ⟨sa, hsa.warm hW⟩
  · rw [hU]; exact vx_Zq.moved hW.alike (h5.kept hS.2.1)
  · rw [hU]; exact vx_Zq.moved hW.alike (h6.kept hS.2.1)
theorem ob_wd.blind {X : ob_X} {w : ob_w} (As : List Value) : FrameBlind (va_Pc As (ob_wd X w)) := by
  intro a U g mk h
  obtain ⟨h0, h1, h2, h3, h4, h5, h6, h7, h8, h9⟩ := h
  refine ⟨h0, h1, h2, h3, va_K.moved (u := U) (U := U.calling g mk a) (Vm.Alike.refl U.vm) h4, h5, fun q hq => ?_, fun x hx => va_Nw.same rfl (u := U) (U := U.calling g mk a) rfl (h7 x hx), vx_Zq.moved (u := U) (U := U.calling g mk a) (Vm.Alike.refl U.vm) h8, vx_Zq.moved (u := U) (U := U.calling g mk a) (Vm.Alike.refl U.vm) h9⟩
  obtain ⟨sa, hsa⟩ := h6 q hq
  exact ⟨sa, vk_R.same (u := U) (U := U.calling g mk a) rfl hsa⟩
/-- behind a call -/
theorem ob_callW {p : Program} {e : Env} {s : State} {m : MethodId} {args a : Array Value} {below : List Frame} {meth : Method} {c : Code} {H : Heap} {locs : List Loc} {ls : Array Slot} {mc ms : Nat} {stk : List Value} {Qe : State → Prop} {Q2 : ob_r → ob_w → Prop}
    (hr : vx_Run p X.1 e R s m args below meth c H locs k n mc ms (F0 m pc ls stk) st (ob_Qc X Q2 a) (ob_XC X Q2) (fun q => X.2.2 ≤ q)) (hS : va_S (fun q => X.2.2 ≤ q) s.heap H locs)
    (kx : ∀ (E : String) (ce : Cell) (q : Addr) (w' : ob_w) (H1 : Heap) (locs1 : List Loc), Q2 (.inr E) w' → ob_P X.2.1 w' H1 → ob_lo X w' → va_S (fun q => X.2.2 ≤ q) s.heap H1 locs1 → H1[q]? = some ce → ce.vm = .none → s.vm.findClass E = some ce.cls → vx_W p X.1 e R s m args below meth c H1 locs1 (k + mc) (n + ms) Qe (F0 m pc ls st) q)
    (kk : ∀ (v : Option Value) (w' : ob_w) (H1 : Heap) (locs1 : List Loc), Q2 (.inl v) w' → ob_P X.2.1 w' H1 → ob_lo X w' → va_S (fun q => X.2.2 ≤ q) s.heap H1 locs1 → W p X.1 e R s m args below meth c H1 locs1 (k + mc) (n + ms) Qe (F0 m (pc + 3) ls (v.toList ++ st))) : W p X.1 e R s m args below meth c H locs k n Qe (F0 m pc ls stk) := by
  intro T hT X9
  rcases hr T hT X9 with ⟨v, st₀, t, T', L, h0, X', hL, e1, e2, ⟨⟨v', w', hv, hq, hP, hlo⟩, hF⟩, st9⟩ | ⟨q, st₀, t, T', L, E, ce, h0, X', hL, e1, e2, ⟨⟨w', hq, hP, hlo⟩, hF⟩, hce, hcv, hcl, st9⟩
  · cases hv
    obtain ⟨k1, k2, k3⟩ := vx_keep h0 e1 hS (fun q _ h => h) (fun q h => h) hL hF
    obtain ⟨t2, a1, b1⟩ := kk v w' T'.heap (locs ++ L) hq (by rw [e1]; exact hP) hlo k3 T' rfl X'
    exact ⟨t2, st9 t2 a1, b1⟩
  · obtain ⟨k1, k2, k3⟩ := vx_keep h0 e1 hS (fun q _ h => h) (fun q h => h) hL hF
    obtain ⟨t2, a1, b1⟩ := kx E ce q w' T'.heap (locs ++ L) hq (by rw [e1]; exact hP) hlo k3 (by rw [e1]; exact hce) hcv hcl T' rfl X'
    exact ⟨t2, st9.trans a1, b1⟩
/-- what a call of y needs of the tables -/
def ob_mk (y : ob_y) : Prop := Cond.code y.1 y.2.1 y.2.2.1 y.2.2.2.1 ∈ ob_tb ∧ Cond.initialized y.1.cls ∈ ob_tb ∧ y.1.cls ≠ "java/lang/invoke/MethodHandle" ∧ y.1.cls ≠ "java/lang/invoke/VarHandle"
def ob_mv (own : String) (idx : Nat) (y : ob_y) (np : Nat) : Prop := ob_mk y ∧ Cond.methodLink own idx y.1 ∈ ob_tb ∧ Cond.instanceMethod y.1 ∈ ob_tb ∧ Cond.selects y.1.cls y.1 y.1 ∈ ob_tb ∧ (parseMethodDescriptor y.1.desc).map (fun d => d.parameters.length) = some np
def ob_ms (own : String) (idx : Nat) (y : ob_y) (np : Nat) : Prop := ob_mk y ∧ Cond.methodLink own idx y.1 ∈ ob_tb ∧ Cond.static y.1 ∈ ob_tb ∧ (parseMethodDescriptor y.1.desc).map (fun d => d.parameters.length) = some np
def ob_mi (own : String) (idx : Nat) (y : ob_y) (np : Nat) : Prop := ob_mk y ∧ Cond.methodLink own idx y.1 ∈ ob_tb ∧ Cond.instanceMethod y.1 ∈ ob_tb ∧ y.1.name = "<init>" ∧ y.2.2.2.1 = none ∧ (parseMethodDescriptor y.1.desc).map (fun d => d.parameters.length) = some np
theorem ob_notab {p : Program} {e : Env} {s : State} {m : MethodId} {args : Array Value} {meth : Method} {c : Code} (C : ob_Cx X y p e s m args meth c) (hh : y.2.2.2.2 = []) (pc : Nat) : ∀ x ∈ c.exceptionTable.toList, covers x pc = false := by
  intro x hx
  rw [C.2.2.2.2.2.2.2.2.1, hh] at hx
  cases hx
theorem og_callV {idx b ci n0 d mc ms : Nat} {z : ob_y} {As stk : List Value} {Q2 : ob_r → ob_w → Prop} (hdg : decode y.2.1 pc = .ok (.invokevirtual idx, 3)) (hv : ob_mv y.1.cls idx z As.length) (hM : ob_C X z d mc ms (.ref b :: As) w Q2) (hb : w.1 b = some (ci, n0)) (hci : (vwCl[ci]?).map (fun q => q.1) = some z.1.cls) (hstk : stk = As.reverse ++ .ref b :: st) (hR : d + 1 ≤ R.frames ∧ 8 + (z.2.2.1 + 11) + 60 * d ≤ R.locals) (hk : k + mc ≤ R.cells) (hs : n + ms ≤ R.slots) (hsum : (st.map fun v => v.category).sum ≤ 8) (hh : y.2.2.2.2 = [])
    (kx : ∀ E w', Q2 (.inr E) w' → Q (.inr E) w') (kk : ∀ v w', Q2 (.inl v) w' → ob_G X y R Q (pc + 3) lv (v.toList ++ st) w' (k + mc) (n + ms)) : ob_G X y R Q pc lv stk w k n := by
  intro p e s m args below meth c C H locs ls a1 a2 a3 a4
  obtain ⟨⟨m1, m2, m3, m4⟩, m5, m6, m7, m8⟩ := hv
  have hts := C.2.2.2.2.2.1
  have hK := C.2.2.2.2.2.2.2.2.2.1
  have h7 : ci < 7 := by
    rcases Nat.lt_or_ge ci 7 with h | h
    · exact h
    · rw [List.getElem?_eq_none (by simpa using h)] at hci; cases hci
  obtain ⟨r, r1, cell, r2, r3, r4, -⟩ := (a2 b ci n0 hb).obj h7
  have hcell : s.vm.findClass z.1.cls = some cell.cls := by
    rw [r1] at hci
    have e9 : r.1 = z.1.cls := Option.some.inj hci
    rw [r3, ← e9]; exact (hK.1.1 ci r r1).2.1
  refine ob_callW (mc := mc) (ms := ms) (Q2 := Q2) (vx_runV (As := As) (b := b) (C := z.1.cls) (Ts := ob_tb) ⟨C.1, C.2.1, C.2.2.2.1, C.2.2.2.2.1, hts⟩ hM (cwV As.length hts (ob_gI (fun w9 h9 => ?_)) (ws' := ob_tb) rfl rfl rfl ⟨rfl, m3, m4, m8⟩ hR) ⟨ob_wd.blind _, ⟨cell, r2, by rw [r4]; rfl, hcell⟩, fun U hU hW => ⟨rfl, by rw [hU]; exact a2, a3, by rw [hU]; exact Nat.le_trans C.2.2.2.2.2.2.2.2.2.2 a4.1, hK.warm a4 hU hW⟩⟩ rfl rfl a1.1 hstk (lv_room hsum) hdg ⟨hk, hs⟩) a4 ?_ ?_
  · simp only [wsV, ob_ws, List.cons_append, List.nil_append, List.mem_cons] at h9
    rcases h9 with rfl | rfl | rfl | rfl | rfl | h9
    · exact m5
    · exact m6
    · exact m7
    · exact m2
    · exact m1
    · exact h9
  · intro E ce q w' H1 locs1 hq hP hlo hS hce hcv hcl
    exact vx_out (ob_notab C hh pc) C.2.2.2.2.2.2.1 hce hcv hcl (fun t ht hA => ⟨⟨w', kx E w' hq, by rw [ht]; exact hP, hlo⟩, hS.F ht⟩) hS.2.2 hk hs
  · intro v w' H1 locs1 hq hP hlo hS
    exact kk v w' hq p e s m args below meth c C H1 locs1 ls a1 hP hlo hS
theorem og_callS {idx d mc ms : Nat} {z : ob_y} {As stk : List Value} {Q2 : ob_r → ob_w → Prop} (hdg : decode y.2.1 pc = .ok (.invokestatic idx, 3)) (hv : ob_ms y.1.cls idx z As.length) (hM : ob_C X z d mc ms As w Q2) (hstk : stk = As.reverse ++ st) (hR : d + 1 ≤ R.frames ∧ 8 + (z.2.2.1 + 11) + 60 * d ≤ R.locals) (hk : k + mc ≤ R.cells) (hs : n + ms ≤ R.slots) (hsum : (st.map fun v => v.category).sum ≤ 8) (hh : y.2.2.2.2 = [])
    (kx : ∀ E w', Q2 (.inr E) w' → Q (.inr E) w') (kk : ∀ v w', Q2 (.inl v) w' → ob_G X y R Q (pc + 3) lv (v.toList ++ st) w' (k + mc) (n + ms)) : ob_G X y R Q pc lv stk w k n := by
  intro p e s m args below meth c C H locs ls a1 a2 a3 a4
  obtain ⟨⟨m1, m2, m3, m4⟩, m5, m6, m8⟩ := hv
  have hts := C.2.2.2.2.2.1
  have hK := C.2.2.2.2.2.2.2.2.2.1
  refine ob_callW (mc := mc) (ms := ms) (Q2 := Q2) (vx_runS (As := As) (Ts := ob_tb) ⟨C.1, C.2.1, C.2.2.2.1, C.2.2.2.2.1, hts⟩ hM ⟨callB_of As.length hts (ob_gI (fun w9 h9 => ?_)) (ws' := ob_tb) rfl rfl rfl (hts _ m2) (hts _ m5) ⟨m3, m4, m8⟩ hR, hts _ m6⟩ ⟨ob_wd.blind _, fun U hU hW => ⟨rfl, by rw [hU]; exact a2, a3, by rw [hU]; exact Nat.le_trans C.2.2.2.2.2.2.2.2.2.2 a4.1, hK.warm a4 hU hW⟩⟩ rfl rfl a1.1 hstk (lv_room hsum) hdg ⟨hk, hs⟩) a4 ?_ ?_
  · simp only [ob_ws, List.mem_cons] at h9
    rcases h9 with rfl | h9
    · exact m1
    · exact h9
  · intro E ce q w' H1 locs1 hq hP hlo hS hce hcv hcl
    exact vx_out (ob_notab C hh pc) C.2.2.2.2.2.2.1 hce hcv hcl (fun t ht hA => ⟨⟨w', kx E w' hq, by rw [ht]; exact hP, hlo⟩, hS.F ht⟩) hS.2.2 hk hs
  · intro v w' H1 locs1 hq hP hlo hS
    exact kk v w' hq p e s m args below meth c C H1 locs1 ls a1 hP hlo hS
end OBH
end
section
/-! CONSTRUCTORS' CALLS, COPIES, THROWS -/
theorem ob_C.post {X : ob_X} {y : ob_y} {d mc ms : Nat} {As : List Value} {w : ob_w} {Q Q' : ob_r → ob_w → Prop} (h : ob_C X y d mc ms As w Q) (hq : ∀ r w', Q r w' → Q' r w') : ob_C X y d mc ms As w Q' := by
  intro p e h1 h2 h3 s m args below h4 h5 h6 h7
  obtain ⟨n, o, g1, g2, g3, g4⟩ := h p e h1 h2 h3 s m args below h4 h5 h6 h7
  refine ⟨n, o, g1, g2, g3, ?_⟩
  rcases g4 with ⟨⟨⟨v, w1, c1, c2, c3⟩, c4⟩, c5⟩ | ⟨q, c1, E, ce, L, ⟨⟨w1, c2, c3⟩, c4⟩, c5⟩
  · exact Or.inl ⟨⟨⟨v, w1, c1, hq _ _ c2, c3⟩, c4⟩, c5⟩
  · exact Or.inr ⟨q, c1, E, ce, L, ⟨⟨w1, hq _ _ c2, c3⟩, c4⟩, c5⟩
/-- one that never throws -/
theorem ob_C.met {X : ob_X} {y : ob_y} {d mc ms : Nat} {As : List Value} {w : ob_w} {Q : ob_r → ob_w → Prop} (h : ob_C X y d mc ms As w Q) (hq : ∀ E w', ¬ Q (.inr E) w') : Met X.1 y.1 (ob_ws y) (ob_rm d mc ms) (va_Pc As (ob_wd X w)) (ob_Qc X Q) mc ms (fun q => X.2.2 ≤ q) := by
  intro p e h1 h2 h3 s m args below h4 h5 h6 h7
  obtain ⟨n, o, g1, g2, g3, g4⟩ := h p e h1 h2 h3 s m args below h4 h5 h6 h7
  refine ⟨n, o, g1, g2, g3, ?_⟩
  rcases g4 with g4 | ⟨q, c1, E, ce, L, ⟨⟨w1, c2, c3⟩, c4⟩, c5⟩
  · exact g4
  · exact absurd c2 (hq E w1)
section OBI
variable {X : ob_X} {y : ob_y} {R : Room} {Q : ob_r → ob_w → Prop} {pc : Nat} {lv : List (Nat × Value)} {st : List Value} {w : ob_w} {k n : Nat}
theorem og_callI {idx b d mc ms : Nat} {z : ob_y} {As stk : List Value} {Q2 : ob_r → ob_w → Prop} (hdg : decode y.2.1 pc = .ok (.invokespecial idx, 3)) (hv : ob_mi y.1.cls idx z As.length) (hM : ob_C X z d mc ms (.ref b :: As) w Q2) (hno : ∀ E w', ¬ Q2 (.inr E) w') (hstk : stk = As.reverse ++ .ref b :: st) (hR : d + 1 ≤ R.frames ∧ 8 + (z.2.2.1 + 11) + 60 * d ≤ R.locals) (hk : k + mc ≤ R.cells) (hs : n + ms ≤ R.slots) (hsum : (st.map fun v => v.category).sum ≤ 8)
    (kk : ∀ v w', Q2 (.inl v) w' → ob_G X y R Q (pc + 3) lv (v.toList ++ st) w' (k + mc) (n + ms)) : ob_G X y R Q pc lv stk w k n := by
  intro p e s m args below meth c C H locs ls a1 a2 a3 a4
  obtain ⟨⟨m1, m2, m3, m4⟩, m5, m6, m7, m9, m8⟩ := hv
  have hts := C.2.2.2.2.2.1
  have hK := C.2.2.2.2.2.2.2.2.2.1
  have hwd : ∀ w9 ∈ ob_ws z, w9 ∈ ob_tb := by
    intro w9 h9
    simp only [ob_ws, List.mem_cons] at h9
    rcases h9 with rfl | h9
    · exact m1
    · exact h9
  have hr := va_runI (R := R) (p := p) (l := X.1) (e := e) (s := s) (m := m) (args := args) (below := below) (meth := meth) (c := c) (H := H) (locs := locs) (cells := k) (slots := n) (b := b) (As := As) (rest := st) (g := F0 m pc ls stk) (index := idx) (maxL := z.2.2.1) (bytes := z.2.1) (n := As.length) (Ts := ob_tb) (own := y.1.cls) (cc := y.2.1) (nL := y.2.2.1) ⟨C.1, C.2.1, C.2.2.2.1, C.2.2.2.2.1, hts⟩ (hM.met hno) (cwI As.length hts (ob_gI hwd) (ws' := ob_tb) (by rw [← m9]; rfl) rfl rfl (hts _ m2) (hts _ m5) (hts _ m6) m7 ⟨m3, m4, m8⟩ hR) ⟨ob_wd.blind _, fun U hU hW => ⟨rfl, by rw [hU]; exact a2, a3, by rw [hU]; exact Nat.le_trans C.2.2.2.2.2.2.2.2.2.2 a4.1, hK.warm a4 hU hW⟩⟩ rfl rfl a1.1 hstk (lv_room hsum) hdg ⟨hk, hs⟩
  intro T hT X9
  obtain ⟨v, st₀, t, T', L, h0, X', hL, e1, e2, ⟨⟨v', w', hv, hq, hP, hlo⟩, hF⟩, st9⟩ := hr T hT X9
  cases hv
  obtain ⟨k1, k2, k3⟩ := vx_keep h0 e1 a4 (fun q _ h => h) (fun q h => h) hL hF
  obtain ⟨t2, b1, b2⟩ := kk v w' hq p e s m args below meth c C T'.heap (locs ++ L) ls a1 (by rw [e1]; exact hP) hlo k3 T' rfl X'
  exact ⟨t2, st9 t2 b1, b2⟩
/-- System.arraycopy of byte rows -/
theorem og_copyB {idx a0 a n0 n1 i0 i1 len : Nat} {sp dp m9 : Int32} (hdg : decode y.2.1 pc = .ok (.invokestatic idx, 3)) (hl : Cond.methodLink y.1.cls idx arraycopyName ∈ ob_tb) (h1 : Cond.native arraycopyName ∈ ob_tb) (h2 : Cond.static arraycopyName ∈ ob_tb) (h3 : Cond.initialized "java/lang/System" ∈ ob_tb)
    (ha0 : w.1 a0 = some (7, n0)) (ha : w.1 a = some (7, n1)) (e0 : sp = nI i0) (e1 : dp = nI i1) (e2 : m9 = nI len) (h4 : i0 + len ≤ n0) (h5 : i1 + len ≤ n1) (hb : n0 < 2 ^ 31 ∧ n1 < 2 ^ 31) (hfit : ∀ i, i < len → fits .byte (.int (w.2.2.1 a0 (i0 + i))) = true) (hf : 1 ≤ R.frames) (hlo : (st.map fun v => v.category).sum + (nativeFrameWords "java/lang/System" "arraycopy" 5 + 11) ≤ R.locals)
    (kk : ob_G X y R Q (pc + 3) lv st (w.1, w.2.1, ob_row w.2.2.1 a (va_cpy (w.2.2.1 a0) (w.2.2.1 a) i0 i1 len), w.2.2.2) k n) : ob_G X y R Q pc lv (.int m9 :: .int dp :: .ref a :: .int sp :: .ref a0 :: st) w k n := by
  intro p e s m args below meth c C H locs ls a1 a2 a3 a4
  have hts := C.2.2.2.2.2.1
  have hK := C.2.2.2.2.2.2.2.2.2.1.1
  subst e0; subst e1; subst e2
  have c0 : (nI i0).toNatClampNeg = i0 := nI_clamp (by omega)
  have c1 : (nI i1).toNatClampNeg = i1 := nI_clamp (by omega)
  have c2 : (nI len).toNatClampNeg = len := nI_clamp (by omega)
  have t0 : (nI i0).toInt = (i0 : Int) := nI_toInt (by omega)
  have t1 : (nI i1).toInt = (i1 : Int) := nI_toInt (by omega)
  have t2 : (nI len).toInt = (len : Int) := nI_toInt (by omega)
  intro T hT X9
  have hc0 : H[a0]? = some (arrV (X.2.1.2 0) n0 (fun j => .int (w.2.2.1 a0 j))) := a2 a0 7 n0 ha0
  have hc1 : H[a]? = some (arrV (X.2.1.2 0) n1 (fun j => .int (w.2.2.1 a j))) := a2 a 7 n1 ha
  obtain ⟨-, k0, hk0, cm0, hkk0⟩ := (hK.2 0 _ rfl).1 n0 (fun j => .int (w.2.2.1 a0 j))
  obtain ⟨-, k1, hk1, cm1, hkk1⟩ := (hK.2 0 _ rfl).1 n1 (fun j => .int (w.2.2.1 a j))
  obtain ⟨vm', X', step⟩ := X9.arraycopy C.1 C.2.2.2.2.1 (hts _ hl) (hts _ h1) (hts _ h2) (hts _ h3) (src := a0) (dst := a) (cs := arrV (X.2.1.2 0) n0 (fun j => .int (w.2.2.1 a0 j))) (cd := arrV (X.2.1.2 0) n1 (fun j => .int (w.2.2.1 a j))) (srcPos := nI i0) (destPos := nI i1) (n := nI len) (by rw [hT]; exact hc0) (by rw [hT]; exact hc1)
    (fun _ h => by cases h) (fun _ h => by cases h) (fun h => by cases h) (fun h => by cases h) hk0 hk1 hkk0 hkk1 (by simp [refKind]) (nI_pos (by omega)) (nI_pos (by omega)) (nI_pos (by omega))
    (by rw [t0, t2, arrV_size]; omega) (by rw [t1, t2, arrV_size]; omega)
    (fun vm₁ _ i hi => by
      rw [c2] at hi
      have e9 : (arrV (X.2.1.2 0) n0 (fun j => .int (w.2.2.1 a0 j))).slots.getD ((nI i0).toNatClampNeg + i) .null = .int (w.2.2.1 a0 (i0 + i)) := by
        rw [Array.getD_eq_getD_getElem?, c0, arrV_read _ _ (by omega)]
        rfl
      rw [e9]
      exact ⟨hfit i hi, trivial⟩)
    (g := F0 m pc ls (.int (nI len) :: .int (nI i1) :: .ref a :: .int (nI i0) :: .ref a0 :: st)) rfl (by show ls.size = c.maxLocals; rw [C.2.2.2.1]; exact a1.1) (rest := st) rfl (by rw [C.2.1]; exact hdg) hf (by show 2 * 0 + _ + _ ≤ _; omega)
  have e9 : copied (arrV (X.2.1.2 0) n0 (fun j => .int (w.2.2.1 a0 j))) (arrV (X.2.1.2 0) n1 (fun j => .int (w.2.2.1 a j))) (nI i0) (nI i1) (nI len) = arrV (X.2.1.2 0) n1 (fun j => .int (va_cpy (w.2.2.1 a0) (w.2.2.1 a) i0 i1 len j)) := by
    have h := va_copied (fun z => Value.int z) (X.2.1.2 0) (X.2.1.2 0) (n0 := n0) (n1 := n1) (sp := (nI i0).toNatClampNeg) (dp := (nI i1).toNatClampNeg) (n := (nI len).toNatClampNeg) (w.2.2.1 a0) (w.2.2.1 a) (by rw [c0, c2]; exact h4)
    rw [c0, c1, c2] at h
    show (arrV _ _ _).storeRun (nI i1).toNatClampNeg ((arrV _ _ _).stretch (nI i0).toNatClampNeg (nI len).toNatClampNeg) = _
    rw [c0, c1, c2]
    exact h
  rw [e9] at X' step
  have hl9 : a < H.size := (Array.getElem?_eq_some_iff.mp hc1).1
  generalize hcell : arrV (X.2.1.2 0) n1 (fun j => .int (va_cpy (w.2.2.1 a0) (w.2.2.1 a) i0 i1 len j)) = cell at X' step
  have hheap : ((T.setVm vm').setCell a cell).heap = H.setIfInBounds a cell := by rw [← hT]; rfl
  have oq : ∀ q : Nat, q ≠ a → (H.setIfInBounds a cell)[q]? = H[q]? := fun q hq => by simp [Array.getElem?_setIfInBounds, Ne.symm hq]
  obtain ⟨t, b1, b2⟩ := kk p e s m args below meth c C _ _ ls a1 (ob_P.put (a := a) a2 rfl (fun c9 n9 h9 => by
      cases h9.symm.trans ha
      show (H.setIfInBounds a cell)[a]? = some (arrV _ _ _)
      rw [Array.getElem?_setIfInBounds, if_pos rfl, if_pos hl9, ← hcell]
      simp [ob_row]) oq (fun _ _ => rfl) (fun b hb => by simp [ob_row, hb]) (fun _ _ => rfl)) a3 ⟨by simp; exact a4.1, fun q g1 g2 => by
      rw [oq q (fun e8 => g2 (by rw [e8]; exact a3 a _ ha))]
      exact a4.2.1 q g1 g2, fun q hq => by
      rcases List.mem_append.mp hq with h | h
      · exact a4.2.2 q h
      · obtain ⟨z, -, hz⟩ := List.mem_map.mp h
        rw [← hz]
        exact a3 a _ ha⟩ _ hheap X'
  exact ⟨t, step t b1, b2⟩
/-- what 'throw new E("text")' needs of the tables -/
def ob_th (own : String) (ic : Nat) (cls : String) : Prop := Bundle.fit cls = true ∧ Cond.initialized cls ∈ ob_tb ∧ ∀ w ∈ vx_atS own ic cls ["java/lang/RuntimeException", "java/lang/Exception"], (w ∈ ob_tb ∨ ∃ x ∈ ob_dcl, w = .declares x) ∧ vx_ot w = true
theorem og_throw {ik is ic : Nat} {cls text : String} (hd : decode y.2.1 pc = .ok (.new ik, 3) ∧ decode y.2.1 (pc + 3) = .ok (.dup, 1) ∧ decode y.2.1 (pc + 4) = .ok (.ldc is, 2) ∧ decode y.2.1 (pc + 6) = .ok (.invokespecial ic, 3) ∧ decode y.2.1 (pc + 9) = .ok (.athrow, 1))
    (hown : y.1.cls = RX5) (hl : Cond.classLink y.1.cls ik cls ∈ ob_tb) (hth : ob_th y.1.cls ic cls) (htx : (is, text) ∈ ob_strs) (hh : y.2.2.2.2 = []) (hf : 5 < R.frames) (hlo : (st.map fun v => v.category).sum + 82 ≤ R.locals) (hk : k + 1 ≤ R.cells) (hs : n + 6 ≤ R.slots) (hq : Q (.inr cls) w) : ob_G X y R Q pc lv st w k n := by
  intro p e s m args below meth c C H locs ls a1 a2 a3 a4
  have hts := C.2.2.2.2.2.1
  obtain ⟨hK1, hK2, hK3, hK4, hK5, hK6⟩ := C.2.2.2.2.2.2.2.2.2.1
  obtain ⟨t1, t2, t3⟩ := hth
  obtain ⟨sa, hsa⟩ := hK3 _ htx
  refine vx_throwS (names := ["java/lang/RuntimeException", "java/lang/Exception"]) (own := y.1.cls) (text := text) (sa := sa) C.1 C.2.1 hK2 C.2.2.2.2.1 t1 (by decide) (hts _ hl) (hts _ t2) (by rw [hown]; exact hsa) (fun w9 h9 => ?_) (fun w9 h9 => ?_) hK5 hK6 a4 (by rw [C.2.2.2.1]; exact a1.1) hd.1 hd.2.1 hd.2.2.1 hd.2.2.2.1 hd.2.2.2.2 (ob_notab C hh (pc + 9)) (by simpa using hf) (by simp only [List.length_cons, List.length_nil]; omega) hk hs C.2.2.2.2.2.2.1 (fun t hA hz ho => ⟨⟨w, hq, fun a c9 n9 h9 => (a2 a c9 n9 h9).kept (ho a (a2 a c9 n9 h9).lt), a3⟩, Nat.le_trans a4.1 hz, fun q g1 g2 => (ho q (Nat.lt_of_lt_of_le g1 a4.1)).trans (a4.2.1 q g1 g2)⟩) a4.2.2 hk hs
  · rcases (t3 w9 h9).1 with h | ⟨x, hx, rfl⟩
    · exact hts _ h
    · exact va_Nw.use rfl (hK4 x hx)
  · simp only [List.mem_cons] at h9
    rcases h9 with rfl | rfl | h9
    · simp only [vx_ot, Bool.or_eq_true]; exact Or.inr (List.mem_filter.mp hl).2
    · simp only [vx_ot, Bool.or_eq_true]; exact Or.inr (List.mem_filter.mp t2).2
    · exact (t3 w9 h9).2
end OBI
end
