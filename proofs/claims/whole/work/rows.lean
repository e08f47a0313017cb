section
-- ===== PART A: goes FIRST, ahead of the names: the tables' words, and 'selects' of the private methods out of them =====
/-- a private method of a class that the tables say can be made, by its rows of tables_1 -/
def lw_okq (q : MethodName × Nat) : Prop := (q.1.cls ≠ "java/lang/invoke/MethodHandle" ∧ q.1.cls ≠ "java/lang/invoke/VarHandle") ∧ Cond.instantiable q.1.cls q.2 ∈ tables_1 ∧ Cond.privateMethod q.1 ∈ tables_1 ∧ Cond.instanceMethod q.1 ∈ tables_1
theorem lw_p0 : lw_okq (⟨"OrderedBytes", "blocksMatchEntries", "()Z"⟩, 8) := ⟨⟨by decide +kernel, by decide +kernel⟩, List.mem_of_getElem? (i := 20) (by decide +kernel), List.mem_of_getElem? (i := 210) (by decide +kernel), List.mem_of_getElem? (i := 211) (by decide +kernel)⟩
theorem lw_p1 : lw_okq (⟨"OrderedBytes$Tree", "isLinkedWell", "(LOrderedBytes$Node;)Z"⟩, 3) := ⟨⟨by decide +kernel, by decide +kernel⟩, List.mem_of_getElem? (i := 88) (by decide +kernel), List.mem_of_getElem? (i := 241) (by decide +kernel), List.mem_of_getElem? (i := 242) (by decide +kernel)⟩
theorem lw_p2 : lw_okq (⟨"OrderedBytes$Tree", "isBetween", "(LOrderedBytes$Node;LOrderedBytes$Node;LOrderedBytes$Node;)Z"⟩, 3) := ⟨⟨by decide +kernel, by decide +kernel⟩, List.mem_of_getElem? (i := 88) (by decide +kernel), List.mem_of_getElem? (i := 245) (by decide +kernel), List.mem_of_getElem? (i := 246) (by decide +kernel)⟩
theorem lw_p3 : lw_okq (⟨"OrderedBytes$Heap", "compareBytes", "([BIILOrderedBytes$Node;)I"⟩, 5) := ⟨⟨by decide +kernel, by decide +kernel⟩, List.mem_of_getElem? (i := 37) (by decide +kernel), List.mem_of_getElem? (i := 253) (by decide +kernel), List.mem_of_getElem? (i := 254) (by decide +kernel)⟩
theorem lw_p4 : lw_okq (⟨"java/lang/Throwable", "fillInStackTrace", "(I)Ljava/lang/Throwable;"⟩, 6) := ⟨⟨by decide +kernel, by decide +kernel⟩, List.mem_of_getElem? (i := 308) (by decide +kernel), List.mem_of_getElem? (i := 306) (by decide +kernel), List.mem_of_getElem? (i := 307) (by decide +kernel)⟩
theorem lw_p5 : lw_okq (⟨"OrderedBytes", "readTape", "()I"⟩, 8) := ⟨⟨by decide +kernel, by decide +kernel⟩, List.mem_of_getElem? (i := 20) (by decide +kernel), List.mem_of_getElem? (i := 364) (by decide +kernel), List.mem_of_getElem? (i := 365) (by decide +kernel)⟩
theorem lw_p6 : lw_okq (⟨"OrderedBytes", "isFull", "(LOrderedBytes$Node;I)Z"⟩, 8) := ⟨⟨by decide +kernel, by decide +kernel⟩, List.mem_of_getElem? (i := 20) (by decide +kernel), List.mem_of_getElem? (i := 380) (by decide +kernel), List.mem_of_getElem? (i := 381) (by decide +kernel)⟩
theorem lw_p7 : lw_okq (⟨"OrderedBytes", "newEntry", "(II)LOrderedBytes$Node;"⟩, 8) := ⟨⟨by decide +kernel, by decide +kernel⟩, List.mem_of_getElem? (i := 20) (by decide +kernel), List.mem_of_getElem? (i := 385) (by decide +kernel), List.mem_of_getElem? (i := 386) (by decide +kernel)⟩
theorem lw_p8 : lw_okq (⟨"OrderedBytes$Heap", "firstFit", "(I)LOrderedBytes$Block;"⟩, 5) := ⟨⟨by decide +kernel, by decide +kernel⟩, List.mem_of_getElem? (i := 37) (by decide +kernel), List.mem_of_getElem? (i := 395) (by decide +kernel), List.mem_of_getElem? (i := 396) (by decide +kernel)⟩
theorem lw_p9 : lw_okq (⟨"OrderedBytes$Heap", "grow", "(I)V"⟩, 5) := ⟨⟨by decide +kernel, by decide +kernel⟩, List.mem_of_getElem? (i := 37) (by decide +kernel), List.mem_of_getElem? (i := 402) (by decide +kernel), List.mem_of_getElem? (i := 403) (by decide +kernel)⟩
theorem lw_p10 : lw_okq (⟨"OrderedBytes$Heap", "pushTogether", "()LOrderedBytes$Block;"⟩, 5) := ⟨⟨by decide +kernel, by decide +kernel⟩, List.mem_of_getElem? (i := 37) (by decide +kernel), List.mem_of_getElem? (i := 421) (by decide +kernel), List.mem_of_getElem? (i := 422) (by decide +kernel)⟩
theorem lw_p11 : lw_okq (⟨"OrderedBytes$Heap", "moveTo", "(LOrderedBytes$Block;I)V"⟩, 5) := ⟨⟨by decide +kernel, by decide +kernel⟩, List.mem_of_getElem? (i := 37) (by decide +kernel), List.mem_of_getElem? (i := 425) (by decide +kernel), List.mem_of_getElem? (i := 426) (by decide +kernel)⟩
theorem lw_p12 : lw_okq (⟨"OrderedBytes", "fill", "(LOrderedBytes$Node;I)V"⟩, 8) := ⟨⟨by decide +kernel, by decide +kernel⟩, List.mem_of_getElem? (i := 20) (by decide +kernel), List.mem_of_getElem? (i := 433) (by decide +kernel), List.mem_of_getElem? (i := 434) (by decide +kernel)⟩
theorem lw_p13 : lw_okq (⟨"OrderedBytes$Tree", "mendRedBelowRed", "(LOrderedBytes$Node;)V"⟩, 3) := ⟨⟨by decide +kernel, by decide +kernel⟩, List.mem_of_getElem? (i := 88) (by decide +kernel), List.mem_of_getElem? (i := 453) (by decide +kernel), List.mem_of_getElem? (i := 454) (by decide +kernel)⟩
theorem lw_p14 : lw_okq (⟨"OrderedBytes$Tree", "rotate", "(LOrderedBytes$Node;I)V"⟩, 3) := ⟨⟨by decide +kernel, by decide +kernel⟩, List.mem_of_getElem? (i := 88) (by decide +kernel), List.mem_of_getElem? (i := 461) (by decide +kernel), List.mem_of_getElem? (i := 462) (by decide +kernel)⟩
theorem lw_p15 : lw_okq (⟨"OrderedBytes$Tree", "replace", "(LOrderedBytes$Node;LOrderedBytes$Node;)V"⟩, 3) := ⟨⟨by decide +kernel, by decide +kernel⟩, List.mem_of_getElem? (i := 88) (by decide +kernel), List.mem_of_getElem? (i := 465) (by decide +kernel), List.mem_of_getElem? (i := 466) (by decide +kernel)⟩
def lw_privs_1 : List (MethodName × Nat) := [(⟨"OrderedBytes", "blocksMatchEntries", "()Z"⟩, 8), (⟨"OrderedBytes$Tree", "isLinkedWell", "(LOrderedBytes$Node;)Z"⟩, 3), (⟨"OrderedBytes$Tree", "isBetween", "(LOrderedBytes$Node;LOrderedBytes$Node;LOrderedBytes$Node;)Z"⟩, 3), (⟨"OrderedBytes$Heap", "compareBytes", "([BIILOrderedBytes$Node;)I"⟩, 5), (⟨"java/lang/Throwable", "fillInStackTrace", "(I)Ljava/lang/Throwable;"⟩, 6), (⟨"OrderedBytes", "readTape", "()I"⟩, 8), (⟨"OrderedBytes", "isFull", "(LOrderedBytes$Node;I)Z"⟩, 8), (⟨"OrderedBytes", "newEntry", "(II)LOrderedBytes$Node;"⟩, 8), (⟨"OrderedBytes$Heap", "firstFit", "(I)LOrderedBytes$Block;"⟩, 5), (⟨"OrderedBytes$Heap", "grow", "(I)V"⟩, 5), (⟨"OrderedBytes$Heap", "pushTogether", "()LOrderedBytes$Block;"⟩, 5), (⟨"OrderedBytes$Heap", "moveTo", "(LOrderedBytes$Block;I)V"⟩, 5), (⟨"OrderedBytes", "fill", "(LOrderedBytes$Node;I)V"⟩, 8), (⟨"OrderedBytes$Tree", "mendRedBelowRed", "(LOrderedBytes$Node;)V"⟩, 3), (⟨"OrderedBytes$Tree", "rotate", "(LOrderedBytes$Node;I)V"⟩, 3), (⟨"OrderedBytes$Tree", "replace", "(LOrderedBytes$Node;LOrderedBytes$Node;)V"⟩, 3)]
theorem lw_r1 : ∀ q ∈ lw_privs_1, lw_okq q := List.forall_mem_cons.mpr ⟨lw_p0, List.forall_mem_cons.mpr ⟨lw_p1, List.forall_mem_cons.mpr ⟨lw_p2, List.forall_mem_cons.mpr ⟨lw_p3, List.forall_mem_cons.mpr ⟨lw_p4, List.forall_mem_cons.mpr ⟨lw_p5, List.forall_mem_cons.mpr ⟨lw_p6, List.forall_mem_cons.mpr ⟨lw_p7, List.forall_mem_cons.mpr ⟨lw_p8, List.forall_mem_cons.mpr ⟨lw_p9, List.forall_mem_cons.mpr ⟨lw_p10, List.forall_mem_cons.mpr ⟨lw_p11, List.forall_mem_cons.mpr ⟨lw_p12, List.forall_mem_cons.mpr ⟨lw_p13, List.forall_mem_cons.mpr ⟨lw_p14, List.forall_mem_cons.mpr ⟨lw_p15, fun _ h => absurd h List.not_mem_nil⟩⟩⟩⟩⟩⟩⟩⟩⟩⟩⟩⟩⟩⟩⟩⟩
theorem lw_p16 : lw_okq (⟨"OrderedBytes", "changeValue", "(LOrderedBytes$Node;I)V"⟩, 8) := ⟨⟨by decide +kernel, by decide +kernel⟩, List.mem_of_getElem? (i := 20) (by decide +kernel), List.mem_of_getElem? (i := 469) (by decide +kernel), List.mem_of_getElem? (i := 470) (by decide +kernel)⟩
theorem lw_p17 : lw_okq (⟨"OrderedBytes", "readKey", "()I"⟩, 8) := ⟨⟨by decide +kernel, by decide +kernel⟩, List.mem_of_getElem? (i := 20) (by decide +kernel), List.mem_of_getElem? (i := 485) (by decide +kernel), List.mem_of_getElem? (i := 486) (by decide +kernel)⟩
theorem lw_p18 : lw_okq (⟨"OrderedBytes", "showValue", "(LOrderedBytes$Node;)I"⟩, 8) := ⟨⟨by decide +kernel, by decide +kernel⟩, List.mem_of_getElem? (i := 20) (by decide +kernel), List.mem_of_getElem? (i := 506) (by decide +kernel), List.mem_of_getElem? (i := 507) (by decide +kernel)⟩
theorem lw_p19 : lw_okq (⟨"OrderedBytes", "drop", "(LOrderedBytes$Node;)V"⟩, 8) := ⟨⟨by decide +kernel, by decide +kernel⟩, List.mem_of_getElem? (i := 20) (by decide +kernel), List.mem_of_getElem? (i := 521) (by decide +kernel), List.mem_of_getElem? (i := 522) (by decide +kernel)⟩
theorem lw_p20 : lw_okq (⟨"OrderedBytes$Tree", "least", "(LOrderedBytes$Node;)LOrderedBytes$Node;"⟩, 3) := ⟨⟨by decide +kernel, by decide +kernel⟩, List.mem_of_getElem? (i := 88) (by decide +kernel), List.mem_of_getElem? (i := 529) (by decide +kernel), List.mem_of_getElem? (i := 530) (by decide +kernel)⟩
theorem lw_p21 : lw_okq (⟨"OrderedBytes$Tree", "takeOver", "(LOrderedBytes$Node;LOrderedBytes$Node;)V"⟩, 3) := ⟨⟨by decide +kernel, by decide +kernel⟩, List.mem_of_getElem? (i := 88) (by decide +kernel), List.mem_of_getElem? (i := 533) (by decide +kernel), List.mem_of_getElem? (i := 534) (by decide +kernel)⟩
theorem lw_p22 : lw_okq (⟨"OrderedBytes$Tree", "mendMissingBlack", "(LOrderedBytes$Node;)V"⟩, 3) := ⟨⟨by decide +kernel, by decide +kernel⟩, List.mem_of_getElem? (i := 88) (by decide +kernel), List.mem_of_getElem? (i := 537) (by decide +kernel), List.mem_of_getElem? (i := 538) (by decide +kernel)⟩
theorem lw_p23 : lw_okq (⟨"OrderedBytes$Tree", "giveBlackFrom", "(LOrderedBytes$Node;LOrderedBytes$Node;I)V"⟩, 3) := ⟨⟨by decide +kernel, by decide +kernel⟩, List.mem_of_getElem? (i := 88) (by decide +kernel), List.mem_of_getElem? (i := 541) (by decide +kernel), List.mem_of_getElem? (i := 542) (by decide +kernel)⟩
theorem lw_p24 : lw_okq (⟨"OrderedBytes", "goTo", "(LOrderedBytes$Node;)I"⟩, 8) := ⟨⟨by decide +kernel, by decide +kernel⟩, List.mem_of_getElem? (i := 20) (by decide +kernel), List.mem_of_getElem? (i := 558) (by decide +kernel), List.mem_of_getElem? (i := 559) (by decide +kernel)⟩
theorem lw_p25 : lw_okq (⟨"OrderedBytes", "currentPlace", "()I"⟩, 8) := ⟨⟨by decide +kernel, by decide +kernel⟩, List.mem_of_getElem? (i := 20) (by decide +kernel), List.mem_of_getElem? (i := 593) (by decide +kernel), List.mem_of_getElem? (i := 594) (by decide +kernel)⟩
theorem lw_p26 : lw_okq (⟨"OrderedBytesModel", "fail", "(I)I"⟩, 13) := ⟨⟨by decide +kernel, by decide +kernel⟩, List.mem_of_getElem? (i := 637) (by decide +kernel), List.mem_of_getElem? (i := 696) (by decide +kernel), List.mem_of_getElem? (i := 697) (by decide +kernel)⟩
theorem lw_p27 : lw_okq (⟨"OrderedBytesModel", "taken", "()I"⟩, 13) := ⟨⟨by decide +kernel, by decide +kernel⟩, List.mem_of_getElem? (i := 637) (by decide +kernel), List.mem_of_getElem? (i := 705) (by decide +kernel), List.mem_of_getElem? (i := 706) (by decide +kernel)⟩
theorem lw_p28 : lw_okq (⟨"OrderedBytesModel", "find", "(I)I"⟩, 13) := ⟨⟨by decide +kernel, by decide +kernel⟩, List.mem_of_getElem? (i := 637) (by decide +kernel), List.mem_of_getElem? (i := 709) (by decide +kernel), List.mem_of_getElem? (i := 710) (by decide +kernel)⟩
theorem lw_p29 : lw_okq (⟨"OrderedBytesModel", "below", "(IZ)I"⟩, 13) := ⟨⟨by decide +kernel, by decide +kernel⟩, List.mem_of_getElem? (i := 637) (by decide +kernel), List.mem_of_getElem? (i := 713) (by decide +kernel), List.mem_of_getElem? (i := 714) (by decide +kernel)⟩
theorem lw_p30 : lw_okq (⟨"OrderedBytesModel", "compare", "(III)I"⟩, 13) := ⟨⟨by decide +kernel, by decide +kernel⟩, List.mem_of_getElem? (i := 637) (by decide +kernel), List.mem_of_getElem? (i := 717) (by decide +kernel), List.mem_of_getElem? (i := 718) (by decide +kernel)⟩
theorem lw_p31 : lw_okq (⟨"OrderedBytesModel", "start", "(I)I"⟩, 13) := ⟨⟨by decide +kernel, by decide +kernel⟩, List.mem_of_getElem? (i := 637) (by decide +kernel), List.mem_of_getElem? (i := 721) (by decide +kernel), List.mem_of_getElem? (i := 722) (by decide +kernel)⟩
def lw_privs_2 : List (MethodName × Nat) := [(⟨"OrderedBytes", "changeValue", "(LOrderedBytes$Node;I)V"⟩, 8), (⟨"OrderedBytes", "readKey", "()I"⟩, 8), (⟨"OrderedBytes", "showValue", "(LOrderedBytes$Node;)I"⟩, 8), (⟨"OrderedBytes", "drop", "(LOrderedBytes$Node;)V"⟩, 8), (⟨"OrderedBytes$Tree", "least", "(LOrderedBytes$Node;)LOrderedBytes$Node;"⟩, 3), (⟨"OrderedBytes$Tree", "takeOver", "(LOrderedBytes$Node;LOrderedBytes$Node;)V"⟩, 3), (⟨"OrderedBytes$Tree", "mendMissingBlack", "(LOrderedBytes$Node;)V"⟩, 3), (⟨"OrderedBytes$Tree", "giveBlackFrom", "(LOrderedBytes$Node;LOrderedBytes$Node;I)V"⟩, 3), (⟨"OrderedBytes", "goTo", "(LOrderedBytes$Node;)I"⟩, 8), (⟨"OrderedBytes", "currentPlace", "()I"⟩, 8), (⟨"OrderedBytesModel", "fail", "(I)I"⟩, 13), (⟨"OrderedBytesModel", "taken", "()I"⟩, 13), (⟨"OrderedBytesModel", "find", "(I)I"⟩, 13), (⟨"OrderedBytesModel", "below", "(IZ)I"⟩, 13), (⟨"OrderedBytesModel", "compare", "(III)I"⟩, 13), (⟨"OrderedBytesModel", "start", "(I)I"⟩, 13)]
theorem lw_r2 : ∀ q ∈ lw_privs_2, lw_okq q := List.forall_mem_cons.mpr ⟨lw_p16, List.forall_mem_cons.mpr ⟨lw_p17, List.forall_mem_cons.mpr ⟨lw_p18, List.forall_mem_cons.mpr ⟨lw_p19, List.forall_mem_cons.mpr ⟨lw_p20, List.forall_mem_cons.mpr ⟨lw_p21, List.forall_mem_cons.mpr ⟨lw_p22, List.forall_mem_cons.mpr ⟨lw_p23, List.forall_mem_cons.mpr ⟨lw_p24, List.forall_mem_cons.mpr ⟨lw_p25, List.forall_mem_cons.mpr ⟨lw_p26, List.forall_mem_cons.mpr ⟨lw_p27, List.forall_mem_cons.mpr ⟨lw_p28, List.forall_mem_cons.mpr ⟨lw_p29, List.forall_mem_cons.mpr ⟨lw_p30, List.forall_mem_cons.mpr ⟨lw_p31, fun _ h => absurd h List.not_mem_nil⟩⟩⟩⟩⟩⟩⟩⟩⟩⟩⟩⟩⟩⟩⟩⟩
theorem lw_p32 : lw_okq (⟨"OrderedBytesModel", "used", "()I"⟩, 13) := ⟨⟨by decide +kernel, by decide +kernel⟩, List.mem_of_getElem? (i := 637) (by decide +kernel), List.mem_of_getElem? (i := 728) (by decide +kernel), List.mem_of_getElem? (i := 729) (by decide +kernel)⟩
theorem lw_p33 : lw_okq (⟨"OrderedBytesModel", "take", "(I)V"⟩, 13) := ⟨⟨by decide +kernel, by decide +kernel⟩, List.mem_of_getElem? (i := 637) (by decide +kernel), List.mem_of_getElem? (i := 732) (by decide +kernel), List.mem_of_getElem? (i := 733) (by decide +kernel)⟩
theorem lw_p34 : lw_okq (⟨"OrderedBytesModel", "move", "(II)V"⟩, 13) := ⟨⟨by decide +kernel, by decide +kernel⟩, List.mem_of_getElem? (i := 637) (by decide +kernel), List.mem_of_getElem? (i := 736) (by decide +kernel), List.mem_of_getElem? (i := 737) (by decide +kernel)⟩
theorem lw_p35 : lw_okq (⟨"OrderedBytesModel", "insert", "(III)V"⟩, 13) := ⟨⟨by decide +kernel, by decide +kernel⟩, List.mem_of_getElem? (i := 637) (by decide +kernel), List.mem_of_getElem? (i := 740) (by decide +kernel), List.mem_of_getElem? (i := 741) (by decide +kernel)⟩
theorem lw_p36 : lw_okq (⟨"OrderedBytesModel", "told", "(IZ)I"⟩, 13) := ⟨⟨by decide +kernel, by decide +kernel⟩, List.mem_of_getElem? (i := 637) (by decide +kernel), List.mem_of_getElem? (i := 748) (by decide +kernel), List.mem_of_getElem? (i := 749) (by decide +kernel)⟩
def lw_privs_3 : List (MethodName × Nat) := [(⟨"OrderedBytesModel", "used", "()I"⟩, 13), (⟨"OrderedBytesModel", "take", "(I)V"⟩, 13), (⟨"OrderedBytesModel", "move", "(II)V"⟩, 13), (⟨"OrderedBytesModel", "insert", "(III)V"⟩, 13), (⟨"OrderedBytesModel", "told", "(IZ)I"⟩, 13)]
theorem lw_r3 : ∀ q ∈ lw_privs_3, lw_okq q := List.forall_mem_cons.mpr ⟨lw_p32, List.forall_mem_cons.mpr ⟨lw_p33, List.forall_mem_cons.mpr ⟨lw_p34, List.forall_mem_cons.mpr ⟨lw_p35, List.forall_mem_cons.mpr ⟨lw_p36, fun _ h => absurd h List.not_mem_nil⟩⟩⟩⟩⟩
def lw_privs : List (MethodName × Nat) := lw_privs_1 ++ (lw_privs_2 ++ (lw_privs_3))
def lw_tbl : List Cond := k2_sels lw_privs ++ tables_1
theorem lw_privs_ok : ∀ q ∈ lw_privs, lw_okq q := by
  show ∀ q ∈ lw_privs_1 ++ (lw_privs_2 ++ (lw_privs_3)), lw_okq q
  exact List.forall_mem_append.mpr ⟨lw_r1, List.forall_mem_append.mpr ⟨lw_r2, lw_r3⟩⟩
-- ===== end of PART A; then your names; then what follows =====
end
section
/-! ===== BEGIN words of one list among another's, by their places ===== -/
theorem goodIn_r {big : List Cond} (ws : List Cond) (ps : List Nat) (hp : ws = ps.filterMap (fun i => big[i]?)) (h : ws.all goodWord = true) : GoodIn big ws := by
  intro w hw
  have h1 := List.all_eq_true.mp h w hw
  rw [hp] at hw
  obtain ⟨i, -, hi⟩ := List.mem_filterMap.mp hw
  have hm : w ∈ big := by first | exact List.mem_of_getElem? hi | exact List.getElem?_mem hi
  exact ⟨hm, good_of_word h1⟩
theorem goodIn_app {big a b : List Cond} (ha : GoodIn big a) (hb : GoodIn big b) : GoodIn big (a ++ b) := fun w h => (List.mem_append.mp h).elim (ha w) (hb w)
theorem goodIn_ca {big a b : List Cond} {c : Cond} (ha : GoodIn big (c :: a)) (hb : GoodIn big b) : GoodIn big (c :: (a ++ b)) := fun w h => (List.mem_cons.mp h).elim (fun e => ha w (List.mem_cons.mpr (Or.inl e))) (fun h => (List.mem_append.mp h).elim (fun h => ha w (List.mem_cons.mpr (Or.inr h))) (hb w))
theorem goodIn_sub {big ws : List Cond} (hm : ∀ w ∈ ws, w ∈ big) (h : ws.all goodWord = true) : GoodIn big ws := fun w hw => ⟨hm w hw, good_of_word (List.all_eq_true.mp h w hw)⟩
/-! ===== END ===== -/

/-! ===== BEGIN exceptions that leave a method, and their catching by the caller (launches without stack traces) ===== -/
/-! ===== own rows: the search for a handler through rows of the table whose classes may not have been resolved yet (the library's laws of this lie in a shelf that the rounds do not have) ===== -/
section OBC
variable {e : Env}
def ob_Finds (e : Env) (s : State) (f : JFrame) (a : Addr) (h : Handler) (vm' : Vm) : Prop :=
  ∀ (Q : Handler → Pre) (E : CtlPost) (d : Bool) (acts : List Action), wp (findHandler f a) Q E e d acts s ↔ Q h d acts (s.setVm vm')
theorem ob_go_one {Q : Handler → Pre} {E : CtlPost} {d : Bool} {acts : List Action} {s : State} {f : JFrame} {a : Addr} {x : ExceptionTableEntry} {t : List ExceptionTableEntry} {c : ClassId} {cell : Cell} (hx : covers x f.pc = true) (h0 : x.catchType ≠ 0)
    (hl : s.vm.ClassLinks e.platform f.method.cls x.catchType c) (hcell : s.heap[a]? = some cell) (hobj : ∀ k, cell.vm ≠ .statics k) (hk : ∃ k, s.vm.classes[cell.cls]? = some k) (hc : ∃ k, s.vm.classes[c]? = some k) :
    wp (findHandler.go f a (x :: t)) Q E e d acts s ↔ if s.vm.assignable cell.cls c = true then Q (.found x.handlerPc) d acts (s.setVm (s.vm.noted f.method.cls x.catchType (.cls c))) else wp (findHandler.go f a t) Q E e d acts (s.setVm (s.vm.noted f.method.cls x.catchType (.cls c))) := by
  simp only [covers] at hx
  obtain ⟨ha, ht⟩ := (resolveClass_links e.toSetting hl).op (op := VmOp.resolveClass f.method.cls x.catchType) rfl
  have hal : s.vm.Alike (s.vm.noted f.method.cls x.catchType (.cls c)) := (Vm.Alike.refl s.vm).noted _ _ _
  obtain ⟨k1, hk1⟩ := hk
  obtain ⟨k2, hk2⟩ := hc
  obtain ⟨k1', hk1', -⟩ := hal.2.2 _ _ hk1
  obtain ⟨k2', hk2', -⟩ := hal.2.2 _ _ hk2
  have hfit := hal.assignable cell.cls c
  cases hz : s.vm.assignable cell.cls c with
  | true =>
    rw [hz] at hfit
    simp [findHandler.go, hx, h0, ha, ht, hcell, hobj, hk1', hk2', hfit, VmOp.dirties, VmOp.acts]
  | false =>
    rw [hz] at hfit
    simp [findHandler.go, hx, h0, ha, ht, hcell, hobj, hk1', hk2', hfit, VmOp.dirties, VmOp.acts]
theorem ob_go_all {s₀ : State} {f : JFrame} {a : Addr} {cell : Cell} (hobj : ∀ k, cell.vm ≠ .statics k) (hk0 : ∃ k, s₀.vm.classes[cell.cls]? = some k) (x : ExceptionTableEntry) (rest : List ExceptionTableEntry) (hx : covers x f.pc = true)
    (h0 : x.catchType ≠ 0) {cx : ClassId} (hlx : s₀.vm.ClassLinks e.platform f.method.cls x.catchType cx) (hfx : s₀.vm.assignable cell.cls cx = true) :
    ∀ (pre : List ExceptionTableEntry) (S : State), s₀.WarmedH S.vm → S.heap[a]? = some cell → (∀ y ∈ pre, covers y f.pc = false ∨ (y.catchType ≠ 0 ∧ ∃ c, s₀.vm.ClassLinks e.platform f.method.cls y.catchType c ∧ s₀.vm.assignable cell.cls c = false)) →
      ∃ vm', s₀.WarmedH vm' ∧ ∀ (Q : Handler → Pre) (E : CtlPost) (d : Bool) (acts : List Action), wp (findHandler.go f a (pre ++ x :: rest)) Q E e d acts S ↔ Q (.found x.handlerPc) d acts (S.setVm vm') := by
  obtain ⟨k0, hk0⟩ := hk0
  intro pre
  induction pre with
  | nil =>
    intro S hW hcell _
    obtain ⟨k0', hk0', -⟩ := hW.alike.2.2 _ _ hk0
    obtain ⟨dk, _, _, kt, hd, _, _, _, _, hkt, _, hopen⟩ := hlx.here
    obtain ⟨kt', hkt', -⟩ := hW.alike.2.2 _ _ hkt
    refine ⟨_, hW.noted hd hopen (State.rightAt_cls hlx), fun Q E d acts => ?_⟩
    rw [List.nil_append, ob_go_one hx h0 (hW.classLinks hlx) hcell hobj ⟨k0', hk0'⟩ ⟨kt', hkt'⟩, if_pos (by rw [hW.alike.assignable]; exact hfx)]
  | cons y ys ih =>
    intro S hW hcell hpass
    obtain ⟨k0', hk0', -⟩ := hW.alike.2.2 _ _ hk0
    have hr := fun z hz => hpass z (List.mem_cons_of_mem _ hz)
    by_cases hcov : covers y f.pc = true
    · rcases hpass y (List.mem_cons_self ..) with h | ⟨hy0, c, hl, hno⟩
      · rw [h] at hcov; cases hcov
      · obtain ⟨dk, _, _, kt, hd, _, _, _, _, hkt, _, hopen⟩ := hl.here
        obtain ⟨kt', hkt', -⟩ := hW.alike.2.2 _ _ hkt
        obtain ⟨vm', hW', hq⟩ := ih (S.setVm (S.vm.noted f.method.cls y.catchType (.cls c))) (hW.noted hd hopen (State.rightAt_cls hl)) hcell hr
        refine ⟨vm', hW', fun Q E d acts => ?_⟩
        rw [List.cons_append, ob_go_one hcov hy0 (hW.classLinks hl) hcell hobj ⟨k0', hk0'⟩ ⟨kt', hkt'⟩, if_neg (by rw [hW.alike.assignable, hno]; decide)]
        exact hq Q E d acts
    · obtain ⟨vm', hW', hq⟩ := ih S hW hcell hr
      refine ⟨vm', hW', fun Q E d acts => ?_⟩
      rw [List.cons_append, Jvm.W.findHandler_go_skip (by simpa using hcov)]
      exact hq Q E d acts
theorem ob_caught {tb : Tables} {s target : State} {g : JFrame} {c : Code} {below : List Frame} {a : Addr} (h : At s g.method c below) {pc : Nat} {vm' : Vm}
    (hfind : ob_Finds e ((s.setTop g).pushFrame (.throwing a)) g a (.found pc) vm') (hrest : Steps tb e below ((s.setVm vm').setTop { g with pc := pc, stack := [.ref a] }) target) :
    Steps tb e below ((s.setTop g).pushFrame (.throwing a)) target := by
  obtain ⟨hgo, hw⟩ := h.throwing a
  have hstep : ∀ (S : State) (r : List Frame), ob_Finds e S g a (.found pc) vm' → (stepThrowing e S a (.java g :: r)).1 = (S.setVm vm').setFrames (.java { g with pc := pc, stack := [.ref a] } :: r) := by
    intro S r hf
    simp only [stepThrowing, searchFrame, vmDo]
    generalize hr : Sem.go _ e false [] S = res
    obtain ⟨as, rfl, ha⟩ := Sem.eq_ok_of hr (a := Handler.found pc) (s' := S.setVm vm') (acts' := []) (by simp [hf _ _ _ _])
    rfl
  refine Steps.head hgo hw ?_
  rw [stepThread_throwing (frames_entered h.top _), hstep _ _ hfind]
  obtain ⟨g₀, hg⟩ := Option.isSome_iff_exists.mp h.top
  obtain ⟨r, hr⟩ := State.topJava?_eq_some.mp hg
  have hr' : (s.setVm vm').frames = .java g₀ :: r := hr
  have ht : ∀ (u : State) (F G : List Frame), ((u.setFrames F).setVm vm').setFrames G = (u.setVm vm').setFrames G := by
    intro u F G
    rw [show (u.setFrames F).setVm vm' = (u.setVm vm').setFrames F from rfl, State.setFrames_setFrames]
  rw [State.setTop_of_frames _ hr'] at hrest
  rw [hr, List.tail_cons, State.pushFrame, ht, State.setTop_of_frames _ hr, ht]
  exact hrest
end OBC
section VXA
/-! The laws vx_back, vx_callV, vx_callS, vx_callSW, vx_throw0, vx_throwS follow proofs of the library, with one case more: JvmDerived/Free/Laws.lean (Back.of_free), Shelf42/LK1.lean (callV, callS), Shelf/KitTraced.lean (throwNew0V, throwNewS). -/
/-- where a method has thrown q: the class by its name, the cell, what was written, the world -/
def vx_T (XC : String → State → State → Prop) (st : State) (q : Addr) (t : State) (mc ms : Nat) (free : Addr → Prop) : Prop :=
  ∃ (E : String) (ce : Cell) (L : List Loc), XC E st t ∧ t.heap[q]? = some ce ∧ ce.vm = .none ∧ st.vm.findClass E = some ce.cls ∧ st.WarmedH t.vm ∧ st.sameButNew ({ t with vm := st.vm } : State) L mc ms ∧ ∀ z ∈ L, free z.base
def vx_Q (Qc : Array Value → State → Outcome → State → Prop) (XC : String → State → State → Prop) (mc ms : Nat) (free : Addr → Prop) : Array Value → State → Outcome → State → Prop := fun a st o t =>
  (Qc a st o t ∧ ∃ L, FrameEnd st o t L mc ms ∧ ∀ q ∈ L, free q.base) ∨ ∃ q, o = .threw q ∧ vx_T XC st q t mc ms free
/-- a callee that returns or throws -/
def vx_Met (l : Launch) (y : MethodName) (ws : List Cond) (rm : Room) (Pc : Array Value → State → Prop) (Qc : Array Value → State → Outcome → State → Prop) (XC : String → State → State → Prop) (mc ms : Nat) (free : Addr → Prop) : Prop :=
  MetFree l y (headSpec ws rm) Pc (fun _ _ _ _ _ => True) (vx_Q Qc XC mc ms free)
def vx_Post (XC : String → State → State → Prop) (mc ms : Nat) (free : Addr → Prop) : Pt → Array Value → Addr → Pt → Prop := fun A a q B =>
  ∃ (g : JFrame) (mk : MethodId) (t : State) (L : List Loc) (E : String) (ce : Cell), B.U.heap = t.heap ∧ B.U.vm = t.vm ∧ XC E (A.U.calling g mk a) t ∧ t.heap[q]? = some ce ∧ ce.vm = .none ∧ A.U.vm.findClass E = some ce.cls ∧ B.locs = A.locs ++ L ∧ (∀ z ∈ L, free z.base) ∧ B.cells = A.cells + mc ∧ B.slots = A.slots + ms
def vx_Back (l : Launch) (R : Room) (p : Program) (e : Env) (below : List Frame) (s : State) (sargs : Array Value) (y : MethodName) (len W9 : Nat)
    (Pre : Pt → Array Value → Prop) (Post : Pt → Array Value → Option Value → Pt → Prop) (PostX : Pt → Array Value → Addr → Pt → Prop) : Prop :=
  ∀ (m : MethodId) (meth : Method) (c : Code) (A : Pt) (g : JFrame) (ig : Instr) (mk : MethodId) (a : Array Value),
    Stand p l e R s m sargs below meth c A.U A.locs A.cells A.slots → g.method = m → g.locals.size = c.maxLocals → decode c.code g.pc = .ok (ig, len) →
    2 * g.monitorRoom + (g.stack.map fun v => v.category).sum ≤ W9 → A.U.methodNamed? y = some mk → Pre A a →
    (∃ (v : Option Value) (B : Pt), Stand p l e R s m sargs below meth c B.U B.locs B.cells B.slots ∧ Post A a v B ∧
      Steps p.tables e below (doInvoke e (A.U.setTop g) [] mk a).1 (B.U.setTop { g with pc := g.pc + len, stack := v.toList ++ g.stack })) ∨
    (∃ (q : Addr) (B : Pt), Stand p l e R s m sargs below meth c B.U B.locs B.cells B.slots ∧ PostX A a q B ∧
      Steps p.tables e below (doInvoke e (A.U.setTop g) [] mk a).1 ((B.U.setTop g).pushFrame (.throwing q)))
section Payer
variable {l : Launch} {R : Room} {p : Program} {e : Env} {below : List Frame} {s : State} {sargs : Array Value} {y : MethodName} {len W9 : Nat}
theorem vx_back {ws : List Cond} {rm : Room} {Pc : Array Value → State → Prop} {Qc : Array Value → State → Outcome → State → Prop} {XC : String → State → State → Prop} {mc ms : Nat} {free : Addr → Prop} {bytes : ByteArray} {maxL : Nat} {ret : Option FieldType}
    (hM : vx_Met l y ws rm Pc Qc XC mc ms free) (hblind : FrameBlind Pc) (hrc : rm.cells = mc) (hrs : rm.slots = ms)
    (hframes : rm.frames + 1 ≤ R.frames) (hlocals : W9 + (maxL + 11) + rm.locals ≤ R.locals)
    (hws : ∀ w ∈ ws, ∀ a' U, s.WarmedH U.vm → w.before a' U = true) (hcode : Cond.code y bytes maxL ret ∈ ws) (hinit : ∀ a' U, s.WarmedH U.vm → (Cond.initialized y.cls).before a' U = true) :
    vx_Back l R p e below s sargs y len W9 (PreOf R mc ms Pc) (PostOf Qc mc ms free) (vx_Post XC mc ms free) := by
  intro m meth c A g ig mk a X hg hsize hdg hW hn hp
  have h1 : (headSpec ws rm).pre.before a A.U = true := atoms_intro fun w hw => hws w hw _ _ X.warmed
  have h2 : (Cond.code y bytes maxL ret).before a A.U = true := hws _ hcode _ _ X.warmed
  have h3 : (Cond.initialized y.cls).before a A.U = true := hinit _ _ X.warmed
  have h4 : A.cells + (headSpec ws rm).room.cells ≤ R.cells := by rw [show (headSpec ws rm).room.cells = mc from hrc]; exact hp.1
  have h5 : A.slots + (headSpec ws rm).room.slots ≤ R.slots := by rw [show (headSpec ws rm).room.slots = ms from hrs]; exact hp.2.1
  have hPc : Pc a (A.U.calling g mk a) := hblind _ _ _ _ hp.2.2
  obtain ⟨U, Ls, c0, s0⟩ := A
  dsimp only [Pt.U, Pt.locs, Pt.cells, Pt.slots] at h1 h2 h3 h4 h5 X hn hPc ⊢
  obtain ⟨methY, cY, hmY, hcY, -, hlY, -, -, -, -⟩ := Cond.code_spec hn h2
  obtain ⟨kY, hkY, -⟩ := className_of_methodNamed hn
  have hinitY : kY.init = .initialized := Cond.initialized_spec (findClass_of_methodNamed hn) hkY h3
  have h : At U g.method c below := by rw [hg]; exact X.here
  have hlocals9 : W9 + (maxL + 11) + (headSpec ws rm).room.locals ≤ R.locals := hlocals
  have happ : (headSpec ws rm).appliesLoose y e.platform (U.calling g mk a) = true :=
    Spec.appliesLoose_calling (g := g) h hdg hn hkY hinitY
      (X.room_calling (g := g) (R' := (headSpec ws rm).room) hsize hmY hcY hframes (by rw [hlY]; omega) h4 h5) h1
  obtain ⟨mid, hmid⟩ := h.above
  have hfr : (U.setTop g).frames = (.java g :: mid) ++ below := by rw [State.frames_setTop' g h.top, hmid]; rfl
  obtain ⟨o, s₂, hsteps, -, hend, hq⟩ := Steps.callFree hM p X.admits X.cas X.clock (acts := []) hfr happ hPc trivial
  have hq' : vx_Q Qc XC mc ms free a (U.calling g mk a) o s₂ := hq
  rw [State.frames_setTop' g h.top] at hend
  obtain ⟨g₀, hg0⟩ := Option.isSome_iff_exists.mp h.top
  obtain ⟨r, hr⟩ := State.topJava?_eq_some.mp hg0
  have hr' : (({ U with heap := s₂.heap, slotsUsed := s₂.slotsUsed } : State).setVm s₂.vm).frames = .java g₀ :: r := hr
  rcases hq' with ⟨hqc, L, hfe, hL⟩ | ⟨q, rfl, E, ce, L, hx, hce, hcv, hcl, hW₂, hsm, hL⟩
  · obtain ⟨⟨v, rfl⟩, hW₂, e2, q2, q3, q4, q5, q6⟩ := id hfe
    have e3 : s₂ = ({ (U.calling g mk a).setFrames s₂.frames with heap := s₂.heap, slotsUsed := s₂.slotsUsed } : State).setVm s₂.vm := by
      have : s₂ = ({ s₂ with vm := (U.calling g mk a).vm } : State).setVm s₂.vm := rfl
      rw [e2] at this
      exact this
    obtain ⟨c₂, i₂, len₂, hc₂, hd₂, hf₂⟩ := hend
    have hW' : U.WarmedH s₂.vm := hW₂
    have hcc : c₂ = c := by
      have h1 : s₂.code? g.method = U.code? g.method := by
        rw [State.code?_eq, State.code?_eq, hW'.alike.method?]
      exact Option.some.inj (hc₂.symm.trans (h1.trans h.code))
    subst hcc
    have hlen : len₂ = len := by rw [hdg] at hd₂; cases hd₂; rfl
    subst hlen
    have hs₂ : s₂ = (({ U with heap := s₂.heap, slotsUsed := s₂.slotsUsed } : State).setVm s₂.vm).setTop { g with pc := g.pc + len₂, stack := v.toList ++ g.stack } := by
      refine e3.trans ?_
      rw [hf₂, State.calling_eq h.top, State.setFrames_setFrames, State.setTop_of_frames _ hr', hr]
      rfl
    have hsame : U.sameButNew ({ U with heap := s₂.heap, slotsUsed := s₂.slotsUsed } : State) L mc ms := by
      refine ⟨?_, q2, q3, q4, q5, q6⟩
      obtain ⟨t, ht, -⟩ := State.frames_cons hr
      show ({ U with heap := s₂.heap, slotsUsed := s₂.slotsUsed } : State) = { U.setFrames U.frames with heap := s₂.heap, slotsUsed := s₂.slotsUsed }
      rw [State.setFrames_self ht]
    subst hg
    refine Or.inl ⟨v, ⟨(({ U with heap := s₂.heap, slotsUsed := s₂.slotsUsed } : State).setVm s₂.vm), Ls ++ L, c0 + mc, s0 + ms⟩,
      ⟨X.admits, X.cas, X.clock, X.frames, X.room, X.hears, X.method, X.code, (X.here.setHeapUsed s₂.heap s₂.slotsUsed).setVm hW'.alike, X.tail, State.WarmedH.trans X.warmed hW', X.limits, X.bytes, X.same.trans (hsame.setVm s.vm)⟩,
      ⟨g, mk, s₂, L, rfl, rfl, hqc, rfl, hL, rfl, rfl⟩, ?_⟩
    show Steps p.tables e below _ ((({ U with heap := s₂.heap, slotsUsed := s₂.slotsUsed } : State).setVm s₂.vm).setTop { g with pc := g.pc + len₂, stack := v.toList ++ g.stack })
    rw [← hs₂]
    exact hsteps
  · obtain ⟨e2, q2, q3, q4, q5, q6⟩ := id hsm
    have e3 : s₂ = ({ (U.calling g mk a).setFrames s₂.frames with heap := s₂.heap, slotsUsed := s₂.slotsUsed } : State).setVm s₂.vm := by
      have : s₂ = ({ s₂ with vm := (U.calling g mk a).vm } : State).setVm s₂.vm := rfl
      rw [e2] at this
      exact this
    have hf₂ : s₂.frames = .throwing q :: .java g :: U.frames.tail := hend
    have hW' : U.WarmedH s₂.vm := hW₂
    have hs₂ : s₂ = ((({ U with heap := s₂.heap, slotsUsed := s₂.slotsUsed } : State).setVm s₂.vm).setTop g).pushFrame (.throwing q) := by
      refine e3.trans ?_
      rw [hf₂, State.calling_eq h.top, State.setFrames_setFrames, State.pushFrame, State.frames_setTop _ hr', State.setTop_of_frames _ hr', State.setFrames_setFrames, hr]
      rfl
    have hsame : U.sameButNew ({ U with heap := s₂.heap, slotsUsed := s₂.slotsUsed } : State) L mc ms := by
      refine ⟨?_, q2, q3, q4, q5, q6⟩
      obtain ⟨t, ht, -⟩ := State.frames_cons hr
      show ({ U with heap := s₂.heap, slotsUsed := s₂.slotsUsed } : State) = { U.setFrames U.frames with heap := s₂.heap, slotsUsed := s₂.slotsUsed }
      rw [State.setFrames_self ht]
    subst hg
    refine Or.inr ⟨q, ⟨(({ U with heap := s₂.heap, slotsUsed := s₂.slotsUsed } : State).setVm s₂.vm), Ls ++ L, c0 + mc, s0 + ms⟩,
      ⟨X.admits, X.cas, X.clock, X.frames, X.room, X.hears, X.method, X.code, (X.here.setHeapUsed s₂.heap s₂.slotsUsed).setVm hW'.alike, X.tail, State.WarmedH.trans X.warmed hW', X.limits, X.bytes, X.same.trans (hsame.setVm s.vm)⟩,
      ⟨g, mk, s₂, L, E, ce, rfl, rfl, hx, hce, hcv, hcl, rfl, hL, rfl, rfl⟩, ?_⟩
    show Steps p.tables e below _ (((({ U with heap := s₂.heap, slotsUsed := s₂.slotsUsed } : State).setVm s₂.vm).setTop g).pushFrame (.throwing q))
    rw [← hs₂]
    exact hsteps
end Payer
section Calls
variable {p : Program} {l : Launch} {e : Env} {R : Room} {s : State} {m : MethodId} {args : Array Value} {below : List Frame} {meth : Method} {c : Code} {T : State} {locs : List Loc} {cells slots : Nat}
theorem vx_callV (X : Stand p l e R s m args below meth c T locs cells slots) (hexec : p.tables.exec = Jvm.exec) {own C : String} {index : Nat} {y : MethodName} {bytes : ByteArray} {maxL : Nat} {ret : Option FieldType}
    (hown : s.vm.findClass own = some m.cls) (hlink : (Cond.methodLink own index y).before args s = true) (hinst : (Cond.instanceMethod y).before args s = true) (hsel : (Cond.selects C y y).before args s = true)
    (hcode : (Cond.code y bytes maxL ret).before args s = true) (hy : y.cls ≠ "java/lang/invoke/MethodHandle" ∧ y.cls ≠ "java/lang/invoke/VarHandle")
    {W9 : Nat} {Pre : Pt → Array Value → Prop} {Post : Pt → Array Value → Option Value → Pt → Prop} {PostX : Pt → Array Value → Addr → Pt → Prop} (hK : vx_Back l R p e below s args y 3 W9 Pre Post PostX)
    {b : Addr} {cellB : Cell} (hcell : T.heap[b]? = some cellB) (hobj : cellB.vm.isStatics = false) (hcls : s.vm.findClass C = some cellB.cls)
    {g : JFrame} (hg : g.method = m) (hsize : g.locals.size = c.maxLocals) {argsL rest : List Value} (hlen : ∀ sig, parseMethodDescriptor y.desc = some sig → argsL.length = sig.parameters.length)
    (hstack : g.stack = argsL.reverse ++ .ref b :: rest) (hW : 2 * g.monitorRoom + (rest.map fun v => v.category).sum ≤ W9) (hdg : decode c.code g.pc = .ok (.invokevirtual index, 3))
    (hpre : ∀ vm₁, s.WarmedH vm₁ → Pre ⟨T.setVm vm₁, locs, cells, slots⟩ (Value.ref b :: argsL).toArray) :
    (∃ (v : Option Value) (vm₁ : Vm) (B : Pt), s.WarmedH vm₁ ∧ Stand p l e R s m args below meth c B.U B.locs B.cells B.slots ∧ Post ⟨T.setVm vm₁, locs, cells, slots⟩ (Value.ref b :: argsL).toArray v B ∧
      ∀ target, Steps p.tables e below (B.U.setTop { g with pc := g.pc + 3, stack := v.toList ++ rest }) target → Steps p.tables e below (T.setTop g) target) ∨
    (∃ (q : Addr) (vm₁ : Vm) (B : Pt), s.WarmedH vm₁ ∧ Stand p l e R s m args below meth c B.U B.locs B.cells B.slots ∧ PostX ⟨T.setVm vm₁, locs, cells, slots⟩ (Value.ref b :: argsL).toArray q B ∧
      Steps p.tables e below (T.setTop g) ((B.U.setTop { g with stack := rest }).pushFrame (.throwing q))) := by
  obtain ⟨mk, methM, hnamed, hmethM, hstM, habM⟩ := Cond.instanceMethod_spec hinst
  obtain ⟨methM', cM, hmethM', -, -, -, -, -, -, hsigM⟩ := Cond.code_spec hnamed hcode
  cases hmethM.symm.trans hmethM'
  obtain ⟨c2, r2, m2, q1, q2, q3, q4, kP, hkP, hkPi⟩ := Cond.selects_spec hsel
  cases hcls.symm.trans q1
  cases (State.methodFound?_of_named hnamed hy).symm.trans q2
  cases hnamed.symm.trans q3
  have hselP : selectMethod e.platform s.vm cellB.cls mk = .method mk := by rw [Launch.admits_selectMethod X.admits]; exact q4
  obtain ⟨vm₁, X₁, hstep₁⟩ := X.invokevirtual hexec hown hlink hnamed hmethM hstM hkP hkPi hy (a := b) (cell := cellB) hcell
    (fun z h => by rw [h] at hobj; cases hobj) hselP hmethM habM hkP hkPi (g := g) hg (argsL := argsL) (rest := rest) (hlen _ hsigM) hstack hdg
  rcases hK m meth c ⟨T.setVm vm₁, locs, cells, slots⟩ { g with stack := rest } (.invokevirtual index) mk (Value.ref b :: argsL).toArray X₁ hg hsize hdg hW (X₁.named hnamed) (hpre vm₁ X₁.warmed) with ⟨v, B, X', hpost, hsteps⟩ | ⟨q, B, X', hpost, hsteps⟩
  · exact Or.inl ⟨v, vm₁, B, X₁.warmed, X', hpost, fun target h => hstep₁ _ fun acts => by rw [doInvoke_state]; exact hsteps.trans h⟩
  · exact Or.inr ⟨q, vm₁, B, X₁.warmed, X', hpost, hstep₁ _ fun acts => by rw [doInvoke_state]; exact hsteps⟩
theorem vx_callS (X : Stand p l e R s m args below meth c T locs cells slots) (hexec : p.tables.exec = Jvm.exec) {own : String} {index : Nat} {y : MethodName} {bytes : ByteArray} {maxL : Nat} {ret : Option FieldType}
    (hown : s.vm.findClass own = some m.cls) (hlink : (Cond.methodLink own index y).before args s = true) (hstat : (Cond.static y).before args s = true) (hinit : (Cond.initialized y.cls).before args s = true)
    (hcode : (Cond.code y bytes maxL ret).before args s = true) (hy : y.cls ≠ "java/lang/invoke/MethodHandle" ∧ y.cls ≠ "java/lang/invoke/VarHandle")
    {W9 : Nat} {Pre : Pt → Array Value → Prop} {Post : Pt → Array Value → Option Value → Pt → Prop} {PostX : Pt → Array Value → Addr → Pt → Prop} (hK : vx_Back l R p e below s args y 3 W9 Pre Post PostX)
    {g : JFrame} (hg : g.method = m) (hsize : g.locals.size = c.maxLocals) {argsL rest : List Value} (hlen : ∀ sig, parseMethodDescriptor y.desc = some sig → argsL.length = sig.parameters.length)
    (hstack : g.stack = argsL.reverse ++ rest) (hW : 2 * g.monitorRoom + (rest.map fun v => v.category).sum ≤ W9) (hdg : decode c.code g.pc = .ok (.invokestatic index, 3))
    (hpre : ∀ vm₁, s.WarmedH vm₁ → Pre ⟨T.setVm vm₁, locs, cells, slots⟩ argsL.toArray) :
    (∃ (v : Option Value) (vm₁ : Vm) (B : Pt), s.WarmedH vm₁ ∧ Stand p l e R s m args below meth c B.U B.locs B.cells B.slots ∧ Post ⟨T.setVm vm₁, locs, cells, slots⟩ argsL.toArray v B ∧
      ∀ target, Steps p.tables e below (B.U.setTop { g with pc := g.pc + 3, stack := v.toList ++ rest }) target → Steps p.tables e below (T.setTop g) target) ∨
    (∃ (q : Addr) (vm₁ : Vm) (B : Pt), s.WarmedH vm₁ ∧ Stand p l e R s m args below meth c B.U B.locs B.cells B.slots ∧ PostX ⟨T.setVm vm₁, locs, cells, slots⟩ argsL.toArray q B ∧
      Steps p.tables e below (T.setTop g) ((B.U.setTop { g with stack := rest }).pushFrame (.throwing q))) := by
  obtain ⟨mk, hnamed⟩ := Cond.code_named hcode
  obtain ⟨methM, cM, hmethM, -, -, -, -, -, -, hsigM⟩ := Cond.code_spec hnamed hcode
  have hstatic : methM.isStatic = true := Cond.static_spec hnamed hmethM hstat
  obtain ⟨kP, hkP, -⟩ := className_of_methodNamed hnamed
  have hinitP : kP.init = .initialized := Cond.initialized_spec (findClass_of_methodNamed hnamed) hkP hinit
  obtain ⟨vm₁, X₁, hstep₁⟩ := X.invokestatic hexec hown hlink hnamed hmethM hstatic hkP hinitP hy (g := g) hg (argsL := argsL) (rest := rest) (hlen _ hsigM) hstack hdg
  rcases hK m meth c ⟨T.setVm vm₁, locs, cells, slots⟩ { g with stack := rest } (.invokestatic index) mk argsL.toArray X₁ hg hsize hdg hW (X₁.named hnamed) (hpre vm₁ X₁.warmed) with ⟨v, B, X', hpost, hsteps⟩ | ⟨q, B, X', hpost, hsteps⟩
  · exact Or.inl ⟨v, vm₁, B, X₁.warmed, X', hpost, fun target h => hstep₁ _ fun acts => by rw [doInvoke_state]; exact hsteps.trans h⟩
  · exact Or.inr ⟨q, vm₁, B, X₁.warmed, X', hpost, hstep₁ _ fun acts => by rw [doInvoke_state]; exact hsteps⟩
end Calls
theorem vx_cls {s : State} {T : State} {vm₁ : Vm} {E : String} {k : ClassId} (hW : s.WarmedH vm₁) (h : (T.setVm vm₁).vm.findClass E = some k) : s.vm.findClass E = some k := by
  have h1 : vm₁.findClass E = some k := h
  rw [hW.alike.findClass] at h1
  exact h1
/-- the method's frame g, with q thrown over it -/
def vx_W (p : Program) (l : Launch) (e : Env) (R : Room) (s : State) (m : MethodId) (args : Array Value) (below : List Frame) (meth : Method) (c : Code) (H : Heap) (locs : List Loc) (cells slots : Nat) (Q : State → Prop) (g : JFrame) (q : Addr) : Prop :=
  ∀ T : State, T.heap = H → Stand p l e R s m args below meth c T locs cells slots → ∃ t, Steps p.tables e below ((T.setTop g).pushFrame (.throwing q)) t ∧ Q t
def vx_Run (p : Program) (l : Launch) (e : Env) (R : Room) (s : State) (m : MethodId) (args : Array Value) (below : List Frame) (meth : Method) (c : Code) (H : Heap) (locs : List Loc) (cells slots mc ms : Nat) (g : JFrame) (rest : List Value) (Qa : State → Outcome → State → Prop) (XC : String → State → State → Prop) (free : Addr → Prop) : Prop :=
  ∀ T : State, T.heap = H → Stand p l e R s m args below meth c T locs cells slots →
    (∃ (v : Option Value) (st₀ t T' : State) (L : List Loc), st₀.heap = H ∧ Stand p l e R s m args below meth c T' (locs ++ L) (cells + mc) (slots + ms) ∧ (∀ q ∈ L, free q.base) ∧ T'.heap = t.heap ∧ T'.vm = t.vm ∧ Qa st₀ (.returned v) t ∧
      Goes p e below T g T' { g with pc := g.pc + 3, stack := v.toList ++ rest }) ∨
    (∃ (q : Addr) (st₀ t T' : State) (L : List Loc) (E : String) (ce : Cell), st₀.heap = H ∧ Stand p l e R s m args below meth c T' (locs ++ L) (cells + mc) (slots + ms) ∧ (∀ z ∈ L, free z.base) ∧ T'.heap = t.heap ∧ T'.vm = t.vm ∧ XC E st₀ t ∧ t.heap[q]? = some ce ∧ ce.vm = .none ∧ s.vm.findClass E = some ce.cls ∧
      Steps p.tables e below (T.setTop g) ((T'.setTop { g with stack := rest }).pushFrame (.throwing q)))
def vx_X {S : Type} (px : S → Prop) (B : String → S → State → Prop) (A : Nat → Prop) : String → State → State → Prop := fun E st t => ∃ u : S, px u ∧ B E u t ∧ va_F A st t
section Runs
variable {p : Program} {l : Launch} {e : Env} {R : Room} {s : State} {m : MethodId} {args : Array Value} {below : List Frame} {meth : Method} {c : Code} {H : Heap} {locs : List Loc} {cells slots : Nat}
variable {y : MethodName} {bytes cc : ByteArray} {maxL nL mc ms n index : Nat} {ret : Option FieldType} {ws : List Cond} {rm : Room} {Pc : Array Value → State → Prop} {Qc : Array Value → State → Outcome → State → Prop} {XC : String → State → State → Prop} {free : Addr → Prop} {Ts : List Cond} {own C : String} {b : Addr} {As rest : List Value} {g : JFrame}
theorem vx_callBack (cb : CallB R s args own index y bytes maxL ret ws rm mc ms n) (hM : vx_Met l y ws rm Pc Qc XC mc ms free) (hbl : FrameBlind Pc) : vx_Back l R p e below s args y 3 8 (PreOf R mc ms Pc) (PostOf Qc mc ms free) (vx_Post XC mc ms free) := by
  obtain ⟨hrc, hrs, hfr, hlo, hws, hcw, -, hini, -⟩ := cb
  exact vx_back (bytes := bytes) (maxL := maxL) (ret := ret) hM hbl hrc hrs hfr hlo hws hcw (fun a' U hW => word_at hW (Or.inl (by first | rfl | simp [Cond.onTables, Cond.keeps, Cond.steady])) hini)
theorem vx_runV (S : CallFix p m c cc nL s args Ts own) (hM : vx_Met l y ws rm Pc Qc XC mc ms free) (cw : CallW R s args own C index y bytes maxL ret ws rm mc ms n) (hp : PreV s H C b Pc As)
    (hg : g.method = m) (hn : As.length = n) (hsize : g.locals.size = nL) (hstack : g.stack = As.reverse ++ .ref b :: rest) (hW : 2 * g.monitorRoom + (rest.map fun v => v.category).sum ≤ 8) (hdg : decode cc g.pc = .ok (.invokevirtual index, 3)) (hf : cells + mc ≤ R.cells ∧ slots + ms ≤ R.slots) :
    vx_Run p l e R s m args below meth c H locs cells slots mc ms g rest (Qc (Value.ref b :: As).toArray) XC free := by
  have hK : vx_Back l R p e below s args y 3 8 (PreOf R mc ms Pc) (PostOf Qc mc ms free) (vx_Post XC mc ms free) := vx_callBack cw.1 hM hp.1
  obtain ⟨⟨-, -, -, -, -, -, hcode, -, hy, hlen, hl⟩, hin, hse⟩ := cw
  obtain ⟨hx, hb, hml, ho, -⟩ := S
  obtain ⟨-, ⟨cellB, hcB, hoB, hclB⟩, hPc⟩ := hp
  intro T hT X
  rcases vx_callV X hx (C := C) (bytes := bytes) (maxL := maxL) (ret := ret) ho hl hin hse hcode hy hK (by rw [hT]; exact hcB) hoB hclB hg (hsize.trans hml.symm) (argsL := As) (rest := rest) (fun sig h => hn.trans (hlen sig h)) hstack hW (by rw [hb]; exact hdg)
    (fun vm₁ hW₁ => ⟨hf.1, hf.2, hPc (T.setVm vm₁) hT hW₁⟩) with ⟨v, vm₁, ⟨U', l2, c2, s2⟩, hW₁, X', ⟨g', mk, t, L, e1, e2, hq, h1, hL, h2, h3⟩, st⟩ | ⟨q, vm₁, ⟨U', l2, c2, s2⟩, hW₁, X', ⟨g', mk, t, L, E, ce, e1, e2, hq, hce, hcv, hcl, h1, hL, h2, h3⟩, st⟩
  · dsimp only [Pt.U, Pt.locs, Pt.cells, Pt.slots] at X' e1 e2 h1 h2 h3 st
    subst h1; subst h2; subst h3
    exact Or.inl ⟨v, (T.setVm vm₁).calling g' mk (Value.ref b :: As).toArray, t, U', L, hT, X', hL, e1, e2, hq, st⟩
  · dsimp only [Pt.U, Pt.locs, Pt.cells, Pt.slots] at X' e1 e2 h1 h2 h3 st hcl
    subst h1; subst h2; subst h3
    exact Or.inr ⟨q, (T.setVm vm₁).calling g' mk (Value.ref b :: As).toArray, t, U', L, E, ce, hT, X', hL, e1, e2, hq, hce, hcv, vx_cls hW₁ hcl, st⟩
theorem vx_runS (S : CallFix p m c cc nL s args Ts own) (hM : vx_Met l y ws rm Pc Qc XC mc ms free) (cw : CallB R s args own index y bytes maxL ret ws rm mc ms n ∧ (Cond.static y).before args s = true) (hp : PreS s H Pc As)
    (hg : g.method = m) (hn : As.length = n) (hsize : g.locals.size = nL) (hstack : g.stack = As.reverse ++ rest) (hW : 2 * g.monitorRoom + (rest.map fun v => v.category).sum ≤ 8) (hdg : decode cc g.pc = .ok (.invokestatic index, 3)) (hf : cells + mc ≤ R.cells ∧ slots + ms ≤ R.slots) :
    vx_Run p l e R s m args below meth c H locs cells slots mc ms g rest (Qc As.toArray) XC free := by
  have hK : vx_Back l R p e below s args y 3 8 (PreOf R mc ms Pc) (PostOf Qc mc ms free) (vx_Post XC mc ms free) := vx_callBack cw.1 hM hp.1
  obtain ⟨⟨-, -, -, -, -, -, hcode, hini, hy, hlen, hl⟩, hstt⟩ := cw
  obtain ⟨hx, hb, hml, ho, -⟩ := S
  intro T hT X
  rcases vx_callS X hx (bytes := bytes) (maxL := maxL) (ret := ret) ho hl hstt hini hcode hy hK hg (hsize.trans hml.symm) (argsL := As) (rest := rest) (fun sig h => hn.trans (hlen sig h)) hstack hW (by rw [hb]; exact hdg)
    (fun vm₁ hW₁ => ⟨hf.1, hf.2, hp.2 (T.setVm vm₁) hT hW₁⟩) with ⟨v, vm₁, ⟨U', l2, c2, s2⟩, hW₁, X', ⟨g', mk, t, L, e1, e2, hq, h1, hL, h2, h3⟩, st⟩ | ⟨q, vm₁, ⟨U', l2, c2, s2⟩, hW₁, X', ⟨g', mk, t, L, E, ce, e1, e2, hq, hce, hcv, hcl, h1, hL, h2, h3⟩, st⟩
  · dsimp only [Pt.U, Pt.locs, Pt.cells, Pt.slots] at X' e1 e2 h1 h2 h3 st
    subst h1; subst h2; subst h3
    exact Or.inl ⟨v, (T.setVm vm₁).calling g' mk As.toArray, t, U', L, hT, X', hL, e1, e2, hq, st⟩
  · dsimp only [Pt.U, Pt.locs, Pt.cells, Pt.slots] at X' e1 e2 h1 h2 h3 st hcl
    subst h1; subst h2; subst h3
    exact Or.inr ⟨q, (T.setVm vm₁).calling g' mk As.toArray, t, U', L, E, ce, hT, X', hL, e1, e2, hq, hce, hcv, vx_cls hW₁ hcl, st⟩
end Runs
section Rows
variable {p : Program} {l : Launch} {e : Env} {R : Room} {s : State} {m : MethodId} {args : Array Value} {below : List Frame} {meth : Method} {c : Code} {H : Heap} {locs : List Loc} {cells slots : Nat} {Q : State → Prop}
variable {mc ms : Nat} {free : Addr → Prop} {A0 A1 : Nat → Prop} {H0 : Heap} {a : Array Value} {pc : Nat} {ls : Array Slot} {st0 rest : List Value}
theorem vx_keep {st₀ t T' : State} {L : List Loc} (h0 : st₀.heap = H) (e1 : T'.heap = t.heap) (hS : va_S A0 H0 H locs) (hA : ∀ q, q < H.size → A1 q → A0 q) (hf : ∀ q, free q → A0 q) (hL : ∀ q ∈ L, free q.base) (hF : va_F A1 st₀ t) :
    H.size ≤ T'.heap.size ∧ (∀ q : Nat, q < H.size → ¬ A1 q → T'.heap[q]? = H[q]?) ∧ va_S A0 H0 T'.heap (locs ++ L) := by
  obtain ⟨hz, hk⟩ := hF
  rw [h0] at hz hk
  exact ⟨by rw [e1]; exact hz, fun q h1 h2 => by rw [e1]; exact hk q h1 h2,
    ⟨Nat.le_trans hS.1 (by rw [e1]; exact hz), fun q h1 h2 => by rw [e1, hk q (Nat.lt_of_lt_of_le h1 hS.1) (fun z => h2 (hA q (Nat.lt_of_lt_of_le h1 hS.1) z))]; exact hS.2.1 q h1 h2, fun q hq => by
      rcases List.mem_append.mp hq with h | h
      · exact hS.2.2 q h
      · exact hf _ (hL q h)⟩⟩
theorem vx_calli {S SX : Type} {post : Int32 → S → Prop} {px : SX → Prop} {B : S → State → Prop} {BX : String → SX → State → Prop} {AX : Nat → Prop} (hr : vx_Run p l e R s m args below meth c H locs cells slots mc ms (F0 m pc ls st0) rest (va_Qi post B A1 a) (vx_X px BX AX) free) (hS : va_S A0 H0 H locs) (hA : ∀ q, q < H.size → A1 q → A0 q) (hf : ∀ q, free q → A0 q) (hAX : ∀ q, q < H.size → AX q → A0 q)
    (kx : ∀ (E : String) (ce : Cell) (q9 : Addr) (u : SX) (t : State) (H1 : Heap) (locs1 : List Loc), t.heap = H1 → s.vm.Alike t.vm → px u → BX E u t → H.size ≤ H1.size → (∀ q : Nat, q < H.size → ¬ AX q → H1[q]? = H[q]?) → va_S A0 H0 H1 locs1 → H1[q9]? = some ce → ce.vm = .none → s.vm.findClass E = some ce.cls → vx_W p l e R s m args below meth c H1 locs1 (cells + mc) (slots + ms) Q (F0 m pc ls rest) q9)
    (kk : ∀ (r : Int32) (u : S) (t : State) (H1 : Heap) (locs1 : List Loc), t.heap = H1 → s.vm.Alike t.vm → post r u → B u t → H.size ≤ H1.size → (∀ q : Nat, q < H.size → ¬ A1 q → H1[q]? = H[q]?) → va_S A0 H0 H1 locs1 → W p l e R s m args below meth c H1 locs1 (cells + mc) (slots + ms) Q (F0 m (pc + 3) ls (.int r :: rest))) : W p l e R s m args below meth c H locs cells slots Q (F0 m pc ls st0) := by
  intro T hT X
  rcases hr T hT X with ⟨v, st₀, t, T', L, h0, X', hL, e1, e2, ⟨⟨r, u, hv, hp, hb⟩, hF⟩, st⟩ | ⟨q, st₀, t, T', L, E, ce, h0, X', hL, e1, e2, ⟨u, hp, hb, hF⟩, hce, hcv, hcl, st⟩
  · cases hv
    obtain ⟨k1, k2, k3⟩ := vx_keep h0 e1 hS hA hf hL hF
    obtain ⟨t2, a1, b1⟩ := kk r u t T'.heap (locs ++ L) e1.symm (by rw [← e2]; exact X'.warmed.alike) hp hb k1 k2 k3 T' rfl X'
    exact ⟨t2, st t2 a1, b1⟩
  · obtain ⟨k1, k2, k3⟩ := vx_keep h0 e1 hS hAX hf hL hF
    obtain ⟨t2, a1, b1⟩ := kx E ce q u t T'.heap (locs ++ L) e1.symm (by rw [← e2]; exact X'.warmed.alike) hp hb k1 k2 k3 (by rw [e1]; exact hce) hcv hcl T' rfl X'
    exact ⟨t2, st.trans a1, b1⟩
theorem vx_calll {S SX : Type} {post : Int64 → S → Prop} {px : SX → Prop} {B : S → State → Prop} {BX : String → SX → State → Prop} {AX : Nat → Prop} (hr : vx_Run p l e R s m args below meth c H locs cells slots mc ms (F0 m pc ls st0) rest (va_Ql post B A1 a) (vx_X px BX AX) free) (hS : va_S A0 H0 H locs) (hA : ∀ q, q < H.size → A1 q → A0 q) (hf : ∀ q, free q → A0 q) (hAX : ∀ q, q < H.size → AX q → A0 q)
    (kx : ∀ (E : String) (ce : Cell) (q9 : Addr) (u : SX) (t : State) (H1 : Heap) (locs1 : List Loc), t.heap = H1 → s.vm.Alike t.vm → px u → BX E u t → H.size ≤ H1.size → (∀ q : Nat, q < H.size → ¬ AX q → H1[q]? = H[q]?) → va_S A0 H0 H1 locs1 → H1[q9]? = some ce → ce.vm = .none → s.vm.findClass E = some ce.cls → vx_W p l e R s m args below meth c H1 locs1 (cells + mc) (slots + ms) Q (F0 m pc ls rest) q9)
    (kk : ∀ (r : Int64) (u : S) (t : State) (H1 : Heap) (locs1 : List Loc), t.heap = H1 → s.vm.Alike t.vm → post r u → B u t → H.size ≤ H1.size → (∀ q : Nat, q < H.size → ¬ A1 q → H1[q]? = H[q]?) → va_S A0 H0 H1 locs1 → W p l e R s m args below meth c H1 locs1 (cells + mc) (slots + ms) Q (F0 m (pc + 3) ls (.long r :: rest))) : W p l e R s m args below meth c H locs cells slots Q (F0 m pc ls st0) := by
  intro T hT X
  rcases hr T hT X with ⟨v, st₀, t, T', L, h0, X', hL, e1, e2, ⟨⟨r, u, hv, hp, hb⟩, hF⟩, st⟩ | ⟨q, st₀, t, T', L, E, ce, h0, X', hL, e1, e2, ⟨u, hp, hb, hF⟩, hce, hcv, hcl, st⟩
  · cases hv
    obtain ⟨k1, k2, k3⟩ := vx_keep h0 e1 hS hA hf hL hF
    obtain ⟨t2, a1, b1⟩ := kk r u t T'.heap (locs ++ L) e1.symm (by rw [← e2]; exact X'.warmed.alike) hp hb k1 k2 k3 T' rfl X'
    exact ⟨t2, st t2 a1, b1⟩
  · obtain ⟨k1, k2, k3⟩ := vx_keep h0 e1 hS hAX hf hL hF
    obtain ⟨t2, a1, b1⟩ := kx E ce q u t T'.heap (locs ++ L) e1.symm (by rw [← e2]; exact X'.warmed.alike) hp hb k1 k2 k3 (by rw [e1]; exact hce) hcv hcl T' rfl X'
    exact ⟨t2, st.trans a1, b1⟩
theorem vx_callf {S SX : Type} {post : UInt32 → S → Prop} {px : SX → Prop} {B : S → State → Prop} {BX : String → SX → State → Prop} {AX : Nat → Prop} (hr : vx_Run p l e R s m args below meth c H locs cells slots mc ms (F0 m pc ls st0) rest (va_Qf post B A1 a) (vx_X px BX AX) free) (hS : va_S A0 H0 H locs) (hA : ∀ q, q < H.size → A1 q → A0 q) (hf : ∀ q, free q → A0 q) (hAX : ∀ q, q < H.size → AX q → A0 q)
    (kx : ∀ (E : String) (ce : Cell) (q9 : Addr) (u : SX) (t : State) (H1 : Heap) (locs1 : List Loc), t.heap = H1 → s.vm.Alike t.vm → px u → BX E u t → H.size ≤ H1.size → (∀ q : Nat, q < H.size → ¬ AX q → H1[q]? = H[q]?) → va_S A0 H0 H1 locs1 → H1[q9]? = some ce → ce.vm = .none → s.vm.findClass E = some ce.cls → vx_W p l e R s m args below meth c H1 locs1 (cells + mc) (slots + ms) Q (F0 m pc ls rest) q9)
    (kk : ∀ (r : UInt32) (u : S) (t : State) (H1 : Heap) (locs1 : List Loc), t.heap = H1 → s.vm.Alike t.vm → post r u → B u t → H.size ≤ H1.size → (∀ q : Nat, q < H.size → ¬ A1 q → H1[q]? = H[q]?) → va_S A0 H0 H1 locs1 → W p l e R s m args below meth c H1 locs1 (cells + mc) (slots + ms) Q (F0 m (pc + 3) ls (.float r :: rest))) : W p l e R s m args below meth c H locs cells slots Q (F0 m pc ls st0) := by
  intro T hT X
  rcases hr T hT X with ⟨v, st₀, t, T', L, h0, X', hL, e1, e2, ⟨⟨r, u, hv, hp, hb⟩, hF⟩, st⟩ | ⟨q, st₀, t, T', L, E, ce, h0, X', hL, e1, e2, ⟨u, hp, hb, hF⟩, hce, hcv, hcl, st⟩
  · cases hv
    obtain ⟨k1, k2, k3⟩ := vx_keep h0 e1 hS hA hf hL hF
    obtain ⟨t2, a1, b1⟩ := kk r u t T'.heap (locs ++ L) e1.symm (by rw [← e2]; exact X'.warmed.alike) hp hb k1 k2 k3 T' rfl X'
    exact ⟨t2, st t2 a1, b1⟩
  · obtain ⟨k1, k2, k3⟩ := vx_keep h0 e1 hS hAX hf hL hF
    obtain ⟨t2, a1, b1⟩ := kx E ce q u t T'.heap (locs ++ L) e1.symm (by rw [← e2]; exact X'.warmed.alike) hp hb k1 k2 k3 (by rw [e1]; exact hce) hcv hcl T' rfl X'
    exact ⟨t2, st.trans a1, b1⟩
theorem vx_calld {S SX : Type} {post : UInt64 → S → Prop} {px : SX → Prop} {B : S → State → Prop} {BX : String → SX → State → Prop} {AX : Nat → Prop} (hr : vx_Run p l e R s m args below meth c H locs cells slots mc ms (F0 m pc ls st0) rest (va_Qd post B A1 a) (vx_X px BX AX) free) (hS : va_S A0 H0 H locs) (hA : ∀ q, q < H.size → A1 q → A0 q) (hf : ∀ q, free q → A0 q) (hAX : ∀ q, q < H.size → AX q → A0 q)
    (kx : ∀ (E : String) (ce : Cell) (q9 : Addr) (u : SX) (t : State) (H1 : Heap) (locs1 : List Loc), t.heap = H1 → s.vm.Alike t.vm → px u → BX E u t → H.size ≤ H1.size → (∀ q : Nat, q < H.size → ¬ AX q → H1[q]? = H[q]?) → va_S A0 H0 H1 locs1 → H1[q9]? = some ce → ce.vm = .none → s.vm.findClass E = some ce.cls → vx_W p l e R s m args below meth c H1 locs1 (cells + mc) (slots + ms) Q (F0 m pc ls rest) q9)
    (kk : ∀ (r : UInt64) (u : S) (t : State) (H1 : Heap) (locs1 : List Loc), t.heap = H1 → s.vm.Alike t.vm → post r u → B u t → H.size ≤ H1.size → (∀ q : Nat, q < H.size → ¬ A1 q → H1[q]? = H[q]?) → va_S A0 H0 H1 locs1 → W p l e R s m args below meth c H1 locs1 (cells + mc) (slots + ms) Q (F0 m (pc + 3) ls (.double r :: rest))) : W p l e R s m args below meth c H locs cells slots Q (F0 m pc ls st0) := by
  intro T hT X
  rcases hr T hT X with ⟨v, st₀, t, T', L, h0, X', hL, e1, e2, ⟨⟨r, u, hv, hp, hb⟩, hF⟩, st⟩ | ⟨q, st₀, t, T', L, E, ce, h0, X', hL, e1, e2, ⟨u, hp, hb, hF⟩, hce, hcv, hcl, st⟩
  · cases hv
    obtain ⟨k1, k2, k3⟩ := vx_keep h0 e1 hS hA hf hL hF
    obtain ⟨t2, a1, b1⟩ := kk r u t T'.heap (locs ++ L) e1.symm (by rw [← e2]; exact X'.warmed.alike) hp hb k1 k2 k3 T' rfl X'
    exact ⟨t2, st t2 a1, b1⟩
  · obtain ⟨k1, k2, k3⟩ := vx_keep h0 e1 hS hAX hf hL hF
    obtain ⟨t2, a1, b1⟩ := kx E ce q u t T'.heap (locs ++ L) e1.symm (by rw [← e2]; exact X'.warmed.alike) hp hb k1 k2 k3 (by rw [e1]; exact hce) hcv hcl T' rfl X'
    exact ⟨t2, st.trans a1, b1⟩
theorem vx_callv {S SX : Type} {post : S → Prop} {px : SX → Prop} {B : S → State → Prop} {BX : String → SX → State → Prop} {AX : Nat → Prop} (hr : vx_Run p l e R s m args below meth c H locs cells slots mc ms (F0 m pc ls st0) rest (va_Qv post B A1 a) (vx_X px BX AX) free) (hS : va_S A0 H0 H locs) (hA : ∀ q, q < H.size → A1 q → A0 q) (hf : ∀ q, free q → A0 q) (hAX : ∀ q, q < H.size → AX q → A0 q)
    (kx : ∀ (E : String) (ce : Cell) (q9 : Addr) (u : SX) (t : State) (H1 : Heap) (locs1 : List Loc), t.heap = H1 → s.vm.Alike t.vm → px u → BX E u t → H.size ≤ H1.size → (∀ q : Nat, q < H.size → ¬ AX q → H1[q]? = H[q]?) → va_S A0 H0 H1 locs1 → H1[q9]? = some ce → ce.vm = .none → s.vm.findClass E = some ce.cls → vx_W p l e R s m args below meth c H1 locs1 (cells + mc) (slots + ms) Q (F0 m pc ls rest) q9)
    (kk : ∀ (u : S) (t : State) (H1 : Heap) (locs1 : List Loc), t.heap = H1 → s.vm.Alike t.vm → post u → B u t → H.size ≤ H1.size → (∀ q : Nat, q < H.size → ¬ A1 q → H1[q]? = H[q]?) → va_S A0 H0 H1 locs1 → W p l e R s m args below meth c H1 locs1 (cells + mc) (slots + ms) Q (F0 m (pc + 3) ls (rest))) : W p l e R s m args below meth c H locs cells slots Q (F0 m pc ls st0) := by
  intro T hT X
  rcases hr T hT X with ⟨v, st₀, t, T', L, h0, X', hL, e1, e2, ⟨⟨u, hv, hp, hb⟩, hF⟩, st⟩ | ⟨q, st₀, t, T', L, E, ce, h0, X', hL, e1, e2, ⟨u, hp, hb, hF⟩, hce, hcv, hcl, st⟩
  · cases hv
    obtain ⟨k1, k2, k3⟩ := vx_keep h0 e1 hS hA hf hL hF
    obtain ⟨t2, a1, b1⟩ := kk u t T'.heap (locs ++ L) e1.symm (by rw [← e2]; exact X'.warmed.alike) hp hb k1 k2 k3 T' rfl X'
    exact ⟨t2, st t2 a1, b1⟩
  · obtain ⟨k1, k2, k3⟩ := vx_keep h0 e1 hS hAX hf hL hF
    obtain ⟨t2, a1, b1⟩ := kx E ce q u t T'.heap (locs ++ L) e1.symm (by rw [← e2]; exact X'.warmed.alike) hp hb k1 k2 k3 (by rw [e1]; exact hce) hcv hcl T' rfl X'
    exact ⟨t2, st.trans a1, b1⟩
/-- caught by the row x of this method's table; the rows ahead don't take it -/
theorem vx_catch {own name : String} {E : String} {ce : Cell} {q : Addr} (hown : s.vm.findClass own = some m.cls) (pre : List ExceptionTableEntry) (x : ExceptionTableEntry) (suf : List ExceptionTableEntry) (hsplit : c.exceptionTable.toList = pre ++ x :: suf)
    (hpass : ∀ z ∈ pre, covers z pc = false ∨ (z.catchType ≠ 0 ∧ ∃ nm : String, (Cond.classLink own z.catchType nm).before args s = true ∧ va_Nc E nm s)) (hx : covers x pc = true) (h0 : x.catchType ≠ 0)
    (hlink : (Cond.classLink own x.catchType name).before args s = true) (hcast : (Cond.castable E name).before args s = true) (hcell : H[q]? = some ce) (hv : ce.vm = .none) (hcl : s.vm.findClass E = some ce.cls)
    (kk : W p l e R s m args below meth c H locs cells slots Q (F0 m x.handlerPc ls [.ref q])) : vx_W p l e R s m args below meth c H locs cells slots Q (F0 m pc ls rest) q := by
  intro T hT X
  have hpl : e.platform.magicAccessors = ({} : Platform).magicAccessors := by rw [X.admits.platform]
  obtain ⟨c3, c4, hc3, hc4, hasg⟩ := Cond.castable_spec hcast
  cases Option.some.inj (hc3.symm.trans hcl)
  obtain ⟨c5, hc5, hcl5⟩ := Cond.classLink_spec hown hlink e.platform hpl
  cases Option.some.inj (hc4.symm.trans hc5)
  have hobj : ∀ k, ce.vm ≠ .statics k := VmData.ne_statics_of (by rw [hv]; rfl)
  obtain ⟨vm', hW', hq⟩ := ob_go_all (e := e) (s₀ := s) (f := F0 m pc ls rest) (a := q) hobj (by obtain ⟨k9, h9, -⟩ := Vm.findClass_spec hcl; exact ⟨k9, h9⟩) x suf hx h0 hcl5 hasg pre ((T.setTop (F0 m pc ls rest)).pushFrame (.throwing q)) X.warmed
    (by show T.heap[q]? = some ce; rw [hT]; exact hcell) (fun z hz => by
      rcases hpass z hz with h | ⟨hz0, nm, hl1, hn1⟩
      · exact Or.inl h
      · obtain ⟨c6, hc6, hcl6⟩ := Cond.classLink_spec hown hl1 e.platform hpl
        obtain ⟨a8, b8, h1, h2, h3⟩ := hn1
        cases Option.some.inj (h1.symm.trans hcl)
        cases Option.some.inj (h2.symm.trans hc6)
        exact Or.inr ⟨hz0, _, hcl6, h3⟩)
  obtain ⟨t, a1, b1⟩ := kk (T.setVm vm') hT (X.noted hW')
  refine ⟨t, ob_caught (g := F0 m pc ls rest) X.here (fun Q E d acts => ?_) a1, b1⟩
  rw [Jvm.W.findHandler_eq (meth := meth) (code := c) X.method' X.code, hsplit]
  exact hq Q E d acts
end Rows
section Ends
variable {p : Program} {l : Launch} {e : Env} {R : Room} {s : State} {m : MethodId} {args : Array Value} {below : List Frame} {meth : Method} {c : Code} {H : Heap} {locs : List Loc} {cells slots : Nat} {Q : State → Prop}
variable {mc ms : Nat} {free : Addr → Prop} {A0 A1 : Nat → Prop} {H0 : Heap} {a : Array Value} {ls : Array Slot} {st0 rest : List Value}
variable {Qc : Array Value → State → Outcome → State → Prop} {XC : String → State → State → Prop}
/-- what a body that may throw owes at its end -/
def vx_MQ (below : List Frame) (Qc : Array Value → State → Outcome → State → Prop) (XC : String → State → State → Prop) (a : Array Value) (s : State) (mc ms : Nat) (free : Addr → Prop) : State → Prop := fun t =>
  ∃ o, t.status = .running ∧ Ended t below o ∧ vx_Q Qc XC mc ms free a s o t
theorem vx_ret {g : JFrame} {mc ms : Nat} (k : W p l e R s m args below meth c H locs cells slots (MQ below Qc args s mc ms free) g) : W p l e R s m args below meth c H locs cells slots (vx_MQ below Qc XC args s mc ms free) g := by
  intro T hT X
  obtain ⟨t, a1, o, b1, b2, b3, b4⟩ := k T hT X
  exact ⟨t, a1, o, b1, b2, Or.inl ⟨b3, b4⟩⟩
/-- not caught here: it goes on to the caller -/
theorem vx_widen {g : JFrame} {q : Addr} {k n : Nat} (h1 : cells ≤ k) (h2 : slots ≤ n) (kk : vx_W p l e R s m args below meth c H locs k n Q g q) : vx_W p l e R s m args below meth c H locs cells slots Q g q := fun T hT X => kk T hT (stand_widen X h1 h2)
theorem vx_out {pc : Nat} {E : String} {ce : Cell} {q : Addr} {mc ms : Nat} (hout : ∀ x ∈ c.exceptionTable.toList, covers x pc = false) (hlocks : meth.locks = false) (hcell : H[q]? = some ce) (hv : ce.vm = .none) (hcl : s.vm.findClass E = some ce.cls)
    (hx : ∀ t : State, t.heap = H → s.vm.Alike t.vm → XC E s t) (hf : ∀ z ∈ locs, free z.base) (hc : cells ≤ mc) (hs : slots ≤ ms) :
    vx_W p l e R s m args below meth c H locs cells slots (vx_MQ below Qc XC args s mc ms free) (F0 m pc ls rest) q := by
  intro T hT X
  obtain ⟨st1, hrun, hend, hW, hsm⟩ := X.leaveThrown q (g := F0 m pc ls rest) rfl rfl rfl hout hlocks
  have hcell9 : (T.setFrames (.throwing q :: below)).heap[q]? = some ce := by
    show T.heap[q]? = some ce
    rw [hT]; exact hcell
  exact ⟨_, st1, .threw q, hrun, hend, Or.inr ⟨q, rfl, E, ce, locs, hx _ hT hW.alike, hcell9, hv, hcl, hW, hsm.mono hc hs, hf⟩⟩
theorem vx_frame {U : State} {k n : Nat} (h : s.sameButNew ({ U with vm := s.vm } : State) locs k n) : s.heap.size ≤ U.heap.size ∧ ∀ q : Nat, q < s.heap.size → (∀ z ∈ locs, z.base ≠ q) → U.heap[q]? = s.heap[q]? := by
  obtain ⟨-, h2, -, -, -, h6⟩ := h
  refine ⟨h2, fun q hq hz => ?_⟩
  obtain ⟨c9, e1, e2, e3, e4⟩ := h6 q _ (Array.getElem?_eq_getElem hq)
  have hs : c9.slots = (s.heap[q]).slots := Array.ext_getElem? fun i => e4 i fun hm => hz _ hm rfl
  have h9 : c9 = s.heap[q] := by
    rw [hs] at e2
    exact e2
  have e5 : U.heap[q]? = some c9 := e1
  rw [e5, h9, Array.getElem?_eq_getElem hq]
/-- the words of a throw but the four that speak of the heap -/
def vx_no (w : Cond) : Bool := decide (w ≠ .isRef (.static Bundle.tN "UNASSIGNED_STACK" Bundle.steD)) && decide (w ≠ .isRef (.static Bundle.tN "SUPPRESSED_SENTINEL" Bundle.listD)) && decide (w ≠ .laysStatic Bundle.tN "UNASSIGNED_STACK" Bundle.steD) && decide (w ≠ .laysStatic Bundle.tN "SUPPRESSED_SENTINEL" Bundle.listD)
def vx_at0 (own : String) (ic : Nat) (X : String) (names : List String) : List Cond := (Bundle.ownAtoms0 own ic X names).filter vx_no
def vx_atS (own : String) (ic : Nat) (X : String) (names : List String) : List Cond := (Bundle.ownAtoms own ic X names).filter vx_no
/-- a word that the tables alone decide, or a good one -/
def vx_ot (w : Cond) : Bool := w.onTables || goodWord w
theorem vx_ot_at {args a' : Array Value} {s U : State} {w : Cond} (hW : s.WarmedH U.vm) (hvm : s.vm = U.vm) (hg : vx_ot w = true) (h : w.before args s = true) : w.before a' U = true := by
  simp only [vx_ot, Bool.or_eq_true] at hg
  rcases hg with hg | hg
  · exact va_tabs hg hvm h
  · exact word_at hW (good_of_word hg) h
/-- a list's words: the good ones out of the method's own list, the others by premises of their own -/
theorem vx_hat {args : Array Value} {s : State} {L B : List Cond} (h1 : ∀ w ∈ L.filter goodWord, w.before args s = true) (h2 : ∀ w ∈ L.filter (fun w => !goodWord w), w ∈ B) (h3 : ∀ w ∈ B, w.before args s = true) : ∀ w ∈ L, w.before args s = true := by
  intro w hw
  by_cases g : goodWord w = true
  · exact h1 w (List.mem_filter.mpr ⟨hw, g⟩)
  · refine h3 w (h2 w (List.mem_filter.mpr ⟨hw, ?_⟩))
    show (!goodWord w) = true
    cases hgw : goodWord w
    · rfl
    · exact absurd hgw g
theorem vx_c {args : Array Value} {s : State} {w : Cond} {B : List Cond} (h : w.before args s = true) (t : ∀ w ∈ B, w.before args s = true) : ∀ w' ∈ w :: B, w'.before args s = true := fun w' h' => (List.mem_cons.mp h').elim (fun e => by rw [e]; exact h) (t w')
theorem vx_n {args : Array Value} {s : State} : ∀ w ∈ ([] : List Cond), w.before args s = true := fun _ h => nomatch h
theorem vx_own {args : Array Value} {s : State} {L : List Cond} (h1 : ∀ w ∈ L.filter vx_no, w.before args s = true)
    (hU : (Cond.isRef (.static Bundle.tN "UNASSIGNED_STACK" Bundle.steD)).before args s = true) (hN : (Cond.isRef (.static Bundle.tN "SUPPRESSED_SENTINEL" Bundle.listD)).before args s = true)
    (lU : (Cond.laysStatic Bundle.tN "UNASSIGNED_STACK" Bundle.steD).before args s = true) (lN : (Cond.laysStatic Bundle.tN "SUPPRESSED_SENTINEL" Bundle.listD).before args s = true) : ∀ w ∈ L, w.before args s = true := by
  intro w hw
  by_cases e1 : w = .isRef (.static Bundle.tN "UNASSIGNED_STACK" Bundle.steD)
  · rw [e1]; exact hU
  · by_cases e2 : w = .isRef (.static Bundle.tN "SUPPRESSED_SENTINEL" Bundle.listD)
    · rw [e2]; exact hN
    · by_cases e3 : w = .laysStatic Bundle.tN "UNASSIGNED_STACK" Bundle.steD
      · rw [e3]; exact lU
      · by_cases e4 : w = .laysStatic Bundle.tN "SUPPRESSED_SENTINEL" Bundle.listD
        · rw [e4]; exact lN
        · exact h1 w (List.mem_filter.mpr ⟨hw, by unfold vx_no; rw [decide_eq_true e1, decide_eq_true e2, decide_eq_true e3, decide_eq_true e4]; rfl⟩)
/-- where a static field lies, its class's statics cell in H -/
def vx_L (C n d : String) (A : Nat → Prop) (U : State) (H : Heap) : Prop := ∃ (c : ClassId) (k : Class) (i : Nat) (f : Field) (a : Nat) (cell : Cell), U.vm.findClass C = some c ∧ U.fieldFound? C n d = some (c, k, i, f) ∧ f.isStatic = true ∧ k.statics = some a ∧ H[a]? = some cell ∧ cell.vm.isStatics = true ∧ cell.cls = c ∧ f.slot < cell.slots.size ∧ k.staticTypes[f.slot]? = some f.type ∧ ¬ A a
theorem vx_L.moved {C n d : String} {A : Nat → Prop} {u U : State} {H : Heap} (hvm : u.vm.Alike U.vm) (h : vx_L C n d A u H) : vx_L C n d A U H := by
  obtain ⟨c, k, i, f, a, cell, h1, h2, h3, h4, h5, h6, h7, h8, h9, h10⟩ := h
  obtain ⟨k', hi', he⟩ := State.fieldFound?_setVm hvm h2
  exact ⟨c, k', i, f, a, cell, by rw [hvm.findClass]; exact h1, hi', h3, by rw [he]; exact h4, h5, h6, h7, h8, by rw [he]; exact h9, h10⟩
theorem vx_L.kept {C n d : String} {A : Nat → Prop} {U : State} {H H1 : Heap} (h : vx_L C n d A U H) (hq : ∀ a : Nat, a < H.size → ¬ A a → H1[a]? = H[a]?) : vx_L C n d A U H1 := by
  obtain ⟨c, k, i, f, a, cell, h1, h2, h3, h4, h5, h6, h7, h8, h9, h10⟩ := h
  exact ⟨c, k, i, f, a, cell, h1, h2, h3, h4, by rw [hq a (Array.getElem?_eq_some_iff.mp h5).1 h10]; exact h5, h6, h7, h8, h9, h10⟩
theorem vx_L.narrow {C n d : String} {A B : Nat → Prop} {U : State} {H : Heap} (h : vx_L C n d A U H) (hAB : ∀ q, B q → A q) : vx_L C n d B U H := by
  obtain ⟨c, k, i, f, a, cell, h1, h2, h3, h4, h5, h6, h7, h8, h9, h10⟩ := h
  exact ⟨c, k, i, f, a, cell, h1, h2, h3, h4, h5, h6, h7, h8, h9, fun z => h10 (hAB _ z)⟩
theorem vx_L.word {C n d : String} {A : Nat → Prop} {s : State} {args : Array Value} (h : vx_L C n d A s s.heap) : (Cond.laysStatic C n d).before args s = true := by
  obtain ⟨c, k, i, f, a, cell, h1, h2, h3, h4, h5, h6, h7, h8, h9, -⟩ := h
  show (Cond.laysStatic C n d).holds args s none s [] = true
  exact Cond.laysStatic_of h1 h2 h3 h4 h5 h6 h7 h8 h9
/-- .. and what it holds: null or some reference -/
def vx_Zq (C n d : String) (A : Nat → Prop) (U : State) (H : Heap) : Prop := va_Zq C n d A U H ∧ vx_L C n d A U H
theorem vx_Zq.moved {C n d : String} {A : Nat → Prop} {u U : State} {H : Heap} (hvm : u.vm.Alike U.vm) (h : vx_Zq C n d A u H) : vx_Zq C n d A U H := ⟨va_Zq.moved hvm h.1, vx_L.moved hvm h.2⟩
theorem vx_Zq.kept {C n d : String} {A : Nat → Prop} {U : State} {H H1 : Heap} (h : vx_Zq C n d A U H) (hq : ∀ a : Nat, a < H.size → ¬ A a → H1[a]? = H[a]?) : vx_Zq C n d A U H1 := ⟨va_Zq.kept h.1 hq, vx_L.kept h.2 hq⟩
theorem vx_Zq.narrow {C n d : String} {A B : Nat → Prop} {U : State} {H : Heap} (h : vx_Zq C n d A U H) (hAB : ∀ q, B q → A q) : vx_Zq C n d B U H := ⟨va_Zq.narrow h.1 hAB, vx_L.narrow h.2 hAB⟩
theorem vx_Zqof {args : Array Value} {s : State} {C n d : String} {A : Nat → Prop} (hl : (Cond.laysStatic C n d).before args s = true) (hini : (Cond.initialized C).before args s = true) (h : (Cond.isRef (.static C n d)).before args s = true) (hA : ∀ a : Nat, a < s.heap.size → ¬ A a) : vx_Zq C n d A s s.heap := by
  refine ⟨va_Zqof hl hini h hA, ?_⟩
  obtain ⟨c, k, i, f, a, cell, h1, h2, h3, h4, h5, h6, h7, h8, h9⟩ := Cond.laysStatic_spec hl
  exact ⟨c, k, i, f, a, cell, h1, h2, h3, h4, h5, h6, h7, h8, h9, hA a (Array.getElem?_eq_some_iff.mp h5).1⟩
theorem vx_isRef {C n d : String} {v : Value} {A : Nat → Prop} {s : State} {args : Array Value} (h : va_Z C n d v A s s.heap) (hv : v.isRef = true) : (Cond.isRef (.static C n d)).before args s = true := by
  obtain ⟨cf, kf, fi, f, a, cell, h1, h2, h3, h4, h5, h6, h7, -⟩ := h
  have he : (Term.static C n d).eval args s none [] s = some v := by
    simp [Term.eval, State.fieldNamed?, h1, h2, h4, h5, h6, h7]
  simp only [Cond.before, Cond.holds, Cond.value, he]
  cases v <;> simp_all [Value.isRef]
theorem vx_isRefq {C n d : String} {A : Nat → Prop} {s : State} {args : Array Value} (h : va_Zq C n d A s s.heap) : (Cond.isRef (.static C n d)).before args s = true := by
  rcases h with h | ⟨t, h⟩
  · exact vx_isRef h rfl
  · exact vx_isRef h rfl
/-- the same frame, seen from here: as if the method were called anew in this heap -/
theorem vx_rebase {T : State} (X : Stand p l e R s m args below meth c T locs cells slots) {R' : Room} (hf : R'.frames ≤ R.frames) (hl : R'.locals ≤ R.locals) (hc : cells + R'.cells ≤ R.cells) (hs : slots + R'.slots ≤ R.slots) :
    Stand p l e R' ((T.setVm s.vm).setFrames (.invoking m args :: below)) m args below meth c T [] 0 0 := by
  have htop : (T.setVm s.vm).topJava?.isSome := X.here.top
  have hF : ((T.setVm s.vm).setFrames (.invoking m args :: below)).frames = .invoking m args :: below := State.frames_setFrames _ (State.cur_lt_of_top htop)
  obtain ⟨g₀, hg0⟩ := Option.isSome_iff_exists.mp htop
  obtain ⟨r, hr⟩ := State.topJava?_eq_some.mp hg0
  have hl9 : e.platform.stackLimits (T.setVm s.vm).me = e.platform.stackLimits s.me := X.limits
  have hb9 : (T.setVm s.vm).me.stackBytes = s.me.stackBytes := X.bytes
  refine ⟨X.admits, X.cas, X.clock, hF, ?_, X.hears, X.method, X.code, X.here, X.tail, X.warmed, ?_, ?_, ?_⟩
  · have h := X.room
    have hU : ((T.setVm s.vm).setFrames (.invoking m args :: below)).localsInUse = s.localsInUse := by
      rw [State.localsInUse_invoking hF (meth := meth) (c := c) X.method X.code, State.localsInUse_invoking X.frames X.method X.code]
    simp only [State.hasRoom, Bool.and_eq_true, decide_eq_true_eq] at h ⊢
    obtain ⟨⟨⟨⟨h1, h2, h3, h4, h5, h6⟩, h7⟩, h8⟩, h9⟩ := h
    rw [X.frames, List.length_cons] at h2 h3
    have q1 := X.heapSize
    have q2 := X.used
    simp only [hF, hU, List.length_cons, State.stackLimits_setFrames, State.stackBytes_setFrames, hl9, hb9]
    refine ⟨⟨⟨⟨by omega, by omega, by omega, by omega, by omega, h6⟩, ?_⟩, ?_⟩, X.book⟩
    · show T.heap.size + R'.cells ≤ e.platform.maxCells
      omega
    · show T.slotsUsed + R'.slots ≤ e.platform.maxSlots
      omega
  · rw [State.stackLimits_setFrames]; rfl
  · rw [State.stackBytes_setFrames]; rfl
  · refine ⟨?_, Nat.le_refl _, Nat.le_refl _, ?_, ?_, fun a c9 h9 => ⟨c9, h9, rfl, rfl, fun _ _ => rfl⟩⟩
    · obtain ⟨t, ht, -⟩ := State.frames_cons hr
      show T.setVm s.vm = { ((T.setVm s.vm).setFrames (.invoking m args :: below)).setFrames (T.setVm s.vm).frames with heap := T.heap, slotsUsed := T.slotsUsed }
      rw [State.setFrames_setFrames, State.setFrames_self ht]
      rfl
    · show T.slotsUsed = T.slotsUsed + ((T.heap.toList.drop T.heap.size).map (·.slots.size)).sum
      rw [List.drop_eq_nil_of_le (Nat.le_of_eq Array.length_toList)]
      rfl
    · show ((T.heap.toList.drop T.heap.size).map (·.slots.size)).sum ≤ 0
      rw [List.drop_eq_nil_of_le (Nat.le_of_eq Array.length_toList)]
      exact Nat.le_refl _
/-- 'throw new E()': new; dup; invokespecial; athrow -/
theorem vx_throw0 {cc : ByteArray} {pc : Nat} (hexec : p.tables.exec = Jvm.exec) (hb : c.code = cc) (hl : l.stackTraces = false) {own cls : String} {names : List String} {ik ic mc ms : Nat} {A : Nat → Prop}
    (hown : s.vm.findClass own = some m.cls) (hcls : Bundle.fit cls = true) (hnames : ∀ n ∈ names, Bundle.fit n = true)
    (hk : (Cond.classLink own ik cls).before args s = true) (hini : (Cond.initialized cls).before args s = true) (hat : ∀ w ∈ vx_at0 own ic cls names, w.before args s = true)
    (hgood : ∀ w ∈ Cond.classLink own ik cls :: Cond.initialized cls :: vx_at0 own ic cls names, vx_ot w = true)
    (hU : vx_Zq Bundle.tN "UNASSIGNED_STACK" Bundle.steD A s s.heap) (hN : vx_Zq Bundle.tN "SUPPRESSED_SENTINEL" Bundle.listD A s s.heap) (hS : va_S A s.heap H locs) (hsize : ls.size = c.maxLocals)
    (d0 : decode cc pc = .ok (.new ik, 3)) (d3 : decode cc (pc + 3) = .ok (.dup, 1)) (d4 : decode cc (pc + 4) = .ok (.invokespecial ic, 3)) (d7 : decode cc (pc + 7) = .ok (.athrow, 1))
    (hout : ∀ x ∈ c.exceptionTable.toList, covers x (pc + 7) = false)
    (hRframes : names.length + 3 < R.frames) (hRlocals : (rest.map fun v => v.category).sum + (13 * (names.length + 1) + 42) ≤ R.locals) (hRcells : cells + 1 ≤ R.cells) (hRslots : slots + 6 ≤ R.slots) (hlocks : meth.locks = false)
    (hx : ∀ t : State, s.vm.Alike t.vm → H.size ≤ t.heap.size → (∀ q : Nat, q < H.size → t.heap[q]? = H[q]?) → XC cls s t)
    (hf : ∀ z ∈ locs, free z.base) (hc : cells + 1 ≤ mc) (hs : slots + 6 ≤ ms) :
    W p l e R s m args below meth c H locs cells slots (vx_MQ below Qc XC args s mc ms free) (F0 m pc ls rest) := by
  intro T hT X
  have htr : e.platform.stackTraces = false := (show e.platform.stackTraces = l.stackTraces by rw [X.admits.platform]).trans hl
  have Y := vx_rebase X (R' := { frames := R.frames, locals := R.locals, cells := 1, slots := 6 }) (Nat.le_refl _) (Nat.le_refl _) hRcells hRslots
  obtain ⟨s', hA⟩ : ∃ z, z = (T.setVm s.vm).setFrames (.invoking m args :: below) := ⟨_, rfl⟩
  rw [← hA] at Y
  have hvm : s'.vm = s.vm := by rw [hA]; rfl
  have hhp : s'.heap = H := by rw [hA]; exact hT
  have hW0 : s.WarmedH s'.vm := by rw [hvm]; exact State.WarmedH.refl s
  have hat' : ∀ w ∈ vx_at0 own ic cls names, w.before args s' = true := fun w hw => vx_ot_at hW0 hvm.symm (hgood w (List.mem_cons_of_mem _ (List.mem_cons_of_mem _ hw))) (hat w hw)
  have hk' : (Cond.classLink own ik cls).before args s' = true := vx_ot_at hW0 hvm.symm (hgood _ List.mem_cons_self) hk
  have hini' : (Cond.initialized cls).before args s' = true := vx_ot_at hW0 hvm.symm (hgood _ (List.mem_cons_of_mem _ List.mem_cons_self)) hini
  have hU' : vx_Zq Bundle.tN "UNASSIGNED_STACK" Bundle.steD A s' s'.heap := by rw [hhp]; exact vx_Zq.moved hW0.alike (hU.kept hS.2.1)
  have hN' : vx_Zq Bundle.tN "SUPPRESSED_SENTINEL" Bundle.listD A s' s'.heap := by rw [hhp]; exact vx_Zq.moved hW0.alike (hN.kept hS.2.1)
  have h : ∀ w ∈ Bundle.ownAtoms0 own ic cls names, w.before args s' = true := vx_own hat' (vx_isRefq hU'.1) (vx_isRefq hN'.1) hU'.2.word hN'.2.word
  have hown' : s'.vm.findClass own = some m.cls := by rw [hvm]; exact hown
  have hins : (Cond.instantiable cls 6).before args s' = true := h _ (by simp [Bundle.ownAtoms0])
  obtain ⟨vm₁, cX, kX, hfX, hkX, -, -, X₁, st1⟩ := Y.newCold hexec (own := own) (C := cls) (index := ik) (n := 6) hown' hk' hins hini'
    (g := F0 m pc ls rest) rfl (by rw [hb]; exact d0) (Nat.le_refl _) (Nat.le_refl _)
  generalize hT1 : (T.setVm vm₁).pushCell { cls := cX, slots := kX.instanceTypes.map defaultValue, vm := .none } = T1 at X₁ st1
  have hcat : (Value.ref T.heap.size).category = 1 := rfl
  have hcellA : T1.heap[T.heap.size]? = some (freshCell cX kX) := by rw [← hT1]; exact State.heap_pushCell_size _ _
  have d3' : decode c.code (pc + 3) = .ok (.dup, 1) := by rw [hb]; exact d3
  obtain ⟨U, hsteps, hrun, hend, hW, hsame, ce, hce, hO⟩ := X₁.ctorThrow0 hexec htr (own := own) (cls := cls) (names := names) (ic := ic) hown' hcls hnames h (fun x hx => nomatch hx) hfX hkX hcellA (by rw [hhp, hT]; exact Nat.le_refl _)
    (g := { method := m, pc := pc + 4, locals := ls, stack := .ref T.heap.size :: .ref T.heap.size :: rest, locked := none }) rfl hsize rfl rfl (rest := rest) rfl
    (by rw [hb]; exact d4) (by rw [hb]; exact d7) hout hRframes (by simp only [List.map_cons, List.sum_cons, hcat]; omega) hlocks
  obtain ⟨f1, f2⟩ := vx_frame hsame
  rw [hhp] at f1 f2
  have hWs : s.WarmedH U.vm := State.WarmedH.trans hW0 hW
  have hcl : s.vm.findClass cls = some ce.cls := by
    have h9 := hO.cls
    rw [hvm] at h9
    exact h9
  have hall : s.sameButNew ({ U with vm := s.vm } : State) locs mc ms := by
    subst hA
    obtain ⟨e1, e2⟩ := hsame
    rw [State.setFrames_setFrames] at e1
    have h2 : (T.setVm s.vm).sameButNew ({ U with vm := s.vm } : State) [] (0 + 1) (0 + 6) := ⟨e1, e2⟩
    have h3 := X.same.trans h2
    rw [List.append_nil] at h3
    exact h3.mono hc hs
  refine ⟨U, ?_, .threw T.heap.size, hrun, hend, Or.inr ⟨T.heap.size, rfl, cls, ce, locs, hx U hWs.alike f1 (fun q hq => f2 q hq (fun z hz => nomatch hz)), hce, hO.vm, hcl, hWs, hall, hf⟩⟩
  refine st1 _ ?_
  show Steps p.tables e below (T1.setTop { method := m, pc := pc + 3, locals := ls, stack := .ref T.heap.size :: rest, locked := none }) _
  jvm_step X₁.here [X₁.here.top, hexec, d3', Value.category]
  exact hsteps
/-- 'throw new E("text")': new; dup; ldc; invokespecial; athrow -/
theorem vx_throwS {cc : ByteArray} {pc : Nat} (hexec : p.tables.exec = Jvm.exec) (hb : c.code = cc) (hl : l.stackTraces = false) {own cls text : String} {names : List String} {ik is ic mc ms sa : Nat} {A : Nat → Prop}
    (hown : s.vm.findClass own = some m.cls) (hcls : Bundle.fit cls = true) (hnames : ∀ n ∈ names, Bundle.fit n = true)
    (hk : (Cond.classLink own ik cls).before args s = true) (hini : (Cond.initialized cls).before args s = true) (hstr : vk_R own is text sa s) (hat : ∀ w ∈ vx_atS own ic cls names, w.before args s = true)
    (hgood : ∀ w ∈ Cond.classLink own ik cls :: Cond.initialized cls :: vx_atS own ic cls names, vx_ot w = true)
    (hU : vx_Zq Bundle.tN "UNASSIGNED_STACK" Bundle.steD A s s.heap) (hN : vx_Zq Bundle.tN "SUPPRESSED_SENTINEL" Bundle.listD A s s.heap) (hS : va_S A s.heap H locs) (hsize : ls.size = c.maxLocals)
    (d0 : decode cc pc = .ok (.new ik, 3)) (d3 : decode cc (pc + 3) = .ok (.dup, 1)) (d4 : decode cc (pc + 4) = .ok (.ldc is, 2)) (d6 : decode cc (pc + 6) = .ok (.invokespecial ic, 3)) (d9 : decode cc (pc + 9) = .ok (.athrow, 1))
    (hout : ∀ x ∈ c.exceptionTable.toList, covers x (pc + 9) = false)
    (hRframes : names.length + 3 < R.frames) (hRlocals : (rest.map fun v => v.category).sum + (13 * (names.length + 1) + 43) ≤ R.locals) (hRcells : cells + 1 ≤ R.cells) (hRslots : slots + 6 ≤ R.slots) (hlocks : meth.locks = false)
    (hx : ∀ t : State, s.vm.Alike t.vm → H.size ≤ t.heap.size → (∀ q : Nat, q < H.size → t.heap[q]? = H[q]?) → XC cls s t)
    (hf : ∀ z ∈ locs, free z.base) (hc : cells + 1 ≤ mc) (hs : slots + 6 ≤ ms) :
    W p l e R s m args below meth c H locs cells slots (vx_MQ below Qc XC args s mc ms free) (F0 m pc ls rest) := by
  intro T hT X
  have htr : e.platform.stackTraces = false := (show e.platform.stackTraces = l.stackTraces by rw [X.admits.platform]).trans hl
  have Y := vx_rebase X (R' := { frames := R.frames, locals := R.locals, cells := 1, slots := 6 }) (Nat.le_refl _) (Nat.le_refl _) hRcells hRslots
  obtain ⟨s', hA⟩ : ∃ z, z = (T.setVm s.vm).setFrames (.invoking m args :: below) := ⟨_, rfl⟩
  rw [← hA] at Y
  have hvm : s'.vm = s.vm := by rw [hA]; rfl
  have hhp : s'.heap = H := by rw [hA]; exact hT
  have hW0 : s.WarmedH s'.vm := by rw [hvm]; exact State.WarmedH.refl s
  have hat' : ∀ w ∈ vx_atS own ic cls names, w.before args s' = true := fun w hw => vx_ot_at hW0 hvm.symm (hgood w (List.mem_cons_of_mem _ (List.mem_cons_of_mem _ hw))) (hat w hw)
  have hk' : (Cond.classLink own ik cls).before args s' = true := vx_ot_at hW0 hvm.symm (hgood _ List.mem_cons_self) hk
  have hini' : (Cond.initialized cls).before args s' = true := vx_ot_at hW0 hvm.symm (hgood _ (List.mem_cons_of_mem _ List.mem_cons_self)) hini
  have hU' : vx_Zq Bundle.tN "UNASSIGNED_STACK" Bundle.steD A s' s'.heap := by rw [hhp]; exact vx_Zq.moved hW0.alike (hU.kept hS.2.1)
  have hN' : vx_Zq Bundle.tN "SUPPRESSED_SENTINEL" Bundle.listD A s' s'.heap := by rw [hhp]; exact vx_Zq.moved hW0.alike (hN.kept hS.2.1)
  have h : ∀ w ∈ Bundle.ownAtoms own ic cls names, w.before args s' = true := vx_own hat' (vx_isRefq hU'.1) (vx_isRefq hN'.1) hU'.2.word hN'.2.word
  have hown' : s'.vm.findClass own = some m.cls := by rw [hvm]; exact hown
  have hins : (Cond.instantiable cls 6).before args s' = true := h _ (by simp [Bundle.ownAtoms])
  obtain ⟨vm₁, cX, kX, hfX, hkX, -, -, X₁, st1⟩ := Y.newCold hexec (own := own) (C := cls) (index := ik) (n := 6) hown' hk' hins hini'
    (g := F0 m pc ls rest) rfl (by rw [hb]; exact d0) (Nat.le_refl _) (Nat.le_refl _)
  generalize hT1 : (T.setVm vm₁).pushCell { cls := cX, slots := kX.instanceTypes.map defaultValue, vm := .none } = T1 at X₁ st1
  have hcat : (Value.ref T.heap.size).category = 1 := rfl
  have hcellA : T1.heap[T.heap.size]? = some (freshCell cX kX) := by rw [← hT1]; exact State.heap_pushCell_size _ _
  have d3' : decode c.code (pc + 3) = .ok (.dup, 1) := by rw [hb]; exact d3
  have d4' : decode c.code (pc + 4) = .ok (.ldc is, 2) := by rw [hb]; exact d4
  have hstr' : vk_R own is text sa s' := vk_R.warm hW0 hstr
  obtain ⟨U, hsteps, hrun, hend, hW, hsame, ce, hce, hO⟩ := X₁.ctorThrowS hexec htr (own := own) (cls := cls) (names := names) (ic := ic) hown' hcls hnames h (fun x hx => nomatch hx) hfX hkX hcellA (by rw [hhp, hT]; exact Nat.le_refl _) (msg := .ref sa) rfl
    (g := { method := m, pc := pc + 6, locals := ls, stack := .ref sa :: .ref T.heap.size :: .ref T.heap.size :: rest, locked := none }) rfl hsize rfl rfl (rest := rest) rfl
    (by rw [hb]; exact d6) (by rw [hb]; exact d9) hout hRframes (by simp only [List.map_cons, List.sum_cons, hcat]; omega) hlocks
  obtain ⟨f1, f2⟩ := vx_frame hsame
  rw [hhp] at f1 f2
  have hWs : s.WarmedH U.vm := State.WarmedH.trans hW0 hW
  have hcl : s.vm.findClass cls = some ce.cls := by
    have h9 := hO.cls
    rw [hvm] at h9
    exact h9
  have hall : s.sameButNew ({ U with vm := s.vm } : State) locs mc ms := by
    subst hA
    obtain ⟨e1, e2⟩ := hsame
    rw [State.setFrames_setFrames] at e1
    have h2 : (T.setVm s.vm).sameButNew ({ U with vm := s.vm } : State) [] (0 + 1) (0 + 6) := ⟨e1, e2⟩
    have h3 := X.same.trans h2
    rw [List.append_nil] at h3
    exact h3.mono hc hs
  refine ⟨U, ?_, .threw T.heap.size, hrun, hend, Or.inr ⟨T.heap.size, rfl, cls, ce, locs, hx U hWs.alike f1 (fun q hq => f2 q hq (fun z hz => nomatch hz)), hce, hO.vm, hcl, hWs, hall, hf⟩⟩
  refine st1 _ ?_
  show Steps p.tables e below (T1.setTop { method := m, pc := pc + 3, locals := ls, stack := .ref T.heap.size :: rest, locked := none }) _
  jvm_step X₁.here [X₁.here.top, hexec, d3', Value.category]
  exact X₁.ldcString hexec (own := own) (text := text) (index := is) (a := sa) hown' hstr'.1 hstr'.2
    (g := { method := m, pc := pc + 4, locals := ls, stack := .ref T.heap.size :: .ref T.heap.size :: rest, locked := none }) rfl d4' _ hsteps
/-- 'throw new E("text")', the text by a wide index -/
theorem vx_throwSW {cc : ByteArray} {pc : Nat} (hexec : p.tables.exec = Jvm.exec) (hb : c.code = cc) (hl : l.stackTraces = false) {own cls text : String} {names : List String} {ik is ic mc ms sa : Nat} {A : Nat → Prop}
    (hown : s.vm.findClass own = some m.cls) (hcls : Bundle.fit cls = true) (hnames : ∀ n ∈ names, Bundle.fit n = true)
    (hk : (Cond.classLink own ik cls).before args s = true) (hini : (Cond.initialized cls).before args s = true) (hstr : vk_R own is text sa s) (hat : ∀ w ∈ vx_atS own ic cls names, w.before args s = true)
    (hgood : ∀ w ∈ Cond.classLink own ik cls :: Cond.initialized cls :: vx_atS own ic cls names, vx_ot w = true)
    (hU : vx_Zq Bundle.tN "UNASSIGNED_STACK" Bundle.steD A s s.heap) (hN : vx_Zq Bundle.tN "SUPPRESSED_SENTINEL" Bundle.listD A s s.heap) (hS : va_S A s.heap H locs) (hsize : ls.size = c.maxLocals)
    (d0 : decode cc pc = .ok (.new ik, 3)) (d3 : decode cc (pc + 3) = .ok (.dup, 1)) (d4 : decode cc (pc + 4) = .ok (.ldc_w is, 3)) (d7 : decode cc (pc + 7) = .ok (.invokespecial ic, 3)) (d10 : decode cc (pc + 10) = .ok (.athrow, 1))
    (hout : ∀ x ∈ c.exceptionTable.toList, covers x (pc + 10) = false)
    (hRframes : names.length + 3 < R.frames) (hRlocals : (rest.map fun v => v.category).sum + (13 * (names.length + 1) + 43) ≤ R.locals) (hRcells : cells + 1 ≤ R.cells) (hRslots : slots + 6 ≤ R.slots) (hlocks : meth.locks = false)
    (hx : ∀ t : State, s.vm.Alike t.vm → H.size ≤ t.heap.size → (∀ q : Nat, q < H.size → t.heap[q]? = H[q]?) → XC cls s t)
    (hf : ∀ z ∈ locs, free z.base) (hc : cells + 1 ≤ mc) (hs : slots + 6 ≤ ms) :
    W p l e R s m args below meth c H locs cells slots (vx_MQ below Qc XC args s mc ms free) (F0 m pc ls rest) := by
  intro T hT X
  have htr : e.platform.stackTraces = false := (show e.platform.stackTraces = l.stackTraces by rw [X.admits.platform]).trans hl
  have Y := vx_rebase X (R' := { frames := R.frames, locals := R.locals, cells := 1, slots := 6 }) (Nat.le_refl _) (Nat.le_refl _) hRcells hRslots
  obtain ⟨s', hA⟩ : ∃ z, z = (T.setVm s.vm).setFrames (.invoking m args :: below) := ⟨_, rfl⟩
  rw [← hA] at Y
  have hvm : s'.vm = s.vm := by rw [hA]; rfl
  have hhp : s'.heap = H := by rw [hA]; exact hT
  have hW0 : s.WarmedH s'.vm := by rw [hvm]; exact State.WarmedH.refl s
  have hat' : ∀ w ∈ vx_atS own ic cls names, w.before args s' = true := fun w hw => vx_ot_at hW0 hvm.symm (hgood w (List.mem_cons_of_mem _ (List.mem_cons_of_mem _ hw))) (hat w hw)
  have hk' : (Cond.classLink own ik cls).before args s' = true := vx_ot_at hW0 hvm.symm (hgood _ List.mem_cons_self) hk
  have hini' : (Cond.initialized cls).before args s' = true := vx_ot_at hW0 hvm.symm (hgood _ (List.mem_cons_of_mem _ List.mem_cons_self)) hini
  have hU' : vx_Zq Bundle.tN "UNASSIGNED_STACK" Bundle.steD A s' s'.heap := by rw [hhp]; exact vx_Zq.moved hW0.alike (hU.kept hS.2.1)
  have hN' : vx_Zq Bundle.tN "SUPPRESSED_SENTINEL" Bundle.listD A s' s'.heap := by rw [hhp]; exact vx_Zq.moved hW0.alike (hN.kept hS.2.1)
  have h : ∀ w ∈ Bundle.ownAtoms own ic cls names, w.before args s' = true := vx_own hat' (vx_isRefq hU'.1) (vx_isRefq hN'.1) hU'.2.word hN'.2.word
  have hown' : s'.vm.findClass own = some m.cls := by rw [hvm]; exact hown
  have hins : (Cond.instantiable cls 6).before args s' = true := h _ (by simp [Bundle.ownAtoms])
  obtain ⟨vm₁, cX, kX, hfX, hkX, -, -, X₁, st1⟩ := Y.newCold hexec (own := own) (C := cls) (index := ik) (n := 6) hown' hk' hins hini'
    (g := F0 m pc ls rest) rfl (by rw [hb]; exact d0) (Nat.le_refl _) (Nat.le_refl _)
  generalize hT1 : (T.setVm vm₁).pushCell { cls := cX, slots := kX.instanceTypes.map defaultValue, vm := .none } = T1 at X₁ st1
  have hcat : (Value.ref T.heap.size).category = 1 := rfl
  have hcellA : T1.heap[T.heap.size]? = some (freshCell cX kX) := by rw [← hT1]; exact State.heap_pushCell_size _ _
  have d3' : decode c.code (pc + 3) = .ok (.dup, 1) := by rw [hb]; exact d3
  have d4' : decode c.code (pc + 4) = .ok (.ldc_w is, 3) := by rw [hb]; exact d4
  have hstr' : vk_R own is text sa s' := vk_R.warm hW0 hstr
  obtain ⟨U, hsteps, hrun, hend, hW, hsame, ce, hce, hO⟩ := X₁.ctorThrowS hexec htr (own := own) (cls := cls) (names := names) (ic := ic) hown' hcls hnames h (fun x hx => nomatch hx) hfX hkX hcellA (by rw [hhp, hT]; exact Nat.le_refl _) (msg := .ref sa) rfl
    (g := { method := m, pc := pc + 7, locals := ls, stack := .ref sa :: .ref T.heap.size :: .ref T.heap.size :: rest, locked := none }) rfl hsize rfl rfl (rest := rest) rfl
    (by rw [hb]; exact d7) (by rw [hb]; exact d10) hout hRframes (by simp only [List.map_cons, List.sum_cons, hcat]; omega) hlocks
  obtain ⟨f1, f2⟩ := vx_frame hsame
  rw [hhp] at f1 f2
  have hWs : s.WarmedH U.vm := State.WarmedH.trans hW0 hW
  have hcl : s.vm.findClass cls = some ce.cls := by
    have h9 := hO.cls
    rw [hvm] at h9
    exact h9
  have hall : s.sameButNew ({ U with vm := s.vm } : State) locs mc ms := by
    subst hA
    obtain ⟨e1, e2⟩ := hsame
    rw [State.setFrames_setFrames] at e1
    have h2 : (T.setVm s.vm).sameButNew ({ U with vm := s.vm } : State) [] (0 + 1) (0 + 6) := ⟨e1, e2⟩
    have h3 := X.same.trans h2
    rw [List.append_nil] at h3
    exact h3.mono hc hs
  refine ⟨U, ?_, .threw T.heap.size, hrun, hend, Or.inr ⟨T.heap.size, rfl, cls, ce, locs, hx U hWs.alike f1 (fun q hq => f2 q hq (fun z hz => nomatch hz)), hce, hO.vm, hcl, hWs, hall, hf⟩⟩
  refine st1 _ ?_
  show Steps p.tables e below (T1.setTop { method := m, pc := pc + 3, locals := ls, stack := .ref T.heap.size :: rest, locked := none }) _
  jvm_step X₁.here [X₁.here.top, hexec, d3', Value.category]
  exact X₁.ldcStringW hexec (own := own) (text := text) (index := is) (a := sa) hown' hstr'.1 hstr'.2
    (g := { method := m, pc := pc + 4, locals := ls, stack := .ref T.heap.size :: .ref T.heap.size :: rest, locked := none }) rfl d4' _ hsteps
end Ends
section Bodies
variable {l : Launch}
theorem vx_ofW {y : MethodName} {ws ws' : List Cond} {rm : Room} {Pc : Array Value → State → Prop} {Qc : Array Value → State → Outcome → State → Prop} {XC : String → State → State → Prop} {mc ms : Nat} {free : Addr → Prop} {cc : ByteArray} {maxL : Nat} {ret : Option FieldType}
    (hy : plainName y.cls = true) (hw : ws = Cond.code y cc maxL ret :: ws')
    (body : ∀ p e s m args below meth c s₁, BodyLoose p l y (headSpec ws rm) cc maxL ret e s m args below meth c s₁ → c.maxLocals = maxL → (∀ x ∈ c.exceptionTable.toList, False) → Pc args s →
      W p l e (headSpec ws rm).room s m args below meth c s.heap [] 0 0 (vx_MQ below Qc XC args s mc ms free) (entryFrame m args maxL)) : vx_Met l y ws rm Pc Qc XC mc ms free := by
  refine MetFree.of_bodyS (code := cc) (maxLocals := maxL) (ret := ret) hy ?_ ?_
  · intro args s m h hn
    obtain ⟨meth, c, h1, h2, h3, h4, h5, h6, -, -⟩ := Cond.code_spec hn (atoms_spec (ws := ws) h _ (by rw [hw]; exact List.mem_cons_self))
    exact ⟨meth, c, h1, h2, h3, h4, h5, h6⟩
  · intro p e s m args below meth c s₁ B hml hP _
    have hh0 : s₁.heap = s.heap := by rw [B.state]; rfl
    have ht : ∀ x ∈ c.exceptionTable.toList, False := by
      obtain ⟨meth9, c9, h1, h2, -, -, -, -, h7, -⟩ := Cond.code_spec B.named (atoms_spec (ws := ws) B.pre _ (by rw [hw]; exact List.mem_cons_self))
      cases Option.some.inj (h1.symm.trans B.method)
      cases Option.some.inj (h2.symm.trans (Stand.of_body B).code)
      intro x hx
      rw [Array.isEmpty_iff.mp h7] at hx
      cases hx
    obtain ⟨t, a1, o, b1, b2, b3⟩ := body p e s m args below meth c s₁ B hml ht hP s₁ hh0 (Stand.of_body B)
    exact ⟨t, o, a1, b1, b2, b3⟩
/-- the table of a body with handlers -/
theorem vx_table {p : Program} {x y : MethodName} {S : Spec} {cc bytes : ByteArray} {maxL maxL' : Nat} {ret ret' : Option FieldType} {e : Env} {s s₁ : State} {m : MethodId} {args : Array Value} {below : List Frame} {meth : Method} {c : Code} {hh : List (Nat × Nat × Nat × Nat)}
    (B : BodyLoose p l y S cc maxL ret e s m args below meth c s₁) (h : (Cond.codeWith y bytes maxL' ret' hh).before args s = true) : c.exceptionTable.toList = tableOf hh := by
  obtain ⟨m9, meth9, c9, hn9, h1, h2, -, -, h6, -⟩ := Cond.codeWith_spec h
  cases Option.some.inj (hn9.symm.trans B.named)
  cases Option.some.inj (h1.symm.trans B.method)
  cases Option.some.inj (h2.symm.trans (Stand.of_body B).code)
  rw [← h6, table_eq]
end Bodies
end VXA
/-! ===== END ===== -/
/-! ===== BEGIN a static call of a method with an exception table ===== -/
section VXS
variable {p : Program} {l : Launch} {e : Env} {R : Room} {s : State} {m : MethodId} {args : Array Value} {below : List Frame} {meth : Method} {c : Code} {T : State} {H : Heap} {locs : List Loc} {cells slots : Nat}
abbrev vx_CSW (R : Room) (s : State) (args : Array Value) (own : String) (index : Nat) (y : MethodName) (bytes : ByteArray) (maxL : Nat) (ret : Option FieldType) (hh : List (Nat × Nat × Nat × Nat)) (ws : List Cond) (rm : Room) (mc ms n : Nat) : Prop :=
  (rm.cells = mc ∧ rm.slots = ms ∧ rm.frames + 1 ≤ R.frames ∧ 8 + (maxL + 11) + rm.locals ≤ R.locals ∧ (∀ w ∈ ws, ∀ (a' : Array Value) (U : State), s.WarmedH U.vm → w.before a' U = true) ∧ Cond.codeWith y bytes maxL ret hh ∈ ws) ∧
  (Cond.codeWith y bytes maxL ret hh).before args s = true ∧ (Cond.initialized y.cls).before args s = true ∧ (y.cls ≠ "java/lang/invoke/MethodHandle" ∧ y.cls ≠ "java/lang/invoke/VarHandle") ∧
  (∀ sig, parseMethodDescriptor y.desc = some sig → n = sig.parameters.length) ∧ (Cond.methodLink own index y).before args s = true ∧ (Cond.static y).before args s = true
theorem vx_cwSW {own : String} {index maxL mc ms : Nat} {y : MethodName} {bytes : ByteArray} {ret : Option FieldType} {hh : List (Nat × Nat × Nat × Nat)} {Ts ws ws' : List Cond} {rm : Room} (n : Nat) (ht : ∀ w ∈ Ts, w.before args s = true) (hT : GoodIn Ts (va_wsS own index y ws)) (hw : ws = Cond.codeWith y bytes maxL ret hh :: ws') (hrc : rm.cells = mc) (hrs : rm.slots = ms)
    (hd : y.cls ≠ "java/lang/invoke/MethodHandle" ∧ y.cls ≠ "java/lang/invoke/VarHandle" ∧ (parseMethodDescriptor y.desc).map (fun d => d.parameters.length) = some n) (hR : rm.frames + 1 ≤ R.frames ∧ 8 + (maxL + 11) + rm.locals ≤ R.locals) :
    vx_CSW R s args own index y bytes maxL ret hh ws rm mc ms n := by
  have ok : ∀ w ∈ va_wsS own index y ws, w.before args s = true := fun w h => ht w (hT w h).1
  have hG : GoodIn Ts ws := fun w h => hT w (by unfold va_wsS; exact List.mem_append_right _ h)
  have hc : Cond.codeWith y bytes maxL ret hh ∈ ws := by rw [hw]; exact List.mem_cons_self
  refine ⟨⟨hrc, hrs, hR.1, hR.2, pay_in ht hG, hc⟩, ht _ (hG _ hc).1, ok _ (by simp [va_wsS]), ⟨hd.1, hd.2.1⟩, fun sig h => ?_, ok _ (by simp [va_wsS]), ok _ (by simp [va_wsS])⟩
  have h2 := hd.2.2
  rw [h] at h2
  exact (Option.some.inj h2).symm
theorem vx_callSW (X : Stand p l e R s m args below meth c T locs cells slots) (hexec : p.tables.exec = Jvm.exec) {own : String} {index : Nat} {y : MethodName} {bytes : ByteArray} {maxL : Nat} {ret : Option FieldType} {hh : List (Nat × Nat × Nat × Nat)}
    (hown : s.vm.findClass own = some m.cls) (hlink : (Cond.methodLink own index y).before args s = true) (hstat : (Cond.static y).before args s = true) (hinit : (Cond.initialized y.cls).before args s = true)
    (hcode : (Cond.codeWith y bytes maxL ret hh).before args s = true) (hy : y.cls ≠ "java/lang/invoke/MethodHandle" ∧ y.cls ≠ "java/lang/invoke/VarHandle")
    {W9 : Nat} {Pre : Pt → Array Value → Prop} {Post : Pt → Array Value → Option Value → Pt → Prop} (hK : Back l R p e below s args y 3 W9 Pre Post)
    {g : JFrame} (hg : g.method = m) (hsize : g.locals.size = c.maxLocals) {argsL rest : List Value} (hlen : ∀ sig, parseMethodDescriptor y.desc = some sig → argsL.length = sig.parameters.length)
    (hstack : g.stack = argsL.reverse ++ rest) (hW : 2 * g.monitorRoom + (rest.map fun v => v.category).sum ≤ W9) (hdg : decode c.code g.pc = .ok (.invokestatic index, 3))
    (hpre : ∀ vm₁, s.WarmedH vm₁ → Pre ⟨T.setVm vm₁, locs, cells, slots⟩ argsL.toArray) :
    ∃ (v : Option Value) (vm₁ : Vm) (B : Pt), s.WarmedH vm₁ ∧ Stand p l e R s m args below meth c B.U B.locs B.cells B.slots ∧ Post ⟨T.setVm vm₁, locs, cells, slots⟩ argsL.toArray v B ∧
      ∀ target, Steps p.tables e below (B.U.setTop { g with pc := g.pc + 3, stack := v.toList ++ rest }) target → Steps p.tables e below (T.setTop g) target := by
  obtain ⟨mk, methM, cM, hnamed, hmethM, -, -, -, -, -, -, hsigM⟩ := Cond.codeWith_spec hcode
  have hstatic : methM.isStatic = true := Cond.static_spec hnamed hmethM hstat
  obtain ⟨kP, hkP, -⟩ := className_of_methodNamed hnamed
  have hinitP : kP.init = .initialized := Cond.initialized_spec (findClass_of_methodNamed hnamed) hkP hinit
  obtain ⟨vm₁, X₁, hstep₁⟩ := X.invokestatic hexec hown hlink hnamed hmethM hstatic hkP hinitP hy (g := g) hg (argsL := argsL) (rest := rest) (hlen _ hsigM) hstack hdg
  obtain ⟨v, B, X', hpost, hsteps⟩ := hK m meth c ⟨T.setVm vm₁, locs, cells, slots⟩ { g with stack := rest } (.invokestatic index) mk argsL.toArray X₁ hg hsize hdg hW (X₁.named hnamed) (hpre vm₁ X₁.warmed)
  exact ⟨v, vm₁, B, X₁.warmed, X', hpost, fun target h => hstep₁ _ fun acts => by rw [doInvoke_state]; exact hsteps.trans h⟩
theorem vx_runSW {y : MethodName} {bytes cc : ByteArray} {maxL nL mc ms n index : Nat} {ret : Option FieldType} {hh : List (Nat × Nat × Nat × Nat)} {ws : List Cond} {rm : Room} {Pc : Array Value → State → Prop} {Qc : Array Value → State → Outcome → State → Prop} {free : Addr → Prop} {Ts : List Cond} {own : String} {As rest : List Value} {g : JFrame}
    (S : CallFix p m c cc nL s args Ts own) (hM : Met l y ws rm Pc Qc mc ms free) (cw : vx_CSW R s args own index y bytes maxL ret hh ws rm mc ms n) (hp : PreS s H Pc As)
    (hg : g.method = m) (hn : As.length = n) (hsize : g.locals.size = nL) (hstack : g.stack = As.reverse ++ rest) (hW : 2 * g.monitorRoom + (rest.map fun v => v.category).sum ≤ 8) (hdg : decode cc g.pc = .ok (.invokestatic index, 3)) (hf : cells + mc ≤ R.cells ∧ slots + ms ≤ R.slots) :
    va_Run p l e R s m args below meth c H locs cells slots mc ms g rest (Qc As.toArray) (free) := by
  obtain ⟨⟨hrc, hrs, hfr, hlo, hws, hcw⟩, hcode, hini, hy, hlen, hl, hstt⟩ := cw
  have hK : Back l R p e below s args y 3 8 (PreOf R mc ms Pc) (PostOf Qc mc ms free) := va_backW (hh := hh) (bytes := bytes) (maxL := maxL) (ret := ret) hM hp.1 hrc hrs hfr hlo hws hcw (fun a' U hW => word_at hW (Or.inl (by first | rfl | simp [Cond.onTables, Cond.keeps, Cond.steady])) hini)
  obtain ⟨hx, hb, hml, ho, -⟩ := S
  intro T hT X
  obtain ⟨v, vm₁, ⟨U', l2, c2, s2⟩, hW₁, X', ⟨g', mk, t, L, e1, e2, hq, h1, hL, h2, h3⟩, st⟩ := vx_callSW X hx (hh := hh) (bytes := bytes) (maxL := maxL) (ret := ret) ho hl hstt hini hcode hy hK hg (hsize.trans hml.symm) (argsL := As) (rest := rest) (fun sig h => hn.trans (hlen sig h)) hstack hW (by rw [hb]; exact hdg)
    (fun vm₁ hW₁ => ⟨hf.1, hf.2, hp.2 (T.setVm vm₁) hT hW₁⟩)
  dsimp only [Pt.U, Pt.locs, Pt.cells, Pt.slots] at X' e1 e2 h1 h2 h3 st
  subst h1; subst h2; subst h3
  exact ⟨v, (T.setVm vm₁).calling g' mk As.toArray, t, U', L, hT, X', hL, e1, e2, hq, st⟩
end VXS
theorem vx_ofWH {l : Launch} {y : MethodName} {ws ws' : List Cond} {rm : Room} {Pc : Array Value → State → Prop} {Qc : Array Value → State → Outcome → State → Prop} {XC : String → State → State → Prop} {mc ms : Nat} {free : Addr → Prop} {cc : ByteArray} {maxL : Nat} {ret : Option FieldType} {hh : List (Nat × Nat × Nat × Nat)}
    (hy : plainName y.cls = true) (hw : ws = Cond.codeWith y cc maxL ret hh :: ws')
    (body : ∀ p e s m args below meth c s₁, BodyLoose p l y (headSpec ws rm) cc maxL ret e s m args below meth c s₁ → c.maxLocals = maxL → Pc args s →
      W p l e (headSpec ws rm).room s m args below meth c s.heap [] 0 0 (vx_MQ below Qc XC args s mc ms free) (entryFrame m args maxL)) : vx_Met l y ws rm Pc Qc XC mc ms free := by
  refine MetFree.of_bodyS (code := cc) (maxLocals := maxL) (ret := ret) hy ?_ ?_
  · intro args s m h hn
    obtain ⟨m9, meth, c, hn9, h1, h2, h3, h4, -, h5, h6, -⟩ := Cond.codeWith_spec (atoms_spec (ws := ws) h _ (by rw [hw]; exact List.mem_cons_self))
    cases hn.symm.trans hn9
    exact ⟨meth, c, h1, h2, h3, h4, h5, h6⟩
  · intro p e s m args below meth c s₁ B hml hP _
    have hh0 : s₁.heap = s.heap := by rw [B.state]; rfl
    obtain ⟨t, a1, o, b1, b2, b3⟩ := body p e s m args below meth c s₁ B hml hP s₁ hh0 (Stand.of_body B)
    exact ⟨t, o, a1, b1, b2, b3⟩
/-! ===== END ===== -/

/-! ===== BEGIN printed: names, fields, word lists, decode rows ===== -/
end
section
def RX0 : String := "OrderedBytes$Block"
def TX0 : u_T := fun k => match k with
  | 0 => ("OrderedBytes$Block", "start", "I", false)
  | 1 => ("OrderedBytes$Block", "units", "I", false)
  | 2 => ("OrderedBytes$Block", "owner", "LOrderedBytes$Node;", false)
  | _ => ("OrderedBytes$Block", "behind", "LOrderedBytes$Block;", false)
def tyX0 : Nat → FieldType := fun k => match k with
  | 0 => .int
  | 1 => .int
  | 2 => .object "OrderedBytes$Node"
  | _ => .object "OrderedBytes$Block"
abbrev wsX00 : List Cond := u_ws RX0 TX0 4
theorem nmX0 : ∀ a, a < 4 → ∀ b, b < 4 → a ≠ b → (TX0 a).2.1 ≠ (TX0 b).2.1 := by decide +kernel
theorem tyX0_ok : ∀ k, k < 4 → parseFieldDescriptor (TX0 k).2.2.1 = some (tyX0 k) := by decide +kernel
abbrev cX0_init : ByteArray := prog_2_method_1_code
def yX0_init : MethodName := ⟨RX0, "<init>", "(II)V"⟩
def RX1 : String := "OrderedBytes$Heap"
def TX1 : u_T := fun k => match k with
  | 0 => ("OrderedBytes$Heap", "limit", "I", true)
  | 1 => ("OrderedBytes$Heap", "edge", "LOrderedBytes$Block;", true)
  | 2 => ("OrderedBytes$Heap", "used", "I", false)
  | 3 => ("OrderedBytes$Heap", "capacity", "I", false)
  | _ => ("OrderedBytes$Heap", "bytes", "[B", false)
def tyX1 : Nat → FieldType := fun k => match k with
  | 0 => .int
  | 1 => .object "OrderedBytes$Block"
  | 2 => .int
  | 3 => .int
  | _ => .array .byte
abbrev wsX10 : List Cond := u_ws RX1 TX1 5
theorem nmX1 : ∀ a, a < 5 → ∀ b, b < 5 → a ≠ b → (TX1 a).2.1 ≠ (TX1 b).2.1 := by decide +kernel
theorem tyX1_ok : ∀ k, k < 5 → parseFieldDescriptor (TX1 k).2.2.1 = some (tyX1 k) := by decide +kernel
abbrev cX1_init : ByteArray := prog_3_method_1_code
def yX1_init : MethodName := ⟨RX1, "<init>", "(I)V"⟩
abbrev cX1_take : ByteArray := prog_3_method_2_code
def yX1_take : MethodName := ⟨RX1, "take", "(LOrderedBytes$Node;I)LOrderedBytes$Block;"⟩
abbrev cX1_giveBack : ByteArray := prog_3_method_3_code
def yX1_giveBack : MethodName := ⟨RX1, "giveBack", "(LOrderedBytes$Block;)V"⟩
abbrev cX1_empty : ByteArray := prog_3_method_4_code
def yX1_empty : MethodName := ⟨RX1, "empty", "()V"⟩
abbrev cX1_write : ByteArray := prog_3_method_5_code
def yX1_write : MethodName := ⟨RX1, "write", "(LOrderedBytes$Block;LOrderedBytes$Row;I)V"⟩
abbrev cX1_read : ByteArray := prog_3_method_6_code
def yX1_read : MethodName := ⟨RX1, "read", "(LOrderedBytes$Block;IILOrderedBytes$Row;)V"⟩
abbrev cX1_compareRow : ByteArray := prog_3_method_7_code
def yX1_compareRow : MethodName := ⟨RX1, "compareRow", "(LOrderedBytes$Row;ILOrderedBytes$Node;)I"⟩
abbrev cX1_compareNodes : ByteArray := prog_3_method_8_code
def yX1_compareNodes : MethodName := ⟨RX1, "compareNodes", "(LOrderedBytes$Node;LOrderedBytes$Node;)I"⟩
abbrev cX1_compareBytes : ByteArray := prog_3_method_9_code
def yX1_compareBytes : MethodName := ⟨RX1, "compareBytes", "([BIILOrderedBytes$Node;)I"⟩
abbrev cX1_firstFit : ByteArray := prog_3_method_10_code
def yX1_firstFit : MethodName := ⟨RX1, "firstFit", "(I)LOrderedBytes$Block;"⟩
abbrev cX1_joinFreeOnes : ByteArray := prog_3_method_11_code
def yX1_joinFreeOnes : MethodName := ⟨RX1, "joinFreeOnes", "(LOrderedBytes$Block;)V"⟩
abbrev cX1_cut : ByteArray := prog_3_method_12_code
def yX1_cut : MethodName := ⟨RX1, "cut", "(LOrderedBytes$Block;I)V"⟩
abbrev cX1_grow : ByteArray := prog_3_method_13_code
def yX1_grow : MethodName := ⟨RX1, "grow", "(I)V"⟩
abbrev cX1_pushTogether : ByteArray := prog_3_method_14_code
def yX1_pushTogether : MethodName := ⟨RX1, "pushTogether", "()LOrderedBytes$Block;"⟩
abbrev cX1_moveTo : ByteArray := prog_3_method_15_code
def yX1_moveTo : MethodName := ⟨RX1, "moveTo", "(LOrderedBytes$Block;I)V"⟩
abbrev cX1_isSound : ByteArray := prog_3_method_16_code
def yX1_isSound : MethodName := ⟨RX1, "isSound", "()Z"⟩
def RX2 : String := "OrderedBytes$Node"
def TX2 : u_T := fun k => match k with
  | 0 => ("OrderedBytes$Node", "keyBytes", "I", true)
  | 1 => ("OrderedBytes$Node", "valueBytes", "I", false)
  | 2 => ("OrderedBytes$Node", "block", "LOrderedBytes$Block;", false)
  | 3 => ("OrderedBytes$Node", "left", "LOrderedBytes$Node;", false)
  | 4 => ("OrderedBytes$Node", "right", "LOrderedBytes$Node;", false)
  | 5 => ("OrderedBytes$Node", "parent", "LOrderedBytes$Node;", false)
  | 6 => ("OrderedBytes$Node", "red", "Z", false)
  | _ => ("OrderedBytes$Node", "size", "I", false)
def tyX2 : Nat → FieldType := fun k => match k with
  | 0 => .int
  | 1 => .int
  | 2 => .object "OrderedBytes$Block"
  | 3 => .object "OrderedBytes$Node"
  | 4 => .object "OrderedBytes$Node"
  | 5 => .object "OrderedBytes$Node"
  | 6 => .boolean
  | _ => .int
abbrev wsX20 : List Cond := u_ws RX2 TX2 8
theorem nmX2 : ∀ a, a < 8 → ∀ b, b < 8 → a ≠ b → (TX2 a).2.1 ≠ (TX2 b).2.1 := by decide +kernel
theorem tyX2_ok : ∀ k, k < 8 → parseFieldDescriptor (TX2 k).2.2.1 = some (tyX2 k) := by decide +kernel
abbrev cX2_init : ByteArray := prog_4_method_1_code
def yX2_init : MethodName := ⟨RX2, "<init>", "(I)V"⟩
abbrev cX2_child : ByteArray := prog_4_method_2_code
def yX2_child : MethodName := ⟨RX2, "child", "(I)LOrderedBytes$Node;"⟩
abbrev cX2_setChild : ByteArray := prog_4_method_3_code
def yX2_setChild : MethodName := ⟨RX2, "setChild", "(ILOrderedBytes$Node;)V"⟩
abbrev cX2_sideOf : ByteArray := prog_4_method_4_code
def yX2_sideOf : MethodName := ⟨RX2, "sideOf", "(LOrderedBytes$Node;)I"⟩
def RX3 : String := "OrderedBytes$Row"
def TX3 : u_T := fun k => match k with
  | 0 => ("OrderedBytes$Row", "bytes", "[B", true)
  | _ => ("OrderedBytes$Row", "length", "I", false)
def tyX3 : Nat → FieldType := fun k => match k with
  | 0 => .array .byte
  | _ => .int
abbrev wsX30 : List Cond := u_ws RX3 TX3 2
theorem nmX3 : ∀ a, a < 2 → ∀ b, b < 2 → a ≠ b → (TX3 a).2.1 ≠ (TX3 b).2.1 := by decide +kernel
theorem tyX3_ok : ∀ k, k < 2 → parseFieldDescriptor (TX3 k).2.2.1 = some (tyX3 k) := by decide +kernel
abbrev cX3_init : ByteArray := prog_5_method_1_code
def yX3_init : MethodName := ⟨RX3, "<init>", "(I)V"⟩
abbrev cX3_append : ByteArray := prog_5_method_2_code
def yX3_append : MethodName := ⟨RX3, "append", "(B)V"⟩
def RX4 : String := "OrderedBytes$Tree"
def TX4 : u_T := fun k => match k with
  | 0 => ("OrderedBytes$Tree", "heap", "LOrderedBytes$Heap;", true)
  | 1 => ("OrderedBytes$Tree", "nil", "LOrderedBytes$Node;", true)
  | _ => ("OrderedBytes$Tree", "root", "LOrderedBytes$Node;", false)
def tyX4 : Nat → FieldType := fun k => match k with
  | 0 => .object "OrderedBytes$Heap"
  | 1 => .object "OrderedBytes$Node"
  | _ => .object "OrderedBytes$Node"
abbrev wsX40 : List Cond := u_ws RX4 TX4 3
theorem nmX4 : ∀ a, a < 3 → ∀ b, b < 3 → a ≠ b → (TX4 a).2.1 ≠ (TX4 b).2.1 := by decide +kernel
theorem tyX4_ok : ∀ k, k < 3 → parseFieldDescriptor (TX4 k).2.2.1 = some (tyX4 k) := by decide +kernel
abbrev cX4_init : ByteArray := prog_6_method_1_code
def yX4_init : MethodName := ⟨RX4, "<init>", "(LOrderedBytes$Heap;)V"⟩
abbrev cX4_size : ByteArray := prog_6_method_2_code
def yX4_size : MethodName := ⟨RX4, "size", "()I"⟩
abbrev cX4_empty : ByteArray := prog_6_method_3_code
def yX4_empty : MethodName := ⟨RX4, "empty", "()V"⟩
abbrev cX4_find : ByteArray := prog_6_method_4_code
def yX4_find : MethodName := ⟨RX4, "find", "(LOrderedBytes$Row;I)LOrderedBytes$Node;"⟩
abbrev cX4_keysBelow : ByteArray := prog_6_method_5_code
def yX4_keysBelow : MethodName := ⟨RX4, "keysBelow", "(LOrderedBytes$Row;IZ)I"⟩
abbrev cX4_pick : ByteArray := prog_6_method_6_code
def yX4_pick : MethodName := ⟨RX4, "pick", "(I)LOrderedBytes$Node;"⟩
abbrev cX4_placeOf : ByteArray := prog_6_method_7_code
def yX4_placeOf : MethodName := ⟨RX4, "placeOf", "(LOrderedBytes$Node;)I"⟩
abbrev cX4_holds : ByteArray := prog_6_method_8_code
def yX4_holds : MethodName := ⟨RX4, "holds", "(LOrderedBytes$Node;)Z"⟩
abbrev cX4_link : ByteArray := prog_6_method_9_code
def yX4_link : MethodName := ⟨RX4, "link", "(LOrderedBytes$Node;)V"⟩
abbrev cX4_unlink : ByteArray := prog_6_method_10_code
def yX4_unlink : MethodName := ⟨RX4, "unlink", "(LOrderedBytes$Node;)V"⟩
abbrev cX4_least : ByteArray := prog_6_method_11_code
def yX4_least : MethodName := ⟨RX4, "least", "(LOrderedBytes$Node;)LOrderedBytes$Node;"⟩
abbrev cX4_replace : ByteArray := prog_6_method_12_code
def yX4_replace : MethodName := ⟨RX4, "replace", "(LOrderedBytes$Node;LOrderedBytes$Node;)V"⟩
abbrev cX4_takeOver : ByteArray := prog_6_method_13_code
def yX4_takeOver : MethodName := ⟨RX4, "takeOver", "(LOrderedBytes$Node;LOrderedBytes$Node;)V"⟩
abbrev cX4_rotate : ByteArray := prog_6_method_14_code
def yX4_rotate : MethodName := ⟨RX4, "rotate", "(LOrderedBytes$Node;I)V"⟩
abbrev cX4_mendRedBelowRed : ByteArray := prog_6_method_15_code
def yX4_mendRedBelowRed : MethodName := ⟨RX4, "mendRedBelowRed", "(LOrderedBytes$Node;)V"⟩
abbrev cX4_mendMissingBlack : ByteArray := prog_6_method_16_code
def yX4_mendMissingBlack : MethodName := ⟨RX4, "mendMissingBlack", "(LOrderedBytes$Node;)V"⟩
abbrev cX4_giveBlackFrom : ByteArray := prog_6_method_17_code
def yX4_giveBlackFrom : MethodName := ⟨RX4, "giveBlackFrom", "(LOrderedBytes$Node;LOrderedBytes$Node;I)V"⟩
abbrev cX4_isSound : ByteArray := prog_6_method_18_code
def yX4_isSound : MethodName := ⟨RX4, "isSound", "()Z"⟩
abbrev cX4_blackOnes : ByteArray := prog_6_method_19_code
def yX4_blackOnes : MethodName := ⟨RX4, "blackOnes", "(LOrderedBytes$Tree;LOrderedBytes$Node;LOrderedBytes$Node;LOrderedBytes$Node;I)I"⟩
abbrev cX4_isLinkedWell : ByteArray := prog_6_method_20_code
def yX4_isLinkedWell : MethodName := ⟨RX4, "isLinkedWell", "(LOrderedBytes$Node;)Z"⟩
abbrev cX4_isBetween : ByteArray := prog_6_method_21_code
def yX4_isBetween : MethodName := ⟨RX4, "isBetween", "(LOrderedBytes$Node;LOrderedBytes$Node;LOrderedBytes$Node;)Z"⟩
def RX5 : String := "OrderedBytes"
def TX5 : u_T := fun k => match k with
  | 0 => ("OrderedBytes", "entryLimit", "I", true)
  | 1 => ("OrderedBytes", "heap", "LOrderedBytes$Heap;", true)
  | 2 => ("OrderedBytes", "tree", "LOrderedBytes$Tree;", true)
  | 3 => ("OrderedBytes", "tape", "LOrderedBytes$Row;", true)
  | 4 => ("OrderedBytes", "result", "LOrderedBytes$Row;", true)
  | 5 => ("OrderedBytes", "current", "LOrderedBytes$Node;", false)
  | 6 => ("OrderedBytes", "keyBytes", "I", false)
  | _ => ("OrderedBytes", "valueBytes", "I", false)
def tyX5 : Nat → FieldType := fun k => match k with
  | 0 => .int
  | 1 => .object "OrderedBytes$Heap"
  | 2 => .object "OrderedBytes$Tree"
  | 3 => .object "OrderedBytes$Row"
  | 4 => .object "OrderedBytes$Row"
  | 5 => .object "OrderedBytes$Node"
  | 6 => .int
  | _ => .int
abbrev wsX50 : List Cond := u_ws RX5 TX5 8
theorem nmX5 : ∀ a, a < 8 → ∀ b, b < 8 → a ≠ b → (TX5 a).2.1 ≠ (TX5 b).2.1 := by decide +kernel
theorem tyX5_ok : ∀ k, k < 8 → parseFieldDescriptor (TX5 k).2.2.1 = some (tyX5 k) := by decide +kernel
abbrev cX5_init : ByteArray := prog_1_method_1_code
def yX5_init : MethodName := ⟨RX5, "<init>", "(II)V"⟩
abbrev cX5_feed : ByteArray := prog_1_method_2_code
def yX5_feed : MethodName := ⟨RX5, "feed", "(JI)I"⟩
abbrev cX5_put : ByteArray := prog_1_method_3_code
def yX5_put : MethodName := ⟨RX5, "put", "(I)Z"⟩
abbrev cX5_get : ByteArray := prog_1_method_4_code
def yX5_get : MethodName := ⟨RX5, "get", "()I"⟩
abbrev cX5_remove : ByteArray := prog_1_method_5_code
def yX5_remove : MethodName := ⟨RX5, "remove", "()Z"⟩
abbrev cX5_seek : ByteArray := prog_1_method_6_code
def yX5_seek : MethodName := ⟨RX5, "seek", "(I)I"⟩
abbrev cX5_at : ByteArray := prog_1_method_7_code
def yX5_at : MethodName := ⟨RX5, "at", "(I)I"⟩
abbrev cX5_step : ByteArray := prog_1_method_8_code
def yX5_step : MethodName := ⟨RX5, "step", "(Z)Z"⟩
abbrev cX5_value : ByteArray := prog_1_method_9_code
def yX5_value : MethodName := ⟨RX5, "value", "()I"⟩
abbrev cX5_place : ByteArray := prog_1_method_10_code
def yX5_place : MethodName := ⟨RX5, "place", "()I"⟩
abbrev cX5_range : ByteArray := prog_1_method_11_code
def yX5_range : MethodName := ⟨RX5, "range", "()I"⟩
abbrev cX5_removeFrom : ByteArray := prog_1_method_12_code
def yX5_removeFrom : MethodName := ⟨RX5, "removeFrom", "(I)I"⟩
abbrev cX5_clear : ByteArray := prog_1_method_13_code
def yX5_clear : MethodName := ⟨RX5, "clear", "()I"⟩
abbrev cX5_byteAt : ByteArray := prog_1_method_14_code
def yX5_byteAt : MethodName := ⟨RX5, "byteAt", "(I)I"⟩
abbrev cX5_count : ByteArray := prog_1_method_15_code
def yX5_count : MethodName := ⟨RX5, "count", "(I)I"⟩
abbrev cX5_sound : ByteArray := prog_1_method_16_code
def yX5_sound : MethodName := ⟨RX5, "sound", "()Z"⟩
abbrev cX5_nearest : ByteArray := prog_1_method_17_code
def yX5_nearest : MethodName := ⟨RX5, "nearest", "(II)I"⟩
abbrev cX5_unitsOf : ByteArray := prog_1_method_18_code
def yX5_unitsOf : MethodName := ⟨RX5, "unitsOf", "(I)I"⟩
abbrev cX5_isKeyLength : ByteArray := prog_1_method_19_code
def yX5_isKeyLength : MethodName := ⟨RX5, "isKeyLength", "(I)Z"⟩
abbrev cX5_readTape : ByteArray := prog_1_method_20_code
def yX5_readTape : MethodName := ⟨RX5, "readTape", "()I"⟩
abbrev cX5_readKey : ByteArray := prog_1_method_21_code
def yX5_readKey : MethodName := ⟨RX5, "readKey", "()I"⟩
abbrev cX5_currentPlace : ByteArray := prog_1_method_22_code
def yX5_currentPlace : MethodName := ⟨RX5, "currentPlace", "()I"⟩
abbrev cX5_isFull : ByteArray := prog_1_method_23_code
def yX5_isFull : MethodName := ⟨RX5, "isFull", "(LOrderedBytes$Node;I)Z"⟩
abbrev cX5_newEntry : ByteArray := prog_1_method_24_code
def yX5_newEntry : MethodName := ⟨RX5, "newEntry", "(II)LOrderedBytes$Node;"⟩
abbrev cX5_changeValue : ByteArray := prog_1_method_25_code
def yX5_changeValue : MethodName := ⟨RX5, "changeValue", "(LOrderedBytes$Node;I)V"⟩
abbrev cX5_fill : ByteArray := prog_1_method_26_code
def yX5_fill : MethodName := ⟨RX5, "fill", "(LOrderedBytes$Node;I)V"⟩
abbrev cX5_drop : ByteArray := prog_1_method_27_code
def yX5_drop : MethodName := ⟨RX5, "drop", "(LOrderedBytes$Node;)V"⟩
abbrev cX5_goTo : ByteArray := prog_1_method_28_code
def yX5_goTo : MethodName := ⟨RX5, "goTo", "(LOrderedBytes$Node;)I"⟩
abbrev cX5_showValue : ByteArray := prog_1_method_29_code
def yX5_showValue : MethodName := ⟨RX5, "showValue", "(LOrderedBytes$Node;)I"⟩
abbrev cX5_blocksMatchEntries : ByteArray := prog_1_method_30_code
def yX5_blocksMatchEntries : MethodName := ⟨RX5, "blocksMatchEntries", "()Z"⟩
def RX6 : String := "OrderedBytesModel"
def TX6 : u_T := fun k => match k with
  | 0 => ("OrderedBytesModel", "thrown", "I", false)
  | 1 => ("OrderedBytesModel", "most", "I", true)
  | 2 => ("OrderedBytesModel", "units", "I", true)
  | 3 => ("OrderedBytesModel", "fed", "I", false)
  | 4 => ("OrderedBytesModel", "tape", "[I", true)
  | 5 => ("OrderedBytesModel", "size", "I", false)
  | 6 => ("OrderedBytesModel", "result", "[I", true)
  | 7 => ("OrderedBytesModel", "count", "I", false)
  | 8 => ("OrderedBytesModel", "length", "I", false)
  | 9 => ("OrderedBytesModel", "bytes", "[I", true)
  | 10 => ("OrderedBytesModel", "keySizes", "[I", true)
  | 11 => ("OrderedBytesModel", "valueSizes", "[I", true)
  | _ => ("OrderedBytesModel", "current", "I", false)
def tyX6 : Nat → FieldType := fun k => match k with
  | 0 => .int
  | 1 => .int
  | 2 => .int
  | 3 => .int
  | 4 => .array .int
  | 5 => .int
  | 6 => .array .int
  | 7 => .int
  | 8 => .int
  | 9 => .array .int
  | 10 => .array .int
  | 11 => .array .int
  | _ => .int
abbrev wsX60 : List Cond := u_ws RX6 TX6 13
theorem nmX6 : ∀ a, a < 13 → ∀ b, b < 13 → a ≠ b → (TX6 a).2.1 ≠ (TX6 b).2.1 := by decide +kernel
theorem tyX6_ok : ∀ k, k < 13 → parseFieldDescriptor (TX6 k).2.2.1 = some (tyX6 k) := by decide +kernel
abbrev cX6_init : ByteArray := prog_8_method_1_code
def yX6_init : MethodName := ⟨RX6, "<init>", "(II)V"⟩
abbrev cX6_thrown : ByteArray := prog_8_method_2_code
def yX6_thrown : MethodName := ⟨RX6, "thrown", "()I"⟩
abbrev cX6_fail : ByteArray := prog_8_method_3_code
def yX6_fail : MethodName := ⟨RX6, "fail", "(I)I"⟩
abbrev cX6_within : ByteArray := prog_8_method_4_code
def yX6_within : MethodName := ⟨RX6, "within", "(III)Z"⟩
abbrev cX6_feed : ByteArray := prog_8_method_5_code
def yX6_feed : MethodName := ⟨RX6, "feed", "(JI)I"⟩
abbrev cX6_taken : ByteArray := prog_8_method_6_code
def yX6_taken : MethodName := ⟨RX6, "taken", "()I"⟩
abbrev cX6_start : ByteArray := prog_8_method_7_code
def yX6_start : MethodName := ⟨RX6, "start", "(I)I"⟩
abbrev cX6_compare : ByteArray := prog_8_method_8_code
def yX6_compare : MethodName := ⟨RX6, "compare", "(III)I"⟩
abbrev cX6_below : ByteArray := prog_8_method_9_code
def yX6_below : MethodName := ⟨RX6, "below", "(IZ)I"⟩
abbrev cX6_find : ByteArray := prog_8_method_10_code
def yX6_find : MethodName := ⟨RX6, "find", "(I)I"⟩
abbrev cX6_unitsOf : ByteArray := prog_8_method_11_code
def yX6_unitsOf : MethodName := ⟨RX6, "unitsOf", "(I)I"⟩
abbrev cX6_used : ByteArray := prog_8_method_12_code
def yX6_used : MethodName := ⟨RX6, "used", "()I"⟩
abbrev cX6_move : ByteArray := prog_8_method_13_code
def yX6_move : MethodName := ⟨RX6, "move", "(II)V"⟩
abbrev cX6_take : ByteArray := prog_8_method_14_code
def yX6_take : MethodName := ⟨RX6, "take", "(I)V"⟩
abbrev cX6_insert : ByteArray := prog_8_method_15_code
def yX6_insert : MethodName := ⟨RX6, "insert", "(III)V"⟩
abbrev cX6_put : ByteArray := prog_8_method_16_code
def yX6_put : MethodName := ⟨RX6, "put", "(I)Z"⟩
abbrev cX6_told : ByteArray := prog_8_method_17_code
def yX6_told : MethodName := ⟨RX6, "told", "(IZ)I"⟩
abbrev cX6_get : ByteArray := prog_8_method_18_code
def yX6_get : MethodName := ⟨RX6, "get", "()I"⟩
abbrev cX6_remove : ByteArray := prog_8_method_19_code
def yX6_remove : MethodName := ⟨RX6, "remove", "()Z"⟩
abbrev cX6_seek : ByteArray := prog_8_method_20_code
def yX6_seek : MethodName := ⟨RX6, "seek", "(I)I"⟩
abbrev cX6_at : ByteArray := prog_8_method_21_code
def yX6_at : MethodName := ⟨RX6, "at", "(I)I"⟩
abbrev cX6_step : ByteArray := prog_8_method_22_code
def yX6_step : MethodName := ⟨RX6, "step", "(Z)Z"⟩
abbrev cX6_value : ByteArray := prog_8_method_23_code
def yX6_value : MethodName := ⟨RX6, "value", "()I"⟩
abbrev cX6_place : ByteArray := prog_8_method_24_code
def yX6_place : MethodName := ⟨RX6, "place", "()I"⟩
abbrev cX6_range : ByteArray := prog_8_method_25_code
def yX6_range : MethodName := ⟨RX6, "range", "()I"⟩
abbrev cX6_removeFrom : ByteArray := prog_8_method_26_code
def yX6_removeFrom : MethodName := ⟨RX6, "removeFrom", "(I)I"⟩
abbrev cX6_clear : ByteArray := prog_8_method_27_code
def yX6_clear : MethodName := ⟨RX6, "clear", "()I"⟩
abbrev cX6_byteAt : ByteArray := prog_8_method_28_code
def yX6_byteAt : MethodName := ⟨RX6, "byteAt", "(I)I"⟩
abbrev cX6_count : ByteArray := prog_8_method_29_code
def yX6_count : MethodName := ⟨RX6, "count", "(I)I"⟩
abbrev cX6_sound : ByteArray := prog_8_method_30_code
def yX6_sound : MethodName := ⟨RX6, "sound", "()Z"⟩
def RJx8e188 : String := "java/lang/Cloneable"
def TJx8e188 : u_T := fun k => match k with
  | _ => ("", "", "", false)
def tyJx8e188 : Nat → FieldType := fun k => match k with
  | _ => .int
abbrev wsJx8e1880 : List Cond := u_ws RJx8e188 TJx8e188 0
theorem nmJx8e188 : ∀ a, a < 0 → ∀ b, b < 0 → a ≠ b → (TJx8e188 a).2.1 ≠ (TJx8e188 b).2.1 := by decide +kernel
theorem tyJx8e188_ok : ∀ k, k < 0 → parseFieldDescriptor (TJx8e188 k).2.2.1 = some (tyJx8e188 k) := by decide +kernel
def RJ6 : String := "java/lang/Integer"
def TJ6 : u_T := fun k => match k with
  | _ => ("", "", "", false)
def tyJ6 : Nat → FieldType := fun k => match k with
  | _ => .int
abbrev wsJ60 : List Cond := u_ws RJ6 TJ6 0
theorem nmJ6 : ∀ a, a < 0 → ∀ b, b < 0 → a ≠ b → (TJ6 a).2.1 ≠ (TJ6 b).2.1 := by decide +kernel
theorem tyJ6_ok : ∀ k, k < 0 → parseFieldDescriptor (TJ6 k).2.2.1 = some (tyJ6 k) := by decide +kernel
abbrev cJ6_numberOfLeadingZeros_0f7a4 : ByteArray := prog_14_method_47_code
def yJ6_numberOfLeadingZeros_0f7a4 : MethodName := ⟨RJ6, "numberOfLeadingZeros", "(I)I"⟩
def RJ9 : String := "java/lang/Math"
def TJ9 : u_T := fun k => match k with
  | _ => ("", "", "", false)
def tyJ9 : Nat → FieldType := fun k => match k with
  | _ => .int
abbrev wsJ90 : List Cond := u_ws RJ9 TJ9 0
theorem nmJ9 : ∀ a, a < 0 → ∀ b, b < 0 → a ≠ b → (TJ9 a).2.1 ≠ (TJ9 b).2.1 := by decide +kernel
theorem tyJ9_ok : ∀ k, k < 0 → parseFieldDescriptor (TJ9 k).2.2.1 = some (tyJ9 k) := by decide +kernel
abbrev cJ9_max_7cf53 : ByteArray := prog_15_method_65_code
def yJ9_max_7cf53 : MethodName := ⟨RJ9, "max", "(II)I"⟩
abbrev cJ9_min_7cf53 : ByteArray := prog_15_method_69_code
def yJ9_min_7cf53 : MethodName := ⟨RJ9, "min", "(II)I"⟩
def RJ0 : String := "java/lang/String"
def TJ0 : u_T := fun k => match k with
  | _ => ("", "", "", false)
def tyJ0 : Nat → FieldType := fun k => match k with
  | _ => .int
abbrev wsJ00 : List Cond := u_ws RJ0 TJ0 0
theorem nmJ0 : ∀ a, a < 0 → ∀ b, b < 0 → a ≠ b → (TJ0 a).2.1 ≠ (TJ0 b).2.1 := by decide +kernel
theorem tyJ0_ok : ∀ k, k < 0 → parseFieldDescriptor (TJ0 k).2.2.1 = some (tyJ0 k) := by decide +kernel
def RJ10 : String := "java/lang/System"
def TJ10 : u_T := fun k => match k with
  | _ => ("", "", "", false)
def tyJ10 : Nat → FieldType := fun k => match k with
  | _ => .int
abbrev wsJ100 : List Cond := u_ws RJ10 TJ10 0
theorem nmJ10 : ∀ a, a < 0 → ∀ b, b < 0 → a ≠ b → (TJ10 a).2.1 ≠ (TJ10 b).2.1 := by decide +kernel
theorem tyJ10_ok : ∀ k, k < 0 → parseFieldDescriptor (TJ10 k).2.2.1 = some (tyJ10 k) := by decide +kernel
def RJ7 : String := "java/util/Arrays"
def TJ7 : u_T := fun k => match k with
  | _ => ("", "", "", false)
def tyJ7 : Nat → FieldType := fun k => match k with
  | _ => .int
abbrev wsJ70 : List Cond := u_ws RJ7 TJ7 0
theorem nmJ7 : ∀ a, a < 0 → ∀ b, b < 0 → a ≠ b → (TJ7 a).2.1 ≠ (TJ7 b).2.1 := by decide +kernel
theorem tyJ7_ok : ∀ k, k < 0 → parseFieldDescriptor (TJ7 k).2.2.1 = some (tyJ7 k) := by decide +kernel
abbrev cJ7_copyOf_9075b : ByteArray := prog_20_method_121_code
def yJ7_copyOf_9075b : MethodName := ⟨RJ7, "copyOf", "([BI)[B"⟩
def RL : String := "OrderedBytesLaw"
abbrev cL_cell : ByteArray := method_2_code
def yL_cell : MethodName := ⟨RL, "cell", "([II)I"⟩
abbrev cL_feed : ByteArray := method_3_code
def yL_feed : MethodName := ⟨RL, "feed", "(LOrderedBytes;JI[J)I"⟩
abbrev cL_put : ByteArray := method_4_code
def yL_put : MethodName := ⟨RL, "put", "(LOrderedBytes;I[J)I"⟩
abbrev cL_get : ByteArray := method_5_code
def yL_get : MethodName := ⟨RL, "get", "(LOrderedBytes;[J)I"⟩
abbrev cL_remove : ByteArray := method_6_code
def yL_remove : MethodName := ⟨RL, "remove", "(LOrderedBytes;[J)I"⟩
abbrev cL_seek : ByteArray := method_7_code
def yL_seek : MethodName := ⟨RL, "seek", "(LOrderedBytes;I[J)I"⟩
abbrev cL_at : ByteArray := method_8_code
def yL_at : MethodName := ⟨RL, "at", "(LOrderedBytes;I[J)I"⟩
abbrev cL_step : ByteArray := method_9_code
def yL_step : MethodName := ⟨RL, "step", "(LOrderedBytes;Z[J)I"⟩
abbrev cL_value : ByteArray := method_10_code
def yL_value : MethodName := ⟨RL, "value", "(LOrderedBytes;[J)I"⟩
abbrev cL_place : ByteArray := method_11_code
def yL_place : MethodName := ⟨RL, "place", "(LOrderedBytes;[J)I"⟩
abbrev cL_range : ByteArray := method_12_code
def yL_range : MethodName := ⟨RL, "range", "(LOrderedBytes;[J)I"⟩
abbrev cL_removeFrom : ByteArray := method_13_code
def yL_removeFrom : MethodName := ⟨RL, "removeFrom", "(LOrderedBytes;I[J)I"⟩
abbrev cL_byteAt : ByteArray := method_14_code
def yL_byteAt : MethodName := ⟨RL, "byteAt", "(LOrderedBytes;I[J)I"⟩
abbrev cL_law : ByteArray := code
def yL_law : MethodName := ⟨RL, "law", "([I)Z"⟩
abbrev vwCl : List vw_C := [(RX0, TX0, 4), (RX1, TX1, 5), (RX2, TX2, 8), (RX3, TX3, 2), (RX4, TX4, 3), (RX5, TX5, 8), (RX6, TX6, 13)]
end
section
/-! MEMORY AND THE JUDGEMENT ob_G. A world w = (T, V, B, J): T a = some (kind, length) where a cell stands (kinds 0 .. 6: objects of vwCl's classes; 7 byte[], 8 int[], 9 long[]); V a k: field k of the object at a; B a j, J a j: what arrays hold. ob_G X y R Q pc lv st w k n: method y, at pc with the locals lv, the stack st and the world w, comes to its end with Q -/
abbrev ob_T : Type := Nat → Option (Nat × Nat)
abbrev ob_V : Type := Nat → Nat → Value
abbrev ob_B : Type := Nat → Nat → Int32
abbrev ob_J : Type := Nat → Nat → Int64
abbrev ob_w : Type := ob_T × ob_V × ob_B × ob_J
def ob_set {α : Type} (V : Nat → Nat → α) (a k : Nat) (v : α) : Nat → Nat → α := fun b j => if b = a ∧ j = k then v else V b j
theorem ob_set_s {α : Type} (V : Nat → Nat → α) (a k : Nat) (v : α) : ob_set V a k v a k = v := by simp [ob_set]
theorem ob_set_k {α : Type} (V : Nat → Nat → α) (a k : Nat) (v : α) (b : Nat) {j : Nat} (h : j ≠ k) : ob_set V a k v b j = V b j := by simp [ob_set, h]
theorem ob_set_a {α : Type} (V : Nat → Nat → α) (a k : Nat) (v : α) {b : Nat} (j : Nat) (h : b ≠ a) : ob_set V a k v b j = V b j := by simp [ob_set, h]
/-- classes' numbers and slots; the classes of byte[], int[], long[] -/
abbrev ob_D : Type := va_G × (Nat → ClassId)
def ob_at (D : ob_D) (w : ob_w) (a c n : Nat) (H : Heap) : Prop :=
  if c = 7 then H[a]? = some (arrV (D.2 0) n (fun j => .int (w.2.2.1 a j)))
  else if c = 8 then H[a]? = some (arrV (D.2 1) n (fun j => .int (w.2.2.1 a j)))
  else if c = 9 then H[a]? = some (arrV (D.2 2) n (fun j => .long (w.2.2.2 a j)))
  else ∃ r : vw_C, vwCl[c]? = some r ∧ t_OB a (D.1.1 c) r.2.2 (D.1.2 c) H (w.2.1 a)
def ob_P (D : ob_D) (w : ob_w) (H : Heap) : Prop := ∀ a c n, w.1 a = some (c, n) → ob_at D w a c n H
theorem ob_at.kept {D : ob_D} {w : ob_w} {a c n : Nat} {H H1 : Heap} (h : ob_at D w a c n H) (hq : H1[a]? = H[a]?) : ob_at D w a c n H1 := by
  unfold ob_at at h ⊢
  split
  · rename_i hc; rw [if_pos hc] at h; rw [hq]; exact h
  · rename_i hc; rw [if_neg hc] at h
    split
    · rename_i hc; rw [if_pos hc] at h; rw [hq]; exact h
    · rename_i hc; rw [if_neg hc] at h
      split
      · rename_i hc; rw [if_pos hc] at h; rw [hq]; exact h
      · rename_i hc; rw [if_neg hc] at h
        obtain ⟨r, h1, h2⟩ := h
        exact ⟨r, h1, h2.kept hq⟩
theorem ob_at.same {D : ob_D} {w w' : ob_w} {a c n : Nat} {H : Heap} (h : ob_at D w a c n H) (hV : w'.2.1 a = w.2.1 a) (hB : w'.2.2.1 a = w.2.2.1 a) (hJ : w'.2.2.2 a = w.2.2.2 a) : ob_at D w' a c n H := by
  unfold ob_at at h ⊢
  rw [hV, hB, hJ]
  exact h
theorem ob_at.lt {D : ob_D} {w : ob_w} {a c n : Nat} {H : Heap} (h : ob_at D w a c n H) : a < H.size := by
  unfold ob_at at h
  split at h
  · exact (Array.getElem?_eq_some_iff.mp h).1
  · split at h
    · exact (Array.getElem?_eq_some_iff.mp h).1
    · split at h
      · exact (Array.getElem?_eq_some_iff.mp h).1
      · obtain ⟨r, h1, cell, h2, -⟩ := h
        exact (Array.getElem?_eq_some_iff.mp h2).1
theorem ob_at.obj {D : ob_D} {w : ob_w} {a c n : Nat} {H : Heap} (hc : c < 7) (h : ob_at D w a c n H) : ∃ r : vw_C, vwCl[c]? = some r ∧ t_OB a (D.1.1 c) r.2.2 (D.1.2 c) H (w.2.1 a) := by
  unfold ob_at at h
  rwa [if_neg (by omega), if_neg (by omega), if_neg (by omega)] at h
theorem ob_at.mk {D : ob_D} {w : ob_w} {a c n : Nat} {H : Heap} (hc : c < 7) (h : ∃ r : vw_C, vwCl[c]? = some r ∧ t_OB a (D.1.1 c) r.2.2 (D.1.2 c) H (w.2.1 a)) : ob_at D w a c n H := by
  unfold ob_at
  rwa [if_neg (by omega), if_neg (by omega), if_neg (by omega)]
/-- one cell changes -/
theorem ob_P.put {D : ob_D} {w w' : ob_w} {H H1 : Heap} {a : Nat} (h : ob_P D w H) (hT : w'.1 = w.1) (ha : ∀ c n, w.1 a = some (c, n) → ob_at D w' a c n H1) (oq : ∀ q : Nat, q ≠ a → H1[q]? = H[q]?)
    (hV : ∀ b, b ≠ a → w'.2.1 b = w.2.1 b) (hB : ∀ b, b ≠ a → w'.2.2.1 b = w.2.2.1 b) (hJ : ∀ b, b ≠ a → w'.2.2.2 b = w.2.2.2 b) : ob_P D w' H1 := by
  intro b c n hb
  rw [hT] at hb
  by_cases hba : b = a
  · subst hba; exact ha c n hb
  · exact ((h b c n hb).kept (oq b hba)).same (hV b hba) (hB b hba) (hJ b hba)
/-- launch, classes, where the own cells begin -/
abbrev ob_X : Type := Launch × ob_D × Nat
def ob_lo (X : ob_X) (w : ob_w) : Prop := ∀ a x, w.1 a = some x → X.2.2 ≤ a
def ob_tys (D : ob_D) : List (ClassId × FieldType) := [(D.2 0, .byte), (D.2 1, .int), (D.2 2, .long)]
/-- the words of all methods -/
def ob_tb : List Cond := lw_tbl.filter goodWord
/-- the String constants of the throws -/
def ob_strs : List (Nat × String) := [(105, "no such key"), (116, "no such way to seek"), (131, "no such place"), (137, "no entry is current"), (139, "longer than a key"), (149, "fewer than none"), (164, "no such byte in the result"), (181, "no key"), (47, "not 1 to 8 bytes"), (57, "the tape is too short"), (72, "no key with a value"), (86, "full")]
/-- constructors that the throws' chain declares (no good words) -/
def ob_dcl : List MethodName := [⟨"java/lang/RuntimeException", "<init>", "(Ljava/lang/String;)V"⟩, ⟨"java/lang/Exception", "<init>", "(Ljava/lang/String;)V"⟩, ⟨"java/lang/Throwable", "<init>", "(Ljava/lang/String;)V"⟩]
def ob_K (X : ob_X) (U : State) : Prop := va_K X.2.1.1 vwCl (ob_tys X.2.1) U ∧ X.1.stackTraces = false ∧ (∀ q ∈ ob_strs, ∃ sa, vk_R RX5 q.1 q.2 sa U) ∧ (∀ x ∈ ob_dcl, va_Nw (.declares x) U) ∧ vx_Zq Bundle.tN "UNASSIGNED_STACK" Bundle.steD (fun q => X.2.2 ≤ q) U U.heap ∧ vx_Zq Bundle.tN "SUPPRESSED_SENTINEL" Bundle.listD (fun q => X.2.2 ≤ q) U U.heap
/-- a method: name, code, locals, answer's type, its table of handlers -/
abbrev ob_y : Type := MethodName × ByteArray × Nat × Option FieldType × List (Nat × Nat × Nat × Nat)
/-- how a method ends: it returns (a value), or throws (a class) -/
abbrev ob_r : Type := Option Value ⊕ String
def ob_Qc (X : ob_X) (Q : ob_r → ob_w → Prop) : Array Value → State → Outcome → State → Prop := fun _ st oc t => (∃ (v : Option Value) (w : ob_w), oc = .returned v ∧ Q (.inl v) w ∧ ob_P X.2.1 w t.heap ∧ ob_lo X w) ∧ va_F (fun q => X.2.2 ≤ q) st t
def ob_XC (X : ob_X) (Q : ob_r → ob_w → Prop) : String → State → State → Prop := fun E st t => (∃ w : ob_w, Q (.inr E) w ∧ ob_P X.2.1 w t.heap ∧ ob_lo X w) ∧ va_F (fun q => X.2.2 ≤ q) st t
def ob_Cx (X : ob_X) (y : ob_y) (p : Program) (e : Env) (s : State) (m : MethodId) (args : Array Value) (meth : Method) (c : Code) : Prop :=
  p.tables.exec = Jvm.exec ∧ c.code = y.2.1 ∧ meth.sig.returnType = y.2.2.2.1 ∧ c.maxLocals = y.2.2.1 ∧ s.vm.findClass y.1.cls = some m.cls ∧ (∀ w ∈ ob_tb, w.before args s = true) ∧ meth.locks = false ∧ meth.name = y.1.name ∧ c.exceptionTable.toList = tableOf y.2.2.2.2 ∧ ob_K X s ∧ X.2.2 ≤ s.heap.size
def ob_G (X : ob_X) (y : ob_y) (R : Room) (Q : ob_r → ob_w → Prop) (pc : Nat) (lv : List (Nat × Value)) (st : List Value) (w : ob_w) (k n : Nat) : Prop :=
  ∀ (p : Program) (e : Env) (s : State) (m : MethodId) (args : Array Value) (below : List Frame) (meth : Method) (c : Code), ob_Cx X y p e s m args meth c →
    ∀ (H : Heap) (locs : List Loc) (ls : Array Slot), lv_has ls y.2.2.1 lv → ob_P X.2.1 w H → ob_lo X w → va_S (fun q => X.2.2 ≤ q) s.heap H locs →
      W p X.1 e R s m args below meth c H locs k n (vx_MQ below (ob_Qc X Q) (ob_XC X Q) args s R.cells R.slots (fun q => X.2.2 ≤ q)) (F0 m pc ls st)
/-- what local i holds -/
def ob_get : List (Nat × Value) → Nat → Option Value
  | [], _ => none
  | (j, v) :: l, i => if j = i then some v else ob_get l i
def ob_put (lv : List (Nat × Value)) (i : Nat) (v : Value) : List (Nat × Value) := (i, v) :: lv.filter (fun q => !(q.1 == i) && !(q.1 + 1 == i && q.2.category == 2))
theorem ob_get_mem : ∀ {lv : List (Nat × Value)} {i : Nat} {v : Value}, ob_get lv i = some v → (i, v) ∈ lv
  | [], _, _, h => by cases h
  | (j, u) :: l, i, v, h => by
    unfold ob_get at h
    split at h
    · rename_i e; subst e; cases h; exact List.mem_cons_self
    · exact List.mem_cons_of_mem _ (ob_get_mem h)
theorem ob_lv {ls : Array Slot} {nL : Nat} {lv : List (Nat × Value)} (h : lv_has ls nL lv) {i : Nat} {v : Value} (hv : ob_get lv i = some v) : ls[i]? = some (.val v) := h.2.2 (i, v) (ob_get_mem hv)
section OBG
variable {X : ob_X} {y : ob_y} {R : Room} {Q : ob_r → ob_w → Prop} {pc : Nat} {lv : List (Nat × Value)} {st : List Value} {w : ob_w} {k n : Nat}
/-- the locals, said anew -/
theorem og_lv (lv' : List (Nat × Value)) (h : lv'.map (fun q => ob_get lv q.1) = lv'.map (fun q => some q.2)) (kk : ob_G X y R Q pc lv' st w k n) : ob_G X y R Q pc lv st w k n := by
  intro p e s m args below meth c C H locs ls h1
  refine kk p e s m args below meth c C H locs ls ⟨h1.1, h1.2.1, fun q hq => ?_⟩
  obtain ⟨i, hi⟩ := List.getElem?_of_mem hq
  have e1 : (lv'.map (fun q => ob_get lv q.1))[i]? = some (ob_get lv q.1) := by rw [List.getElem?_map, hi]; rfl
  rw [h, List.getElem?_map, hi] at e1
  exact ob_lv h1 (Option.some.inj e1).symm
theorem og_widen {k' n' : Nat} (h1 : k ≤ k') (h2 : n ≤ n') (kk : ob_G X y R Q pc lv st w k' n') : ob_G X y R Q pc lv st w k n := fun p e s m args below meth c C H locs ls a1 a2 a3 a4 => W.widen h1 h2 (kk p e s m args below meth c C H locs ls a1 a2 a3 a4)
/-- a weaker end -/
theorem og_post {Q' : ob_r → ob_w → Prop} (h : ∀ r w, Q' r w → Q r w) (kk : ob_G X y R Q' pc lv st w k n) : ob_G X y R Q pc lv st w k n := by
  intro p e s m args below meth c C H locs ls a1 a2 a3 a4 T hT S
  obtain ⟨t, b1, o, b2, b3, b4⟩ := kk p e s m args below meth c C H locs ls a1 a2 a3 a4 T hT S
  refine ⟨t, b1, o, b2, b3, ?_⟩
  rcases b4 with ⟨⟨⟨v, w1, c1, c2, c3⟩, c4⟩, c5⟩ | ⟨q, c1, E, ce, L, ⟨⟨w1, c2, c3⟩, c4⟩, c5⟩
  · exact Or.inl ⟨⟨⟨v, w1, c1, h _ _ c2, c3⟩, c4⟩, c5⟩
  · exact Or.inr ⟨q, c1, E, ce, L, ⟨⟨w1, h _ _ c2, c3⟩, c4⟩, c5⟩
theorem og_iconst {n9 : Int} {v : Int32} (hdg : decode y.2.1 pc = .ok (.iconst n9, 1)) (hv : Int32.ofInt n9 = v) (kk : ob_G X y R Q (pc + 1) lv (.int v :: st) w k n) : ob_G X y R Q pc lv (st) w k n := fun p e s m args below meth c C H locs ls a1 a2 a3 a4 => lv_iconst C.1 C.2.1 hdg hv (kk p e s m args below meth c C H locs ls a1 a2 a3 a4)
theorem og_bipush {n9 : Int} {v : Int32} (hdg : decode y.2.1 pc = .ok (.bipush n9, 2)) (hv : (Int8.ofInt n9).toInt32 = v) (kk : ob_G X y R Q (pc + 2) lv (.int v :: st) w k n) : ob_G X y R Q pc lv (st) w k n := fun p e s m args below meth c C H locs ls a1 a2 a3 a4 => lv_bipush C.1 C.2.1 hdg hv (kk p e s m args below meth c C H locs ls a1 a2 a3 a4)
theorem og_sipush {n9 : Int} {v : Int32} (hdg : decode y.2.1 pc = .ok (.sipush n9, 3)) (hv : (Int16.ofInt n9).toInt32 = v) (kk : ob_G X y R Q (pc + 3) lv (.int v :: st) w k n) : ob_G X y R Q pc lv (st) w k n := fun p e s m args below meth c C H locs ls a1 a2 a3 a4 => lv_sipush C.1 C.2.1 hdg hv (kk p e s m args below meth c C H locs ls a1 a2 a3 a4)
theorem og_lconst {n9 : Fin 2} {v : Int64} (hdg : decode y.2.1 pc = .ok (.lconst n9, 1)) (hv : Int64.ofNat (n9 : Nat) = v) (kk : ob_G X y R Q (pc + 1) lv (.long v :: st) w k n) : ob_G X y R Q pc lv (st) w k n := fun p e s m args below meth c C H locs ls a1 a2 a3 a4 => lv_lconst C.1 C.2.1 hdg hv (kk p e s m args below meth c C H locs ls a1 a2 a3 a4)
theorem og_iadd {x y9 : Int32} (hdg : decode y.2.1 pc = .ok (.iadd, 1)) (kk : ob_G X y R Q (pc + 1) lv (.int (x + y9) :: st) w k n) : ob_G X y R Q pc lv (.int y9 :: .int x :: st) w k n := fun p e s m args below meth c C H locs ls a1 a2 a3 a4 => lv_iadd C.1 C.2.1 hdg (kk p e s m args below meth c C H locs ls a1 a2 a3 a4)
theorem og_isub {x y9 : Int32} (hdg : decode y.2.1 pc = .ok (.isub, 1)) (kk : ob_G X y R Q (pc + 1) lv (.int (x - y9) :: st) w k n) : ob_G X y R Q pc lv (.int y9 :: .int x :: st) w k n := fun p e s m args below meth c C H locs ls a1 a2 a3 a4 => lv_isub C.1 C.2.1 hdg (kk p e s m args below meth c C H locs ls a1 a2 a3 a4)
theorem og_imul {x y9 : Int32} (hdg : decode y.2.1 pc = .ok (.imul, 1)) (kk : ob_G X y R Q (pc + 1) lv (.int (x * y9) :: st) w k n) : ob_G X y R Q pc lv (.int y9 :: .int x :: st) w k n := fun p e s m args below meth c C H locs ls a1 a2 a3 a4 => lv_imul C.1 C.2.1 hdg (kk p e s m args below meth c C H locs ls a1 a2 a3 a4)
theorem og_iand {x y9 : Int32} (hdg : decode y.2.1 pc = .ok (.iand, 1)) (kk : ob_G X y R Q (pc + 1) lv (.int (x &&& y9) :: st) w k n) : ob_G X y R Q pc lv (.int y9 :: .int x :: st) w k n := fun p e s m args below meth c C H locs ls a1 a2 a3 a4 => lv_iand C.1 C.2.1 hdg (kk p e s m args below meth c C H locs ls a1 a2 a3 a4)
theorem og_ior {x y9 : Int32} (hdg : decode y.2.1 pc = .ok (.ior, 1)) (kk : ob_G X y R Q (pc + 1) lv (.int (x ||| y9) :: st) w k n) : ob_G X y R Q pc lv (.int y9 :: .int x :: st) w k n := fun p e s m args below meth c C H locs ls a1 a2 a3 a4 => lv_ior C.1 C.2.1 hdg (kk p e s m args below meth c C H locs ls a1 a2 a3 a4)
theorem og_idiv {x y9 : Int32} (hdg : decode y.2.1 pc = .ok (.idiv, 1)) (hne : ¬ y9 = 0) (kk : ob_G X y R Q (pc + 1) lv (.int (x / y9) :: st) w k n) : ob_G X y R Q pc lv (.int y9 :: .int x :: st) w k n := fun p e s m args below meth c C H locs ls a1 a2 a3 a4 => lv_idiv C.1 C.2.1 hdg hne (kk p e s m args below meth c C H locs ls a1 a2 a3 a4)
theorem og_irem {x y9 : Int32} (hdg : decode y.2.1 pc = .ok (.irem, 1)) (hne : ¬ y9 = 0) (kk : ob_G X y R Q (pc + 1) lv (.int (x - x / y9 * y9) :: st) w k n) : ob_G X y R Q pc lv (.int y9 :: .int x :: st) w k n := fun p e s m args below meth c C H locs ls a1 a2 a3 a4 => lv_irem C.1 C.2.1 hdg hne (kk p e s m args below meth c C H locs ls a1 a2 a3 a4)
theorem og_ineg {x : Int32} (hdg : decode y.2.1 pc = .ok (.ineg, 1)) (kk : ob_G X y R Q (pc + 1) lv (.int (-x) :: st) w k n) : ob_G X y R Q pc lv (.int x :: st) w k n := fun p e s m args below meth c C H locs ls a1 a2 a3 a4 => lv_ineg C.1 C.2.1 hdg (kk p e s m args below meth c C H locs ls a1 a2 a3 a4)
theorem og_ladd {x y9 : Int64} (hdg : decode y.2.1 pc = .ok (.ladd, 1)) (kk : ob_G X y R Q (pc + 1) lv (.long (x + y9) :: st) w k n) : ob_G X y R Q pc lv (.long y9 :: .long x :: st) w k n := fun p e s m args below meth c C H locs ls a1 a2 a3 a4 => lv_ladd C.1 C.2.1 hdg (kk p e s m args below meth c C H locs ls a1 a2 a3 a4)
theorem og_lsub {x y9 : Int64} (hdg : decode y.2.1 pc = .ok (.lsub, 1)) (kk : ob_G X y R Q (pc + 1) lv (.long (x - y9) :: st) w k n) : ob_G X y R Q pc lv (.long y9 :: .long x :: st) w k n := fun p e s m args below meth c C H locs ls a1 a2 a3 a4 => lv_lsub C.1 C.2.1 hdg (kk p e s m args below meth c C H locs ls a1 a2 a3 a4)
theorem og_land {x y9 : Int64} (hdg : decode y.2.1 pc = .ok (.land, 1)) (kk : ob_G X y R Q (pc + 1) lv (.long (x &&& y9) :: st) w k n) : ob_G X y R Q pc lv (.long y9 :: .long x :: st) w k n := fun p e s m args below meth c C H locs ls a1 a2 a3 a4 => lv_land C.1 C.2.1 hdg (kk p e s m args below meth c C H locs ls a1 a2 a3 a4)
theorem og_lor {x y9 : Int64} (hdg : decode y.2.1 pc = .ok (.lor, 1)) (kk : ob_G X y R Q (pc + 1) lv (.long (x ||| y9) :: st) w k n) : ob_G X y R Q pc lv (.long y9 :: .long x :: st) w k n := fun p e s m args below meth c C H locs ls a1 a2 a3 a4 => lv_lor C.1 C.2.1 hdg (kk p e s m args below meth c C H locs ls a1 a2 a3 a4)
theorem og_lxor {x y9 : Int64} (hdg : decode y.2.1 pc = .ok (.lxor, 1)) (kk : ob_G X y R Q (pc + 1) lv (.long (x ^^^ y9) :: st) w k n) : ob_G X y R Q pc lv (.long y9 :: .long x :: st) w k n := fun p e s m args below meth c C H locs ls a1 a2 a3 a4 => lv_lxor C.1 C.2.1 hdg (kk p e s m args below meth c C H locs ls a1 a2 a3 a4)
theorem og_ishl {x y9 : Int32} (hdg : decode y.2.1 pc = .ok (.ishl, 1)) (kk : ob_G X y R Q (pc + 1) lv (.int (x <<< (y9 &&& 31)) :: st) w k n) : ob_G X y R Q pc lv (.int y9 :: .int x :: st) w k n := fun p e s m args below meth c C H locs ls a1 a2 a3 a4 => lv_ishl C.1 C.2.1 hdg (kk p e s m args below meth c C H locs ls a1 a2 a3 a4)
theorem og_ishr {x y9 : Int32} (hdg : decode y.2.1 pc = .ok (.ishr, 1)) (kk : ob_G X y R Q (pc + 1) lv (.int (x >>> (y9 &&& 31)) :: st) w k n) : ob_G X y R Q pc lv (.int y9 :: .int x :: st) w k n := fun p e s m args below meth c C H locs ls a1 a2 a3 a4 => lv_ishr C.1 C.2.1 hdg (kk p e s m args below meth c C H locs ls a1 a2 a3 a4)
theorem og_i2l {x : Int32} {v : Int64} (hdg : decode y.2.1 pc = .ok (.i2l, 1)) (hv : x.toInt64 = v) (kk : ob_G X y R Q (pc + 1) lv (.long v :: st) w k n) : ob_G X y R Q pc lv (.int x :: st) w k n := fun p e s m args below meth c C H locs ls a1 a2 a3 a4 => lv_i2l C.1 C.2.1 hdg hv (kk p e s m args below meth c C H locs ls a1 a2 a3 a4)
theorem og_l2i {x : Int64} {v : Int32} (hdg : decode y.2.1 pc = .ok (.l2i, 1)) (hv : x.toInt32 = v) (kk : ob_G X y R Q (pc + 1) lv (.int v :: st) w k n) : ob_G X y R Q pc lv (.long x :: st) w k n := fun p e s m args below meth c C H locs ls a1 a2 a3 a4 => lv_l2i C.1 C.2.1 hdg hv (kk p e s m args below meth c C H locs ls a1 a2 a3 a4)
theorem og_i2b {x : Int32} {v : Int32} (hdg : decode y.2.1 pc = .ok (.i2b, 1)) (hv : x.toInt8.toInt32 = v) (kk : ob_G X y R Q (pc + 1) lv (.int v :: st) w k n) : ob_G X y R Q pc lv (.int x :: st) w k n := fun p e s m args below meth c C H locs ls a1 a2 a3 a4 => lv_i2b C.1 C.2.1 hdg hv (kk p e s m args below meth c C H locs ls a1 a2 a3 a4)
theorem og_iushr {x y9 v : Int32} (hdg : decode y.2.1 pc = .ok (.iushr, 1)) (hv : (x.toUInt32 >>> (y9.toUInt32 &&& Int32.toUInt32 31)).toInt32 = v) (kk : ob_G X y R Q (pc + 1) lv (.int v :: st) w k n) : ob_G X y R Q pc lv (.int y9 :: .int x :: st) w k n := fun p e s m args below meth c C H locs ls a1 a2 a3 a4 => lv_iushr C.1 C.2.1 hdg hv (kk p e s m args below meth c C H locs ls a1 a2 a3 a4)
theorem og_lushr {x v : Int64} {y9 : Int32} (hdg : decode y.2.1 pc = .ok (.lushr, 1)) (hv : (x.toUInt64 >>> (y9.toInt64.toUInt64 &&& Int64.toUInt64 63)).toInt64 = v) (kk : ob_G X y R Q (pc + 1) lv (.long v :: st) w k n) : ob_G X y R Q pc lv (.int y9 :: .long x :: st) w k n := fun p e s m args below meth c C H locs ls a1 a2 a3 a4 => lv_lushr C.1 C.2.1 hdg hv (kk p e s m args below meth c C H locs ls a1 a2 a3 a4)
theorem og_lshl {x v : Int64} {y9 : Int32} (hdg : decode y.2.1 pc = .ok (.lshl, 1)) (hv : x <<< (y9.toInt64 &&& 63) = v) (kk : ob_G X y R Q (pc + 1) lv (.long v :: st) w k n) : ob_G X y R Q pc lv (.int y9 :: .long x :: st) w k n := fun p e s m args below meth c C H locs ls a1 a2 a3 a4 => lv_lshl C.1 C.2.1 hdg hv (kk p e s m args below meth c C H locs ls a1 a2 a3 a4)
theorem og_lshr {x v : Int64} {y9 : Int32} (hdg : decode y.2.1 pc = .ok (.lshr, 1)) (hv : x >>> (y9.toInt64 &&& 63) = v) (kk : ob_G X y R Q (pc + 1) lv (.long v :: st) w k n) : ob_G X y R Q pc lv (.int y9 :: .long x :: st) w k n := fun p e s m args below meth c C H locs ls a1 a2 a3 a4 => lv_lshr C.1 C.2.1 hdg hv (kk p e s m args below meth c C H locs ls a1 a2 a3 a4)
theorem og_dup {va : Value} (hdg : decode y.2.1 pc = .ok (.dup, 1)) (hva : va.category = 1) (kk : ob_G X y R Q (pc + 1) lv (va :: va :: st) w k n) : ob_G X y R Q pc lv (va :: st) w k n := fun p e s m args below meth c C H locs ls a1 a2 a3 a4 => lv_dup C.1 C.2.1 hdg hva (kk p e s m args below meth c C H locs ls a1 a2 a3 a4)
theorem og_pop {va : Value} (hdg : decode y.2.1 pc = .ok (.pop, 1)) (hva : va.category = 1) (kk : ob_G X y R Q (pc + 1) lv (st) w k n) : ob_G X y R Q pc lv (va :: st) w k n := fun p e s m args below meth c C H locs ls a1 a2 a3 a4 => lv_pop C.1 C.2.1 hdg hva (kk p e s m args below meth c C H locs ls a1 a2 a3 a4)
theorem og_goto {off : Int} {tgt : Nat} (hdg : decode y.2.1 pc = .ok (.goto off, 3)) (ht : (pc : Int) + off = (tgt : Int)) (kk : ob_G X y R Q tgt lv st w k n) : ob_G X y R Q pc lv st w k n := fun p e s m args below meth c C H locs ls a1 a2 a3 a4 => lv_goto C.1 C.2.1 hdg ht (kk p e s m args below meth c C H locs ls a1 a2 a3 a4)
theorem og_ifnull {x : Nat} {off : Int} (hdg : decode y.2.1 pc = .ok (.ifnull off, 3)) (kk : ob_G X y R Q (pc + 3) lv st w k n) : ob_G X y R Q pc lv (.ref x :: st) w k n := fun p e s m args below meth c C H locs ls a1 a2 a3 a4 => lv_ifnull C.1 C.2.1 hdg (kk p e s m args below meth c C H locs ls a1 a2 a3 a4)
theorem og_ifnonnull {x : Nat} {off : Int} {tgt : Nat} (hdg : decode y.2.1 pc = .ok (.ifnonnull off, 3)) (ht : (pc : Int) + off = (tgt : Int)) (kk : ob_G X y R Q tgt lv st w k n) : ob_G X y R Q pc lv (.ref x :: st) w k n := fun p e s m args below meth c C H locs ls a1 a2 a3 a4 => lv_ifnonnull C.1 C.2.1 hdg ht (kk p e s m args below meth c C H locs ls a1 a2 a3 a4)
theorem og_ifnullN {off : Int} {tgt : Nat} (hdg : decode y.2.1 pc = .ok (.ifnull off, 3)) (ht : (pc : Int) + off = (tgt : Int)) (kk : ob_G X y R Q tgt lv st w k n) : ob_G X y R Q pc lv (.null :: st) w k n := fun p e s m args below meth c C H locs ls a1 a2 a3 a4 => lv_ifnullN C.1 C.2.1 hdg ht (kk p e s m args below meth c C H locs ls a1 a2 a3 a4)
theorem og_ifnonnullN {off : Int} (hdg : decode y.2.1 pc = .ok (.ifnonnull off, 3)) (kk : ob_G X y R Q (pc + 3) lv st w k n) : ob_G X y R Q pc lv (.null :: st) w k n := fun p e s m args below meth c C H locs ls a1 a2 a3 a4 => lv_ifnonnullN C.1 C.2.1 hdg (kk p e s m args below meth c C H locs ls a1 a2 a3 a4)
theorem og_null (hdg : decode y.2.1 pc = .ok (.aconst_null, 1)) (kk : ob_G X y R Q (pc + 1) lv (.null :: st) w k n) : ob_G X y R Q pc lv st w k n := fun p e s m args below meth c C H locs ls a1 a2 a3 a4 => lv_null C.1 C.2.1 hdg (kk p e s m args below meth c C H locs ls a1 a2 a3 a4)
theorem og_if_eq {x : Int32} {off : Int} {tgt : Nat} (hdg : decode y.2.1 pc = .ok (.ifCond .eq off, 3)) (ht : (pc : Int) + off = (tgt : Int)) (kt : x = 0 → ob_G X y R Q tgt lv st w k n) (kf : ¬ x = 0 → ob_G X y R Q (pc + 3) lv st w k n) : ob_G X y R Q pc lv (.int x :: st) w k n := fun p e s m args below meth c C H locs ls a1 a2 a3 a4 => lv_if_eq C.1 C.2.1 hdg ht (fun z => kt z p e s m args below meth c C H locs ls a1 a2 a3 a4) (fun z => kf z p e s m args below meth c C H locs ls a1 a2 a3 a4)
theorem og_if_ne {x : Int32} {off : Int} {tgt : Nat} (hdg : decode y.2.1 pc = .ok (.ifCond .ne off, 3)) (ht : (pc : Int) + off = (tgt : Int)) (kt : ¬ x = 0 → ob_G X y R Q tgt lv st w k n) (kf : x = 0 → ob_G X y R Q (pc + 3) lv st w k n) : ob_G X y R Q pc lv (.int x :: st) w k n := fun p e s m args below meth c C H locs ls a1 a2 a3 a4 => lv_if_ne C.1 C.2.1 hdg ht (fun z => kt z p e s m args below meth c C H locs ls a1 a2 a3 a4) (fun z => kf z p e s m args below meth c C H locs ls a1 a2 a3 a4)
theorem og_if_lt {x : Int32} {off : Int} {tgt : Nat} (hdg : decode y.2.1 pc = .ok (.ifCond .lt off, 3)) (ht : (pc : Int) + off = (tgt : Int)) (kt : x < 0 → ob_G X y R Q tgt lv st w k n) (kf : ¬ x < 0 → ob_G X y R Q (pc + 3) lv st w k n) : ob_G X y R Q pc lv (.int x :: st) w k n := fun p e s m args below meth c C H locs ls a1 a2 a3 a4 => lv_if_lt C.1 C.2.1 hdg ht (fun z => kt z p e s m args below meth c C H locs ls a1 a2 a3 a4) (fun z => kf z p e s m args below meth c C H locs ls a1 a2 a3 a4)
theorem og_if_ge {x : Int32} {off : Int} {tgt : Nat} (hdg : decode y.2.1 pc = .ok (.ifCond .ge off, 3)) (ht : (pc : Int) + off = (tgt : Int)) (kt : 0 ≤ x → ob_G X y R Q tgt lv st w k n) (kf : ¬ 0 ≤ x → ob_G X y R Q (pc + 3) lv st w k n) : ob_G X y R Q pc lv (.int x :: st) w k n := fun p e s m args below meth c C H locs ls a1 a2 a3 a4 => lv_if_ge C.1 C.2.1 hdg ht (fun z => kt z p e s m args below meth c C H locs ls a1 a2 a3 a4) (fun z => kf z p e s m args below meth c C H locs ls a1 a2 a3 a4)
theorem og_if_gt {x : Int32} {off : Int} {tgt : Nat} (hdg : decode y.2.1 pc = .ok (.ifCond .gt off, 3)) (ht : (pc : Int) + off = (tgt : Int)) (kt : 0 < x → ob_G X y R Q tgt lv st w k n) (kf : ¬ 0 < x → ob_G X y R Q (pc + 3) lv st w k n) : ob_G X y R Q pc lv (.int x :: st) w k n := fun p e s m args below meth c C H locs ls a1 a2 a3 a4 => lv_if_gt C.1 C.2.1 hdg ht (fun z => kt z p e s m args below meth c C H locs ls a1 a2 a3 a4) (fun z => kf z p e s m args below meth c C H locs ls a1 a2 a3 a4)
theorem og_if_le {x : Int32} {off : Int} {tgt : Nat} (hdg : decode y.2.1 pc = .ok (.ifCond .le off, 3)) (ht : (pc : Int) + off = (tgt : Int)) (kt : x ≤ 0 → ob_G X y R Q tgt lv st w k n) (kf : ¬ x ≤ 0 → ob_G X y R Q (pc + 3) lv st w k n) : ob_G X y R Q pc lv (.int x :: st) w k n := fun p e s m args below meth c C H locs ls a1 a2 a3 a4 => lv_if_le C.1 C.2.1 hdg ht (fun z => kt z p e s m args below meth c C H locs ls a1 a2 a3 a4) (fun z => kf z p e s m args below meth c C H locs ls a1 a2 a3 a4)
theorem og_icmp_eq {x y9 : Int32} {off : Int} {tgt : Nat} (hdg : decode y.2.1 pc = .ok (.if_icmp .eq off, 3)) (ht : (pc : Int) + off = (tgt : Int)) (kt : x = y9 → ob_G X y R Q tgt lv st w k n) (kf : ¬ x = y9 → ob_G X y R Q (pc + 3) lv st w k n) : ob_G X y R Q pc lv (.int y9 :: .int x :: st) w k n := fun p e s m args below meth c C H locs ls a1 a2 a3 a4 => lv_icmp_eq C.1 C.2.1 hdg ht (fun z => kt z p e s m args below meth c C H locs ls a1 a2 a3 a4) (fun z => kf z p e s m args below meth c C H locs ls a1 a2 a3 a4)
theorem og_icmp_ne {x y9 : Int32} {off : Int} {tgt : Nat} (hdg : decode y.2.1 pc = .ok (.if_icmp .ne off, 3)) (ht : (pc : Int) + off = (tgt : Int)) (kt : ¬ x = y9 → ob_G X y R Q tgt lv st w k n) (kf : x = y9 → ob_G X y R Q (pc + 3) lv st w k n) : ob_G X y R Q pc lv (.int y9 :: .int x :: st) w k n := fun p e s m args below meth c C H locs ls a1 a2 a3 a4 => lv_icmp_ne C.1 C.2.1 hdg ht (fun z => kt z p e s m args below meth c C H locs ls a1 a2 a3 a4) (fun z => kf z p e s m args below meth c C H locs ls a1 a2 a3 a4)
theorem og_icmp_lt {x y9 : Int32} {off : Int} {tgt : Nat} (hdg : decode y.2.1 pc = .ok (.if_icmp .lt off, 3)) (ht : (pc : Int) + off = (tgt : Int)) (kt : x < y9 → ob_G X y R Q tgt lv st w k n) (kf : ¬ x < y9 → ob_G X y R Q (pc + 3) lv st w k n) : ob_G X y R Q pc lv (.int y9 :: .int x :: st) w k n := fun p e s m args below meth c C H locs ls a1 a2 a3 a4 => lv_icmp_lt C.1 C.2.1 hdg ht (fun z => kt z p e s m args below meth c C H locs ls a1 a2 a3 a4) (fun z => kf z p e s m args below meth c C H locs ls a1 a2 a3 a4)
theorem og_icmp_ge {x y9 : Int32} {off : Int} {tgt : Nat} (hdg : decode y.2.1 pc = .ok (.if_icmp .ge off, 3)) (ht : (pc : Int) + off = (tgt : Int)) (kt : y9 ≤ x → ob_G X y R Q tgt lv st w k n) (kf : ¬ y9 ≤ x → ob_G X y R Q (pc + 3) lv st w k n) : ob_G X y R Q pc lv (.int y9 :: .int x :: st) w k n := fun p e s m args below meth c C H locs ls a1 a2 a3 a4 => lv_icmp_ge C.1 C.2.1 hdg ht (fun z => kt z p e s m args below meth c C H locs ls a1 a2 a3 a4) (fun z => kf z p e s m args below meth c C H locs ls a1 a2 a3 a4)
theorem og_icmp_gt {x y9 : Int32} {off : Int} {tgt : Nat} (hdg : decode y.2.1 pc = .ok (.if_icmp .gt off, 3)) (ht : (pc : Int) + off = (tgt : Int)) (kt : y9 < x → ob_G X y R Q tgt lv st w k n) (kf : ¬ y9 < x → ob_G X y R Q (pc + 3) lv st w k n) : ob_G X y R Q pc lv (.int y9 :: .int x :: st) w k n := fun p e s m args below meth c C H locs ls a1 a2 a3 a4 => lv_icmp_gt C.1 C.2.1 hdg ht (fun z => kt z p e s m args below meth c C H locs ls a1 a2 a3 a4) (fun z => kf z p e s m args below meth c C H locs ls a1 a2 a3 a4)
theorem og_icmp_le {x y9 : Int32} {off : Int} {tgt : Nat} (hdg : decode y.2.1 pc = .ok (.if_icmp .le off, 3)) (ht : (pc : Int) + off = (tgt : Int)) (kt : x ≤ y9 → ob_G X y R Q tgt lv st w k n) (kf : ¬ x ≤ y9 → ob_G X y R Q (pc + 3) lv st w k n) : ob_G X y R Q pc lv (.int y9 :: .int x :: st) w k n := fun p e s m args below meth c C H locs ls a1 a2 a3 a4 => lv_icmp_le C.1 C.2.1 hdg ht (fun z => kt z p e s m args below meth c C H locs ls a1 a2 a3 a4) (fun z => kf z p e s m args below meth c C H locs ls a1 a2 a3 a4)
theorem og_dup_x1 {va vb : Value} (hdg : decode y.2.1 pc = .ok (.dup_x1, 1)) (hva : va.category = 1) (hvb : vb.category = 1) (kk : ob_G X y R Q (pc + 1) lv (va :: vb :: va :: st) w k n) : ob_G X y R Q pc lv (va :: vb :: st) w k n := fun p e s m args below meth c C H locs ls a1 a2 a3 a4 => lv_dup_x1 C.1 C.2.1 hdg hva hvb (kk p e s m args below meth c C H locs ls a1 a2 a3 a4)
theorem og_lcmp {x x9 : Int64} (hdg : decode y.2.1 pc = .ok (.lcmp, 1)) (kk : ob_G X y R Q (pc + 1) lv (.int (lg_cmp x x9) :: st) w k n) : ob_G X y R Q pc lv (.long x9 :: .long x :: st) w k n := fun p e s m args below meth c C H locs ls a1 a2 a3 a4 => W.lcmp C.1 C.2.1 hdg (kk p e s m args below meth c C H locs ls a1 a2 a3 a4)
theorem og_iload_n {j : Fin 4} {x : Int32} (hdg : decode y.2.1 pc = .ok (.iload_n j, 1)) (hl : ob_get lv (j : Nat) = some (.int x)) (kk : ob_G X y R Q (pc + 1) lv (.int x :: st) w k n) : ob_G X y R Q pc lv st w k n := fun p e s m args below meth c C H locs ls a1 a2 a3 a4 => lv_iload_n C.1 C.2.1 hdg rfl (ob_lv a1 hl) (kk p e s m args below meth c C H locs ls a1 a2 a3 a4)
theorem og_iload {j : Nat} {x : Int32} (hdg : decode y.2.1 pc = .ok (.iload j, 2)) (hl : ob_get lv j = some (.int x)) (kk : ob_G X y R Q (pc + 2) lv (.int x :: st) w k n) : ob_G X y R Q pc lv st w k n := fun p e s m args below meth c C H locs ls a1 a2 a3 a4 => lv_iload C.1 C.2.1 hdg (ob_lv a1 hl) (kk p e s m args below meth c C H locs ls a1 a2 a3 a4)
theorem og_lload_n {j : Fin 4} {x : Int64} (hdg : decode y.2.1 pc = .ok (.lload_n j, 1)) (hl : ob_get lv (j : Nat) = some (.long x)) (kk : ob_G X y R Q (pc + 1) lv (.long x :: st) w k n) : ob_G X y R Q pc lv st w k n := fun p e s m args below meth c C H locs ls a1 a2 a3 a4 => lv_lload_n C.1 C.2.1 hdg rfl (ob_lv a1 hl) (kk p e s m args below meth c C H locs ls a1 a2 a3 a4)
theorem og_aload_n {j : Fin 4} {v : Value} (hdg : decode y.2.1 pc = .ok (.aload_n j, 1)) (hl : ob_get lv (j : Nat) = some v) (hv : v.isRef = true) (kk : ob_G X y R Q (pc + 1) lv (v :: st) w k n) : ob_G X y R Q pc lv st w k n := by
  intro p e s m args below meth c C H locs ls a1 a2 a3 a4
  cases v with
  | ref x => exact lv_aload_n C.1 C.2.1 hdg rfl (ob_lv a1 hl) (kk p e s m args below meth c C H locs ls a1 a2 a3 a4)
  | null => exact lv_aload_nN C.1 C.2.1 hdg rfl (ob_lv a1 hl) (kk p e s m args below meth c C H locs ls a1 a2 a3 a4)
  | _ => cases hv
theorem og_aload {j : Nat} {v : Value} (hdg : decode y.2.1 pc = .ok (.aload j, 2)) (hl : ob_get lv j = some v) (hv : v.isRef = true) (kk : ob_G X y R Q (pc + 2) lv (v :: st) w k n) : ob_G X y R Q pc lv st w k n := by
  intro p e s m args below meth c C H locs ls a1 a2 a3 a4
  cases v with
  | ref x => exact lv_aload C.1 C.2.1 hdg (ob_lv a1 hl) (kk p e s m args below meth c C H locs ls a1 a2 a3 a4)
  | null => exact lv_aloadN C.1 C.2.1 hdg (ob_lv a1 hl) (kk p e s m args below meth c C H locs ls a1 a2 a3 a4)
  | _ => cases hv
theorem og_istore_n {j : Fin 4} {x : Int32} (hdg : decode y.2.1 pc = .ok (.istore_n j, 1)) (hn : (j : Nat) < y.2.2.1) (kk : ob_G X y R Q (pc + 1) (ob_put lv j (.int x)) st w k n) : ob_G X y R Q pc lv (.int x :: st) w k n := fun p e s m args below meth c C H locs ls a1 a2 a3 a4 => lv_istore_n C.1 C.2.1 hdg rfl a1 hn rfl (fun ls' a1' => kk p e s m args below meth c C H locs ls' a1' a2 a3 a4)
theorem og_istore {j : Nat} {x : Int32} (hdg : decode y.2.1 pc = .ok (.istore j, 2)) (hn : j < y.2.2.1) (kk : ob_G X y R Q (pc + 2) (ob_put lv j (.int x)) st w k n) : ob_G X y R Q pc lv (.int x :: st) w k n := fun p e s m args below meth c C H locs ls a1 a2 a3 a4 => lv_istore C.1 C.2.1 hdg a1 hn rfl (fun ls' a1' => kk p e s m args below meth c C H locs ls' a1' a2 a3 a4)
theorem og_astore_n {j : Fin 4} {v : Value} (hdg : decode y.2.1 pc = .ok (.astore_n j, 1)) (hn : (j : Nat) < y.2.2.1) (hv : v.isRef = true) (kk : ob_G X y R Q (pc + 1) (ob_put lv j v) st w k n) : ob_G X y R Q pc lv (v :: st) w k n := by
  intro p e s m args below meth c C H locs ls a1 a2 a3 a4
  cases v with
  | ref x => exact lv_astore_n C.1 C.2.1 hdg rfl a1 hn rfl (fun ls' a1' => kk p e s m args below meth c C H locs ls' a1' a2 a3 a4)
  | null => exact lv_astore_nN C.1 C.2.1 hdg rfl a1 hn rfl (fun ls' a1' => kk p e s m args below meth c C H locs ls' a1' a2 a3 a4)
  | _ => cases hv
theorem og_astore {j : Nat} {v : Value} (hdg : decode y.2.1 pc = .ok (.astore j, 2)) (hn : j < y.2.2.1) (hv : v.isRef = true) (kk : ob_G X y R Q (pc + 2) (ob_put lv j v) st w k n) : ob_G X y R Q pc lv (v :: st) w k n := by
  intro p e s m args below meth c C H locs ls a1 a2 a3 a4
  cases v with
  | ref x => exact lv_astore C.1 C.2.1 hdg a1 hn rfl (fun ls' a1' => kk p e s m args below meth c C H locs ls' a1' a2 a3 a4)
  | null => exact lv_astoreN C.1 C.2.1 hdg a1 hn rfl (fun ls' a1' => kk p e s m args below meth c C H locs ls' a1' a2 a3 a4)
  | _ => cases hv
theorem og_iinc {j : Nat} {d : Int} {x v : Int32} (hdg : decode y.2.1 pc = .ok (.iinc j d, 3)) (hl : ob_get lv j = some (.int x)) (hv : x + Int32.ofInt d = v) (hn : j < y.2.2.1) (kk : ob_G X y R Q (pc + 3) (ob_put lv j (.int v)) st w k n) : ob_G X y R Q pc lv st w k n := by
  intro p e s m args below meth c C H locs ls a1 a2 a3 a4
  obtain ⟨i, hi⟩ := List.getElem?_of_mem (ob_get_mem hl)
  exact lv_iinc C.1 C.2.1 hdg a1 hi hv hn rfl (fun ls' a1' => kk p e s m args below meth c C H locs ls' a1' a2 a3 a4)
theorem og_acmp_eq {a b : Nat} {off : Int} {tgt : Nat} (hdg : decode y.2.1 pc = .ok (.if_acmp .eq off, 3)) (ht : (pc : Int) + off = (tgt : Int)) (kt : a = b → ob_G X y R Q tgt lv st w k n) (kf : a ≠ b → ob_G X y R Q (pc + 3) lv st w k n) : ob_G X y R Q pc lv (.ref b :: .ref a :: st) w k n := fun p e s m args below meth c C H locs ls a1 a2 a3 a4 => lv_acmp_eq (rx := some a) (ry := some b) C.1 C.2.1 hdg ht (fun z => kt (Option.some.inj z) p e s m args below meth c C H locs ls a1 a2 a3 a4) (fun z => kf (fun q => z (congrArg some q)) p e s m args below meth c C H locs ls a1 a2 a3 a4)
theorem og_acmp_ne {a b : Nat} {off : Int} {tgt : Nat} (hdg : decode y.2.1 pc = .ok (.if_acmp .ne off, 3)) (ht : (pc : Int) + off = (tgt : Int)) (kt : a ≠ b → ob_G X y R Q tgt lv st w k n) (kf : a = b → ob_G X y R Q (pc + 3) lv st w k n) : ob_G X y R Q pc lv (.ref b :: .ref a :: st) w k n := fun p e s m args below meth c C H locs ls a1 a2 a3 a4 => lv_acmp_ne (rx := some a) (ry := some b) C.1 C.2.1 hdg ht (fun z => kt (fun q => z (congrArg some q)) p e s m args below meth c C H locs ls a1 a2 a3 a4) (fun z => kf (by first | exact Option.some.inj z | exact Classical.byContradiction (fun q => z (fun r => q (Option.some.inj r)))) p e s m args below meth c C H locs ls a1 a2 a3 a4)
/-- the answer -/
theorem og_ireturn {x : Int32} {ty : FieldType} (hr : y.2.2.2.1 = some ty) (hdg : decode y.2.1 pc = .ok (.ireturn, 1)) (hn : narrow ty (.int x) = .int x) (hk : k ≤ R.cells) (hs : n ≤ R.slots) (hq : Q (.inl (some (.int x))) w) : ob_G X y R Q pc lv [.int x] w k n := fun p e s m args below meth c C H locs ls a1 a2 a3 a4 => W.widen hk hs (vx_ret (W.zret (hlocks := C.2.2.2.2.2.2.1) C.1 C.2.1 (C.2.2.1.trans hr) hn (fun t ht hW => ⟨⟨_, w, rfl, hq, by rw [ht]; exact a2, a3⟩, a4.F ht⟩) a4.2.2 hdg))
theorem og_return (hr : y.2.2.2.1 = none) (hdg : decode y.2.1 pc = .ok (.return_, 1)) (hk : k ≤ R.cells) (hs : n ≤ R.slots) (hq : Q (.inl none) w) : ob_G X y R Q pc lv [] w k n := fun p e s m args below meth c C H locs ls a1 a2 a3 a4 => W.widen hk hs (vx_ret (W.vret (hlocks := C.2.2.2.2.2.2.1) C.1 C.2.1 (C.2.2.1.trans hr) (fun t ht hW => ⟨⟨_, w, rfl, hq, by rw [ht]; exact a2, a3⟩, a4.F ht⟩) a4.2.2 hdg))
theorem og_areturn {v : Value} {rt : FieldType} (hr : y.2.2.2.1 = some rt) (hrt : (∃ d, rt = .object d) ∨ ∃ t, rt = .array t) (hv : v = .null ∨ ∃ a, v = .ref a) (hdg : decode y.2.1 pc = .ok (.areturn, 1)) (hk : k ≤ R.cells) (hs : n ≤ R.slots) (hq : Q (.inl (some v)) w) : ob_G X y R Q pc lv [v] w k n := fun p e s m args below meth c C H locs ls a1 a2 a3 a4 => W.widen hk hs (vx_ret (W.aret (hlocks := C.2.2.2.2.2.2.1) C.1 C.2.1 (C.2.2.1.trans hr) hrt hv (fun t ht hW => ⟨⟨_, w, rfl, hq, by rw [ht]; exact a2, a3⟩, a4.F ht⟩) a4.2.2 hdg))
end OBG
end
section
/-! ROWS THAT TOUCH THE HEAP, CALLS, CONTRACTS -/
theorem ob_in {w : Cond} (i : Nat) (h : lw_tbl[i]? = some w) (g : goodWord w = true) : w ∈ ob_tb := List.mem_filter.mpr ⟨List.mem_of_getElem? h, g⟩
theorem ob_gI {L : List Cond} (h : ∀ w ∈ L, w ∈ ob_tb) : GoodIn ob_tb L := fun w hw => ⟨h w hw, good_of_word (List.mem_filter.mp (h w hw)).2⟩
def ob_ty (ci k : Nat) : FieldType := match ci with
  | 0 => tyX0 k
  | 1 => tyX1 k
  | 2 => tyX2 k
  | 3 => tyX3 k
  | 4 => tyX4 k
  | 5 => tyX5 k
  | _ => tyX6 k
/-- a class of vwCl -/
def ob_cl (ci : Nat) (C : String) (T : u_T) (N : Nat) : Prop := vwCl[ci]? = some (C, T, N) ∧ ci < 7 ∧ (∀ w ∈ u_ws C T N, w ∈ ob_tb) ∧ (∀ k, k < N → parseFieldDescriptor (T k).2.2.1 = some (ob_ty ci k)) ∧ (∀ a, a < N → ∀ b, b < N → a ≠ b → (T a).2.1 ≠ (T b).2.1)
/-- field k of class ci, linked by the entry idx of the class own -/
def ob_fk (own : String) (idx ci k : Nat) (fin : Bool) : Prop := ∃ (C : String) (T : u_T) (N : Nat), ob_cl ci C T N ∧ k < N ∧ Cond.fieldLink own idx (T k).1 (T k).2.1 (T k).2.2.1 ∈ ob_tb ∧ (T k).2.2.2 = fin ∧ (T k).1 = C
section OBH
variable {X : ob_X} {y : ob_y} {R : Room} {Q : ob_r → ob_w → Prop} {pc : Nat} {lv : List (Nat × Value)} {st : List Value} {w : ob_w} {k n : Nat}
theorem og_getf {idx ci kf a n0 : Nat} {fin : Bool} {v : Value} (hdg : decode y.2.1 pc = .ok (.getfield idx, 3)) (hf : ob_fk y.1.cls idx ci kf fin) (ha : w.1 a = some (ci, n0)) (hv : w.2.1 a kf = v) (kk : ob_G X y R Q (pc + 3) lv (v :: st) w k n) : ob_G X y R Q pc lv (.ref a :: st) w k n := by
  intro p e s m args below meth c C H locs ls a1 a2 a3 a4
  obtain ⟨CC, T, N, ⟨hc, h7, hin, -, -⟩, hk, hl, -, -⟩ := hf
  obtain ⟨r, h1, cell, q1, q2, q3, q4⟩ := (a2 a ci n0 ha).obj h7
  have hr : r = (CC, T, N) := Option.some.inj (h1.symm.trans hc)
  subst hr
  have hts := C.2.2.2.2.2.1
  obtain ⟨hS, hfc, kC, hkC, hkind⟩ := C.2.2.2.2.2.2.2.2.2.1.1.1 ci _ hc
  obtain ⟨cf, kf9, fi, f, hi, hsl⟩ := hS kf hk
  refine W.getf C.1 C.2.1 C.2.2.2.2.1 (hts _ hl) hi (u_facts hfc hkC (u_lays hts hin hk) hi).1 q1 (by rw [q3]; exact fun h => by cases h) (v := v) ?_ rfl rfl hdg (kk p e s m args below meth c C H locs ls a1 a2 a3 a4)
  rw [hsl, q4 kf hk, hv]
theorem og_put {idx ci kf a n0 : Nat} {v : Value} (hdg : decode y.2.1 pc = .ok (.putfield idx, 3)) (hf : ob_fk y.1.cls idx ci kf false) (ha : w.1 a = some (ci, n0)) (hn : narrow (ob_ty ci kf) v = v) (hv : fits (ob_ty ci kf) v = true) (kk : ob_G X y R Q (pc + 3) lv st (w.1, ob_set w.2.1 a kf v, w.2.2.1, w.2.2.2) k n) : ob_G X y R Q pc lv (v :: .ref a :: st) w k n := by
  intro p e s m args below meth c C H locs ls a1 a2 a3 a4
  obtain ⟨CC, T, N, ⟨hc, h7, hin, hty, hnm⟩, hk, hl, hfin, -⟩ := hf
  have hts := C.2.2.2.2.2.1
  have hK := C.2.2.2.2.2.2.2.2.2.1.1
  have hap := va_apart (own := y.1.cls) hts hin (ob_ty ci) hty hnm hK hc
  obtain ⟨r, h1, cell, q1, q2, q3, q4⟩ := (a2 a ci n0 ha).obj h7
  have hr : r = (CC, T, N) := Option.some.inj (h1.symm.trans hc)
  subst hr
  obtain ⟨hS, hfc, kC, hkC, hkind⟩ := hK.1 ci _ hc
  obtain ⟨cf, kf9, fi, f, hi, hsl⟩ := hS kf hk
  have hlay := hts _ (hin _ (u_in_lay hk))
  unfold u_lay at hlay
  rw [if_neg (by rw [hfin]; decide)] at hlay
  have hst := (u_facts hfc hkC (u_lays hts hin hk) hi).1
  have h6 := u_store hfc hkC hkind hlay hi (hty kf hk) hn hv
  refine W.putK C.1 C.2.1 (f := f) ⟨C.2.2.2.2.1, hts _ hl, ⟨_, _, _, hi⟩, hst⟩ (by rw [q2]; exact h6) q1 q3 (by rw [hsl]; exact k2_hasslot (q4 kf hk)) rfl rfl hdg fun H' e1 e2 e3 => ?_
  rw [hsl] at e1 ⊢
  refine kk p e s m args below meth c C H' _ ls a1 (ob_P.put (a := a) a2 rfl ?_ e3 (fun b hb => by funext j; exact ob_set_a _ _ _ _ j hb) (fun _ _ => rfl) (fun _ _ => rfl)) a3 (a4.put e2 e3 (a3 a _ ha))
  intro c9 n9 h9
  cases h9.symm.trans ha
  refine ob_at.mk h7 ⟨_, hc, t_OB.to (V := updV (w.2.1 a) kf v) ⟨_, e1, q2, q3, t_set q4 hap hk v⟩ (fun j _ => ?_)⟩
  simp [updV, ob_set]
theorem og_putF {idx ci kf a n0 : Nat} {v : Value} (hdg : decode y.2.1 pc = .ok (.putfield idx, 3)) (hf : ob_fk y.1.cls idx ci kf true) (hin2 : y.1.name = "<init>") (hown : (vwCl[ci]?).map (fun q => q.1) = some y.1.cls) (ha : w.1 a = some (ci, n0)) (hn : narrow (ob_ty ci kf) v = v) (hv : fits (ob_ty ci kf) v = true) (kk : ob_G X y R Q (pc + 3) lv st (w.1, ob_set w.2.1 a kf v, w.2.2.1, w.2.2.2) k n) : ob_G X y R Q pc lv (v :: .ref a :: st) w k n := by
  intro p e s m args below meth c C H locs ls a1 a2 a3 a4
  obtain ⟨CC, T, N, ⟨hc, h7, hin, hty, hnm⟩, hk, hl, hfin, hcls⟩ := hf
  have hCC : CC = y.1.cls := by rw [hc] at hown; exact Option.some.inj hown
  have hts := C.2.2.2.2.2.1
  have hK := C.2.2.2.2.2.2.2.2.2.1.1
  have hap := va_apart (own := y.1.cls) hts hin (ob_ty ci) hty hnm hK hc
  obtain ⟨r, h1, cell, q1, q2, q3, q4⟩ := (a2 a ci n0 ha).obj h7
  have hr : r = (CC, T, N) := Option.some.inj (h1.symm.trans hc)
  subst hr
  obtain ⟨hS, hfc, kC, hkC, hkind⟩ := hK.1 ci _ hc
  obtain ⟨cf, kf9, fi, f, hi, hsl⟩ := hS kf hk
  have hlay := hts _ (hin _ (u_in_lay hk))
  unfold u_lay at hlay
  rw [if_pos hfin] at hlay
  have hst := (u_facts hfc hkC (u_lays hts hin hk) hi).1
  have hcf : m.cls = cf := by
    obtain ⟨_, _, c', _, _, _, -, -, hf', -, -, -, hown2, -⟩ := Cond.laysFinal_spec hlay
    have e1 : c' = cf := by have := hi.symm.trans hf'; simp at this; exact this.1.symm
    rw [hcls, hCC] at hown2
    rw [← e1]; exact Option.some.inj (C.2.2.2.2.1.symm.trans hown2)
  have h6 := u_fits hfc hkC hkind (Or.inr hlay) hi (hty kf hk) hn hv
  refine W.putFinK C.1 C.2.1 C.2.2.2.2.1 (hts _ hl) hi hst hcf (C.2.2.2.2.2.2.2.1.trans hin2) (by rw [q2]; exact h6) q1 q3 (by rw [hsl]; exact k2_hasslot (q4 kf hk)) rfl rfl hdg fun H' e1 e2 e3 => ?_
  rw [hsl] at e1 ⊢
  refine kk p e s m args below meth c C H' _ ls a1 (ob_P.put (a := a) a2 rfl ?_ e3 (fun b hb => by funext j; exact ob_set_a _ _ _ _ j hb) (fun _ _ => rfl) (fun _ _ => rfl)) a3 (a4.put e2 e3 (a3 a _ ha))
  intro c9 n9 h9
  cases h9.symm.trans ha
  refine ob_at.mk h7 ⟨_, hc, t_OB.to (V := updV (w.2.1 a) kf v) ⟨_, e1, q2, q3, t_set q4 hap hk v⟩ (fun j _ => ?_)⟩
  simp [updV, ob_set]
/-- a new cell at q -/
def ob_new (T : ob_T) (q c n : Nat) : ob_T := fun b => if b = q then some (c, n) else T b
def ob_row {α : Type} (V : Nat → α) (q : Nat) (f : α) : Nat → α := fun b => if b = q then f else V b
theorem ob_P.push {D : ob_D} {w w' : ob_w} {H H1 : Heap} {c n : Nat} (h : ob_P D w H) (z : H1.size = H.size + 1) (oq : ∀ q : Nat, q < H.size → H1[q]? = H[q]?) (hT : w'.1 = ob_new w.1 H.size c n) (ha : ob_at D w' H.size c n H1)
    (hV : ∀ b, b ≠ H.size → w'.2.1 b = w.2.1 b) (hB : ∀ b, b ≠ H.size → w'.2.2.1 b = w.2.2.1 b) (hJ : ∀ b, b ≠ H.size → w'.2.2.2 b = w.2.2.2 b) : ob_P D w' H1 := by
  intro b c9 n9 hb
  rw [hT] at hb
  unfold ob_new at hb
  split at hb
  · rename_i e; subst e; cases hb; exact ha
  · rename_i e
    exact ((h b c9 n9 hb).kept (oq b (h b c9 n9 hb).lt)).same (hV b e) (hB b e) (hJ b e)
theorem og_new {idx ci N : Nat} {C : String} {T : u_T} {fs : Nat → Value} (hdg : decode y.2.1 pc = .ok (.new idx, 3)) (hc : ob_cl ci C T N) (hl : Cond.classLink y.1.cls idx C ∈ ob_tb) (hi : Cond.instantiable C N ∈ ob_tb) (hini : Cond.initialized C ∈ ob_tb) (hfs : ∀ j, j < N → defaultValue (ob_ty ci j) = fs j) (hk : k + 1 ≤ R.cells) (hs : n + N ≤ R.slots)
    (kk : ∀ q, w.1 q = none → X.2.2 ≤ q → ob_G X y R Q (pc + 3) lv (.ref q :: st) (ob_new w.1 q ci 0, ob_row w.2.1 q fs, w.2.2.1, w.2.2.2) (k + 1) (n + N)) : ob_G X y R Q pc lv st w k n := by
  intro p e s m args below meth c C9 H locs ls a1 a2 a3 a4
  obtain ⟨hc0, h7, hin, hty, hnm⟩ := hc
  have hts := C9.2.2.2.2.2.1
  have hK := C9.2.2.2.2.2.2.2.2.2.1.1
  have hKn := hK.1 ci _ hc0
  refine W.newcK C9.1 C9.2.1 C9.2.2.2.2.1 (hts _ hl) (hts _ hi) (hts _ hini) rfl hdg hk hs hKn.2.1 rfl fun H1 kC hkC e1 z1 o1 => ?_
  have hq : w.1 H.size = none := by
    cases hz : w.1 H.size with
    | none => rfl
    | some x => exact absurd (a2 _ x.1 x.2 hz).lt (Nat.lt_irrefl _)
  have hlo : X.2.2 ≤ H.size := Nat.le_trans C9.2.2.2.2.2.2.2.2.2.2 a4.1
  refine kk H.size hq hlo p e s m args below meth c C9 H1 locs ls a1 (ob_P.push a2 z1 o1 rfl (ob_at.mk h7 ⟨_, hc0, ?_⟩) (fun b hb => by simp [ob_row, hb]) (fun _ _ => rfl) (fun _ _ => rfl)) ?_ ⟨Nat.le_trans a4.1 (by omega), fun x h1 h2 => (o1 x (Nat.lt_of_lt_of_le h1 a4.1)).trans (a4.2.1 x h1 h2), a4.2.2⟩
  · refine (u_born (ob_ty ci) hts hin hKn hkC e1 hty).to (fun j hj => ?_)
    simp [ob_row, hfs j hj]
  · intro a x hx
    unfold ob_new at hx
    dsimp only at hx
    split at hx
    · rename_i e9; subst e9; exact hlo
    · exact a3 a x hx
theorem og_objInit {idx a : Nat} (hdg : decode y.2.1 pc = .ok (.invokespecial idx, 3)) (hl : Cond.methodLink y.1.cls idx objectInit ∈ ob_tb) (hi : Cond.instanceMethod objectInit ∈ ob_tb) (hc : Cond.code objectInit ⟨#[0xb1]⟩ 1 none ∈ ob_tb) (hf : 1 ≤ R.frames) (hlo : (st.map fun v => v.category).sum + 12 ≤ R.locals) (kk : ob_G X y R Q (pc + 3) lv st w k n) : ob_G X y R Q pc lv (.ref a :: st) w k n := fun p e s m args below meth c C H locs ls a1 a2 a3 a4 => W.objInit C.1 C.2.1 C.2.2.2.2.1 (C.2.2.2.2.2.1 _ hl) (C.2.2.2.2.2.1 _ hi) (C.2.2.2.2.2.1 _ hc) rfl (by show ls.size = c.maxLocals; rw [C.2.2.2.1]; exact a1.1) rfl hdg hf (by show 2 * 0 + _ + 12 ≤ _; omega) (kk p e s m args below meth c C H locs ls a1 a2 a3 a4)
theorem og_mmax {idx : Nat} {x x9 : Int32} (hdg : decode y.2.1 pc = .ok (.invokestatic idx, 3)) (hl : Cond.methodLink y.1.cls idx Lib.Math.max.name ∈ ob_tb) (hf : 1 ≤ R.frames) (hlo : (st.map fun v => v.category).sum + 13 ≤ R.locals) (hk : k ≤ R.cells) (hs : n ≤ R.slots) (h1 : Cond.static Lib.Math.max.name ∈ ob_tb) (h2 : Cond.initialized "java/lang/Math" ∈ ob_tb) (h3 : Cond.code Lib.Math.max.name Lib.Math.max.code 2 (some .int) ∈ ob_tb) (kk : ob_G X y R Q (pc + 3) lv (.int (if x < x9 then x9 else x) :: st) w k n) : ob_G X y R Q pc lv (.int x9 :: .int x :: st) w k n := fun p e s m args below meth c C H locs ls a1 a2 a3 a4 => va_mmax C.1 C.2.1 (by rw [C.2.2.2.1]; exact a1.1.symm) C.2.2.2.2.1 (C.2.2.2.2.2.1 _ hl) (C.2.2.2.2.2.1 _ h1) (C.2.2.2.2.2.1 _ h2) (C.2.2.2.2.2.1 _ h3) hf hlo hk hs hdg (kk p e s m args below meth c C H locs ls a1 a2 a3 a4)
theorem og_mmin {idx : Nat} {x x9 : Int32} (hdg : decode y.2.1 pc = .ok (.invokestatic idx, 3)) (hl : Cond.methodLink y.1.cls idx Lib.Math.min.name ∈ ob_tb) (hf : 1 ≤ R.frames) (hlo : (st.map fun v => v.category).sum + 13 ≤ R.locals) (hk : k ≤ R.cells) (hs : n ≤ R.slots) (h1 : Cond.static Lib.Math.min.name ∈ ob_tb) (h2 : Cond.initialized "java/lang/Math" ∈ ob_tb) (h3 : Cond.code Lib.Math.min.name Lib.Math.min.code 2 (some .int) ∈ ob_tb) (kk : ob_G X y R Q (pc + 3) lv (.int (if x9 < x then x9 else x) :: st) w k n) : ob_G X y R Q pc lv (.int x9 :: .int x :: st) w k n := fun p e s m args below meth c C H locs ls a1 a2 a3 a4 => va_mmin C.1 C.2.1 (by rw [C.2.2.2.1]; exact a1.1.symm) C.2.2.2.2.1 (C.2.2.2.2.2.1 _ hl) (C.2.2.2.2.2.1 _ h1) (C.2.2.2.2.2.1 _ h2) (C.2.2.2.2.2.1 _ h3) hf hlo hk hs hdg (kk p e s m args below meth c C H locs ls a1 a2 a3 a4)
/-! arrays -/
theorem og_bald {a m0 : Nat} {i : Int32} (hdg : decode y.2.1 pc = .ok (.baload, 1)) (ha : w.1 a = some (7, m0)) (hi : vp_in i m0) (kk : ob_G X y R Q (pc + 1) lv (.int (w.2.2.1 a i.toNatClampNeg) :: st) w k n) : ob_G X y R Q pc lv (.int i :: .ref a :: st) w k n := by
  intro p e s m args below meth c C H locs ls a1 a2 a3 a4
  have h := a2 a 7 m0 ha
  have hK := C.2.2.2.2.2.2.2.2.2.1.1
  have hlt : i.toNatClampNeg < m0 := Nat.not_le.mp fun q => hi (Or.inr q)
  exact W.bald (v := .int (w.2.2.1 a i.toNatClampNeg)) C.1 C.2.1 h ((hK.2 0 _ rfl).1 m0 _) (fun q => by cases q) (by show ¬ (i < 0 ∨ (arrV _ _ _).slots.size ≤ _); rw [arrV_size]; exact hi) (arrV_read _ _ hlt) rfl rfl hdg (kk p e s m args below meth c C H locs ls a1 a2 a3 a4)
theorem og_iald {a m0 : Nat} {i : Int32} (hdg : decode y.2.1 pc = .ok (.iaload, 1)) (ha : w.1 a = some (8, m0)) (hi : vp_in i m0) (kk : ob_G X y R Q (pc + 1) lv (.int (w.2.2.1 a i.toNatClampNeg) :: st) w k n) : ob_G X y R Q pc lv (.int i :: .ref a :: st) w k n := by
  intro p e s m args below meth c C H locs ls a1 a2 a3 a4
  have h := a2 a 8 m0 ha
  have hK := C.2.2.2.2.2.2.2.2.2.1.1
  have hlt : i.toNatClampNeg < m0 := Nat.not_le.mp fun q => hi (Or.inr q)
  exact W.iald (v := .int (w.2.2.1 a i.toNatClampNeg)) C.1 C.2.1 h ((hK.2 1 _ rfl).1 m0 _) (fun q => by cases q) (by show ¬ (i < 0 ∨ (arrV _ _ _).slots.size ≤ _); rw [arrV_size]; exact hi) (arrV_read _ _ hlt) rfl rfl hdg (kk p e s m args below meth c C H locs ls a1 a2 a3 a4)
theorem og_lald {a m0 : Nat} {i : Int32} (hdg : decode y.2.1 pc = .ok (.laload, 1)) (ha : w.1 a = some (9, m0)) (hi : vp_in i m0) (kk : ob_G X y R Q (pc + 1) lv (.long (w.2.2.2 a i.toNatClampNeg) :: st) w k n) : ob_G X y R Q pc lv (.int i :: .ref a :: st) w k n := by
  intro p e s m args below meth c C H locs ls a1 a2 a3 a4
  have h := a2 a 9 m0 ha
  have hK := C.2.2.2.2.2.2.2.2.2.1.1
  have hlt : i.toNatClampNeg < m0 := Nat.not_le.mp fun q => hi (Or.inr q)
  exact W.lald (v := .long (w.2.2.2 a i.toNatClampNeg)) C.1 C.2.1 h ((hK.2 2 _ rfl).1 m0 _) (fun q => by cases q) (by show ¬ (i < 0 ∨ (arrV _ _ _).slots.size ≤ _); rw [arrV_size]; exact hi) (arrV_read _ _ hlt) rfl rfl hdg (kk p e s m args below meth c C H locs ls a1 a2 a3 a4)
theorem og_bast {a m0 : Nat} {i x : Int32} (hdg : decode y.2.1 pc = .ok (.bastore, 1)) (ha : w.1 a = some (7, m0)) (hi : vp_in i m0) (kk : ob_G X y R Q (pc + 1) lv st (w.1, w.2.1, ob_set w.2.2.1 a i.toNatClampNeg x.toInt8.toInt32, w.2.2.2) k n) : ob_G X y R Q pc lv (.int x :: .int i :: .ref a :: st) w k n := by
  intro p e s m args below meth c C H locs ls a1 a2 a3 a4
  have h := a2 a 7 m0 ha
  have hK := C.2.2.2.2.2.2.2.2.2.1.1
  refine W.bast C.1 C.2.1 h ((hK.2 0 _ rfl).1 m0 _) (fun q => by cases q) (by show ¬ (i < 0 ∨ (arrV _ _ _).slots.size ≤ _); rw [arrV_size]; exact hi) rfl rfl hdg fun H1 e1 z oq => ?_
  refine kk p e s m args below meth c C H1 _ ls a1 (ob_P.put (a := a) a2 rfl ?_ oq (fun _ _ => rfl) (fun b hb => by funext j; exact ob_set_a _ _ _ _ j hb) (fun _ _ => rfl)) a3 (a4.put z oq (a3 a _ ha))
  intro c9 n9 h9
  cases h9.symm.trans ha
  show H1[a]? = some (arrV _ _ _)
  rw [e1, arrV_store]
  congr 2
  funext q
  by_cases hq : q = i.toNatClampNeg
  · subst hq; simp [updV, ob_set, narrow]
  · simp [updV, ob_set, hq]
theorem og_iast {a m0 : Nat} {i x : Int32} (hdg : decode y.2.1 pc = .ok (.iastore, 1)) (ha : w.1 a = some (8, m0)) (hi : vp_in i m0) (kk : ob_G X y R Q (pc + 1) lv st (w.1, w.2.1, ob_set w.2.2.1 a i.toNatClampNeg x, w.2.2.2) k n) : ob_G X y R Q pc lv (.int x :: .int i :: .ref a :: st) w k n := by
  intro p e s m args below meth c C H locs ls a1 a2 a3 a4
  have h := a2 a 8 m0 ha
  have hK := C.2.2.2.2.2.2.2.2.2.1.1
  refine W.iast C.1 C.2.1 h ((hK.2 1 _ rfl).1 m0 _) (fun q => by cases q) (by show ¬ (i < 0 ∨ (arrV _ _ _).slots.size ≤ _); rw [arrV_size]; exact hi) rfl rfl hdg fun H1 e1 z oq => ?_
  refine kk p e s m args below meth c C H1 _ ls a1 (ob_P.put (a := a) a2 rfl ?_ oq (fun _ _ => rfl) (fun b hb => by funext j; exact ob_set_a _ _ _ _ j hb) (fun _ _ => rfl)) a3 (a4.put z oq (a3 a _ ha))
  intro c9 n9 h9
  cases h9.symm.trans ha
  show H1[a]? = some (arrV _ _ _)
  rw [e1, arrV_store]
  congr 2
  funext q
  by_cases hq : q = i.toNatClampNeg
  · subst hq; simp [updV, ob_set]
  · simp [updV, ob_set, hq]
theorem og_last {a m0 : Nat} {i : Int32} {x : Int64} (hdg : decode y.2.1 pc = .ok (.lastore, 1)) (ha : w.1 a = some (9, m0)) (hi : vp_in i m0) (kk : ob_G X y R Q (pc + 1) lv st (w.1, w.2.1, w.2.2.1, ob_set w.2.2.2 a i.toNatClampNeg x) k n) : ob_G X y R Q pc lv (.long x :: .int i :: .ref a :: st) w k n := by
  intro p e s m args below meth c C H locs ls a1 a2 a3 a4
  have h := a2 a 9 m0 ha
  have hK := C.2.2.2.2.2.2.2.2.2.1.1
  refine W.last C.1 C.2.1 h ((hK.2 2 _ rfl).1 m0 _) (fun q => by cases q) (by show ¬ (i < 0 ∨ (arrV _ _ _).slots.size ≤ _); rw [arrV_size]; exact hi) rfl rfl hdg fun H1 e1 z oq => ?_
  refine kk p e s m args below meth c C H1 _ ls a1 (ob_P.put (a := a) a2 rfl ?_ oq (fun _ _ => rfl) (fun _ _ => rfl) (fun b hb => by funext j; exact ob_set_a _ _ _ _ j hb)) a3 (a4.put z oq (a3 a _ ha))
  intro c9 n9 h9
  cases h9.symm.trans ha
  show H1[a]? = some (arrV _ _ _)
  rw [e1, arrV_store]
  congr 2
  funext q
  by_cases hq : q = i.toNatClampNeg
  · subst hq; simp [updV, ob_set]
  · simp [updV, ob_set, hq]
theorem og_alen {a c0 m0 : Nat} (hdg : decode y.2.1 pc = .ok (.arraylength, 1)) (ha : w.1 a = some (c0, m0)) (h0 : c0 = 7 ∨ c0 = 8) (kk : ob_G X y R Q (pc + 1) lv (.int (nI m0) :: st) w k n) : ob_G X y R Q pc lv (.ref a :: st) w k n := by
  intro p e s m args below meth c C H locs ls a1 a2 a3 a4
  have h := a2 a c0 m0 ha
  have hK := C.2.2.2.2.2.2.2.2.2.1.1
  rcases h0 with rfl | rfl
  · exact W.alen (n := nI m0) C.1 C.2.1 h ((hK.2 0 _ rfl).1 m0 _) (by rw [arrV_size] <;> rfl) rfl rfl hdg (kk p e s m args below meth c C H locs ls a1 a2 a3 a4)
  · exact W.alen (n := nI m0) C.1 C.2.1 h ((hK.2 1 _ rfl).1 m0 _) (by rw [arrV_size] <;> rfl) rfl rfl hdg (kk p e s m args below meth c C H locs ls a1 a2 a3 a4)
/-- new arrays: t = 0 byte[], 1 int[], 2 long[] -/
theorem og_newa {t : Nat} {at9 : ArrayType} {m0 : Nat} {i : Int32} (hdg : decode y.2.1 pc = .ok (.newarray at9, 2)) (hty : (t = 0 ∧ at9 = .byte) ∨ (t = 1 ∧ at9 = .int) ∨ (t = 2 ∧ at9 = .long)) (harr : Cond.arrayClass (newarray.typeOf at9) ∈ ob_tb) (hi : i = nI m0) (hm : m0 ≤ 1000000) (hk : k + 1 ≤ R.cells) (hs : n + m0 ≤ R.slots)
    (kk : ∀ q, w.1 q = none → X.2.2 ≤ q → ob_G X y R Q (pc + 2) lv (.ref q :: st) (ob_new w.1 q (7 + t) m0, w.2.1, ob_row w.2.2.1 q (fun _ => 0), ob_row w.2.2.2 q (fun _ => 0)) (k + 1) (n + m0)) : ob_G X y R Q pc lv (.int i :: st) w k n := by
  intro p e s m args below meth c C H locs ls a1 a2 a3 a4
  have hK := C.2.2.2.2.2.2.2.2.2.1.1
  have hts := C.2.2.2.2.2.1
  subst hi
  refine va_newaK C.1 C.2.1 (hts _ harr) rfl hdg rfl (nI_pos (by omega)) (nI_clamp (by omega)) (by rcases hty with ⟨-, rfl⟩ | ⟨-, rfl⟩ | ⟨-, rfl⟩ <;> simp [newarray.typeOf, componentBytes] <;> omega) hk hs rfl fun H1 cA e1 z1 o1 hAr hNm => ?_
  have hq : w.1 H.size = none := by
    cases hz : w.1 H.size with
    | none => rfl
    | some x => exact absurd (a2 _ x.1 x.2 hz).lt (Nat.lt_irrefl _)
  have hlo : X.2.2 ≤ H.size := Nat.le_trans C.2.2.2.2.2.2.2.2.2.2 a4.1
  refine kk H.size hq hlo p e s m args below meth c C H1 locs ls a1 (ob_P.push a2 z1 o1 rfl ?_ (fun _ _ => rfl) (fun b hb => by simp [ob_row, hb]) (fun b hb => by simp [ob_row, hb])) ?_ ⟨Nat.le_trans a4.1 (by omega), fun x h1 h2 => (o1 x (Nat.lt_of_lt_of_le h1 a4.1)).trans (a4.2.1 x h1 h2), a4.2.2⟩
  · rcases hty with ⟨rfl, rfl⟩ | ⟨rfl, rfl⟩ | ⟨rfl, rfl⟩
    · have e9 : cA = X.2.1.2 0 := Option.some.inj (hNm.symm.trans (hK.2 0 _ rfl).2)
      subst e9
      simpa [ob_at, ob_row, newarray.typeOf, defaultValue] using e1
    · have e9 : cA = X.2.1.2 1 := Option.some.inj (hNm.symm.trans (hK.2 1 _ rfl).2)
      subst e9
      simpa [ob_at, ob_row, newarray.typeOf, defaultValue] using e1
    · have e9 : cA = X.2.1.2 2 := Option.some.inj (hNm.symm.trans (hK.2 2 _ rfl).2)
      subst e9
      simpa [ob_at, ob_row, newarray.typeOf, defaultValue] using e1
  · intro a x hx
    unfold ob_new at hx
    dsimp only at hx
    split at hx
    · rename_i e9; subst e9; exact hlo
    · exact a3 a x hx
theorem og_ldc {idx : Nat} {v : Int32} (hdg : decode y.2.1 pc = .ok (.ldc idx, 2)) (hc : Cond.constant y.1.cls idx v ∈ ob_tb) (kk : ob_G X y R Q (pc + 2) lv (.int v :: st) w k n) : ob_G X y R Q pc lv st w k n := fun p e s m args below meth c C H locs ls a1 a2 a3 a4 => lv_ldc C.1 C.2.1 C.2.2.2.2.1 (C.2.2.2.2.2.1 _ hc) hdg (kk p e s m args below meth c C H locs ls a1 a2 a3 a4)
theorem og_ldcw {idx : Nat} {v : Int32} (hdg : decode y.2.1 pc = .ok (.ldc_w idx, 3)) (hc : Cond.constant y.1.cls idx v ∈ ob_tb) (kk : ob_G X y R Q (pc + 3) lv (.int v :: st) w k n) : ob_G X y R Q pc lv st w k n := fun p e s m args below meth c C H locs ls a1 a2 a3 a4 => lv_ldcw C.1 C.2.1 C.2.2.2.2.1 (C.2.2.2.2.2.1 _ hc) hdg (kk p e s m args below meth c C H locs ls a1 a2 a3 a4)
theorem og_ldc2 {idx : Nat} {v : Int64} (hdg : decode y.2.1 pc = .ok (.ldc2_w idx, 3)) (hc : Cond.constantLong y.1.cls idx v ∈ ob_tb) (kk : ob_G X y R Q (pc + 3) lv (.long v :: st) w k n) : ob_G X y R Q pc lv st w k n := fun p e s m args below meth c C H locs ls a1 a2 a3 a4 => lv_ldc2 C.1 C.2.1 C.2.2.2.2.1 (C.2.2.2.2.2.1 _ hc) hdg (kk p e s m args below meth c C H locs ls a1 a2 a3 a4)
theorem og_tableOut {dflt lo hi : Int} {offs : Array Int} {len : Nat} {x : Int32} {tgt : Nat} (hdg : decode y.2.1 pc = .ok (.tableswitch dflt lo hi offs, len)) (h : x.toInt < lo ∨ hi < x.toInt) (ht : (pc : Int) + dflt = (tgt : Int)) (kk : ob_G X y R Q tgt lv st w k n) : ob_G X y R Q pc lv (.int x :: st) w k n := fun p e s m args below meth c C H locs ls a1 a2 a3 a4 => lv_tableOut C.1 C.2.1 hdg h ht (kk p e s m args below meth c C H locs ls a1 a2 a3 a4)
theorem og_tableIn {dflt lo hi : Int} {offs : Array Int} {len : Nat} {x : Int32} {off : Int} {tgt : Nat} (hdg : decode y.2.1 pc = .ok (.tableswitch dflt lo hi offs, len)) (h1 : ¬ x.toInt < lo) (h2 : ¬ hi < x.toInt) (ho : offs[(x.toInt - lo).toNat]? = some off) (ht : (pc : Int) + off = (tgt : Int)) (kk : ob_G X y R Q tgt lv st w k n) : ob_G X y R Q pc lv (.int x :: st) w k n := fun p e s m args below meth c C H locs ls a1 a2 a3 a4 => lv_tableIn C.1 C.2.1 hdg h1 h2 ho ht (kk p e s m args below meth c C H locs ls a1 a2 a3 a4)
/-! contracts and calls -/
def ob_wd (X : ob_X) (w : ob_w) (U : State) : Prop := ob_P X.2.1 w U.heap ∧ ob_lo X w ∧ X.2.2 ≤ U.heap.size ∧ ob_K X U
def ob_ws (y : ob_y) : List Cond := Cond.code y.1 y.2.1 y.2.2.1 y.2.2.2.1 :: ob_tb
abbrev ob_rm (d mc ms : Nat) : Room := { frames := d, cells := mc, slots := ms, locals := 60 * d }
/-- method y, called with As in the world w, ends with Q: d frames deep, at most mc new cells of ms slots -/
def ob_C (X : ob_X) (y : ob_y) (d mc ms : Nat) (As : List Value) (w : ob_w) (Q : ob_r → ob_w → Prop) : Prop :=
  vx_Met X.1 y.1 (ob_ws y) (ob_rm d mc ms) (va_Pc As (ob_wd X w)) (ob_Qc X Q) (ob_XC X Q) mc ms (fun q => X.2.2 ≤ q)
theorem ob_C_of {X : ob_X} {y : ob_y} {d mc ms : Nat} {As : List Value} {w : ob_w} {Q : ob_r → ob_w → Prop} (hy : plainName y.1.cls = true) (hh : y.2.2.2.2 = []) (hl : (lg_sl As).length ≤ y.2.2.1) (h : ob_G X y (ob_rm d mc ms) Q 0 (lv_args 0 As) [] w 0 0) : ob_C X y d mc ms As w Q := by
  refine vx_ofW (cc := y.2.1) (maxL := y.2.2.1) (ret := y.2.2.2.1) hy rfl ?_
  intro p e s m args below meth c s₁ B hml htab hv
  obtain ⟨rfl, hP, hlo, hsz, hK⟩ := hv
  have hts := atoms_spec (ws := ob_ws y) B.pre
  have hent := lv_entry As (n := y.2.2.1) hl
  rw [lg_entry_eq]
  have ht : c.exceptionTable.toList = tableOf y.2.2.2.2 := by
    rw [hh]
    cases hz : c.exceptionTable.toList with
    | nil => rfl
    | cons x l => exact absurd (htab x (by rw [hz]; exact List.mem_cons_self)) (fun z => z)
  exact h p e s m As.toArray below meth c ⟨B.exec, B.bytes, B.returns, hml, findClass_of_methodNamed B.named, fun w9 h9 => hts w9 (List.mem_cons_of_mem _ h9), B.notSynchronized, (name_of_methodNamed B.named B.method).1, ht, hK, hsz⟩ s.heap [] _ hent hP hlo va_S.rf
theorem ob_K.warm {X : ob_X} {s U : State} {H : Heap} {locs : List Loc} (h : ob_K X s) (hS : va_S (fun q => X.2.2 ≤ q) s.heap H locs) (hU : U.heap = H) (hW : s.WarmedH U.vm) : ob_K X U := by
  obtain ⟨h1, h2, h3, h4, h5, h6⟩ := h
  refine ⟨va_K.moved hW.alike h1, h2, fun q hq => ?_, fun x hx => va_Nw.warmD hW (h4 x hx), ?_, ?_⟩
  · obtain ⟨sa, hsa⟩ := h3 q hq
    exact ⟨sa, hsa.warm hW⟩
  · rw [hU]; exact vx_Zq.moved hW.alike (h5.kept hS.2.1)
  · rw [hU]; exact vx_Zq.moved hW.alike (h6.kept hS.2.1)
theorem ob_wd.blind {X : ob_X} {w : ob_w} (As : List Value) : FrameBlind (va_Pc As (ob_wd X w)) := by
  intro a U g mk h
  obtain ⟨h0, h1, h2, h3, h4, h5, h6, h7, h8, h9⟩ := h
  refine ⟨h0, h1, h2, h3, va_K.moved (u := U) (U := U.calling g mk a) (Vm.Alike.refl U.vm) h4, h5, fun q hq => ?_, fun x hx => va_Nw.same rfl (u := U) (U := U.calling g mk a) rfl (h7 x hx), vx_Zq.moved (u := U) (U := U.calling g mk a) (Vm.Alike.refl U.vm) h8, vx_Zq.moved (u := U) (U := U.calling g mk a) (Vm.Alike.refl U.vm) h9⟩
  obtain ⟨sa, hsa⟩ := h6 q hq
  exact ⟨sa, vk_R.same (u := U) (U := U.calling g mk a) rfl hsa⟩
/-- behind a call -/
theorem ob_callW {p : Program} {e : Env} {s : State} {m : MethodId} {args a : Array Value} {below : List Frame} {meth : Method} {c : Code} {H : Heap} {locs : List Loc} {ls : Array Slot} {mc ms : Nat} {stk : List Value} {Qe : State → Prop} {Q2 : ob_r → ob_w → Prop}
    (hr : vx_Run p X.1 e R s m args below meth c H locs k n mc ms (F0 m pc ls stk) st (ob_Qc X Q2 a) (ob_XC X Q2) (fun q => X.2.2 ≤ q)) (hS : va_S (fun q => X.2.2 ≤ q) s.heap H locs)
    (kx : ∀ (E : String) (ce : Cell) (q : Addr) (w' : ob_w) (H1 : Heap) (locs1 : List Loc), Q2 (.inr E) w' → ob_P X.2.1 w' H1 → ob_lo X w' → va_S (fun q => X.2.2 ≤ q) s.heap H1 locs1 → H1[q]? = some ce → ce.vm = .none → s.vm.findClass E = some ce.cls → vx_W p X.1 e R s m args below meth c H1 locs1 (k + mc) (n + ms) Qe (F0 m pc ls st) q)
    (kk : ∀ (v : Option Value) (w' : ob_w) (H1 : Heap) (locs1 : List Loc), Q2 (.inl v) w' → ob_P X.2.1 w' H1 → ob_lo X w' → va_S (fun q => X.2.2 ≤ q) s.heap H1 locs1 → W p X.1 e R s m args below meth c H1 locs1 (k + mc) (n + ms) Qe (F0 m (pc + 3) ls (v.toList ++ st))) : W p X.1 e R s m args below meth c H locs k n Qe (F0 m pc ls stk) := by
  intro T hT X9
  rcases hr T hT X9 with ⟨v, st₀, t, T', L, h0, X', hL, e1, e2, ⟨⟨v', w', hv, hq, hP, hlo⟩, hF⟩, st9⟩ | ⟨q, st₀, t, T', L, E, ce, h0, X', hL, e1, e2, ⟨⟨w', hq, hP, hlo⟩, hF⟩, hce, hcv, hcl, st9⟩
  · cases hv
    obtain ⟨k1, k2, k3⟩ := vx_keep h0 e1 hS (fun q _ h => h) (fun q h => h) hL hF
    obtain ⟨t2, a1, b1⟩ := kk v w' T'.heap (locs ++ L) hq (by rw [e1]; exact hP) hlo k3 T' rfl X'
    exact ⟨t2, st9 t2 a1, b1⟩
  · obtain ⟨k1, k2, k3⟩ := vx_keep h0 e1 hS (fun q _ h => h) (fun q h => h) hL hF
    obtain ⟨t2, a1, b1⟩ := kx E ce q w' T'.heap (locs ++ L) hq (by rw [e1]; exact hP) hlo k3 (by rw [e1]; exact hce) hcv hcl T' rfl X'
    exact ⟨t2, st9.trans a1, b1⟩
/-- what a call of y needs of the tables -/
def ob_mk (y : ob_y) : Prop := Cond.code y.1 y.2.1 y.2.2.1 y.2.2.2.1 ∈ ob_tb ∧ Cond.initialized y.1.cls ∈ ob_tb ∧ y.1.cls ≠ "java/lang/invoke/MethodHandle" ∧ y.1.cls ≠ "java/lang/invoke/VarHandle"
def ob_mv (own : String) (idx : Nat) (y : ob_y) (np : Nat) : Prop := ob_mk y ∧ Cond.methodLink own idx y.1 ∈ ob_tb ∧ Cond.instanceMethod y.1 ∈ ob_tb ∧ Cond.selects y.1.cls y.1 y.1 ∈ ob_tb ∧ (parseMethodDescriptor y.1.desc).map (fun d => d.parameters.length) = some np
def ob_ms (own : String) (idx : Nat) (y : ob_y) (np : Nat) : Prop := ob_mk y ∧ Cond.methodLink own idx y.1 ∈ ob_tb ∧ Cond.static y.1 ∈ ob_tb ∧ (parseMethodDescriptor y.1.desc).map (fun d => d.parameters.length) = some np
def ob_mi (own : String) (idx : Nat) (y : ob_y) (np : Nat) : Prop := ob_mk y ∧ Cond.methodLink own idx y.1 ∈ ob_tb ∧ Cond.instanceMethod y.1 ∈ ob_tb ∧ y.1.name = "<init>" ∧ y.2.2.2.1 = none ∧ (parseMethodDescriptor y.1.desc).map (fun d => d.parameters.length) = some np
theorem ob_notab {p : Program} {e : Env} {s : State} {m : MethodId} {args : Array Value} {meth : Method} {c : Code} (C : ob_Cx X y p e s m args meth c) (hh : y.2.2.2.2 = []) (pc : Nat) : ∀ x ∈ c.exceptionTable.toList, covers x pc = false := by
  intro x hx
  rw [C.2.2.2.2.2.2.2.2.1, hh] at hx
  cases hx
theorem og_callV {idx b ci n0 d mc ms : Nat} {z : ob_y} {As stk : List Value} {Q2 : ob_r → ob_w → Prop} (hdg : decode y.2.1 pc = .ok (.invokevirtual idx, 3)) (hv : ob_mv y.1.cls idx z As.length) (hM : ob_C X z d mc ms (.ref b :: As) w Q2) (hb : w.1 b = some (ci, n0)) (hci : (vwCl[ci]?).map (fun q => q.1) = some z.1.cls) (hstk : stk = As.reverse ++ .ref b :: st) (hR : d + 1 ≤ R.frames ∧ 8 + (z.2.2.1 + 11) + 60 * d ≤ R.locals) (hk : k + mc ≤ R.cells) (hs : n + ms ≤ R.slots) (hsum : (st.map fun v => v.category).sum ≤ 8) (hh : y.2.2.2.2 = [])
    (kx : ∀ E w', Q2 (.inr E) w' → Q (.inr E) w') (kk : ∀ v w', Q2 (.inl v) w' → ob_G X y R Q (pc + 3) lv (v.toList ++ st) w' (k + mc) (n + ms)) : ob_G X y R Q pc lv stk w k n := by
  intro p e s m args below meth c C H locs ls a1 a2 a3 a4
  obtain ⟨⟨m1, m2, m3, m4⟩, m5, m6, m7, m8⟩ := hv
  have hts := C.2.2.2.2.2.1
  have hK := C.2.2.2.2.2.2.2.2.2.1
  have h7 : ci < 7 := by
    rcases Nat.lt_or_ge ci 7 with h | h
    · exact h
    · rw [List.getElem?_eq_none (by simpa using h)] at hci; cases hci
  obtain ⟨r, r1, cell, r2, r3, r4, -⟩ := (a2 b ci n0 hb).obj h7
  have hcell : s.vm.findClass z.1.cls = some cell.cls := by
    rw [r1] at hci
    have e9 : r.1 = z.1.cls := Option.some.inj hci
    rw [r3, ← e9]; exact (hK.1.1 ci r r1).2.1
  refine ob_callW (mc := mc) (ms := ms) (Q2 := Q2) (vx_runV (As := As) (b := b) (C := z.1.cls) (Ts := ob_tb) ⟨C.1, C.2.1, C.2.2.2.1, C.2.2.2.2.1, hts⟩ hM (cwV As.length hts (ob_gI (fun w9 h9 => ?_)) (ws' := ob_tb) rfl rfl rfl ⟨rfl, m3, m4, m8⟩ hR) ⟨ob_wd.blind _, ⟨cell, r2, by rw [r4]; rfl, hcell⟩, fun U hU hW => ⟨rfl, by rw [hU]; exact a2, a3, by rw [hU]; exact Nat.le_trans C.2.2.2.2.2.2.2.2.2.2 a4.1, hK.warm a4 hU hW⟩⟩ rfl rfl a1.1 hstk (lv_room hsum) hdg ⟨hk, hs⟩) a4 ?_ ?_
  · simp only [wsV, ob_ws, List.cons_append, List.nil_append, List.mem_cons] at h9
    rcases h9 with rfl | rfl | rfl | rfl | rfl | h9
    · exact m5
    · exact m6
    · exact m7
    · exact m2
    · exact m1
    · exact h9
  · intro E ce q w' H1 locs1 hq hP hlo hS hce hcv hcl
    exact vx_out (ob_notab C hh pc) C.2.2.2.2.2.2.1 hce hcv hcl (fun t ht hA => ⟨⟨w', kx E w' hq, by rw [ht]; exact hP, hlo⟩, hS.F ht⟩) hS.2.2 hk hs
  · intro v w' H1 locs1 hq hP hlo hS
    exact kk v w' hq p e s m args below meth c C H1 locs1 ls a1 hP hlo hS
theorem og_callS {idx d mc ms : Nat} {z : ob_y} {As stk : List Value} {Q2 : ob_r → ob_w → Prop} (hdg : decode y.2.1 pc = .ok (.invokestatic idx, 3)) (hv : ob_ms y.1.cls idx z As.length) (hM : ob_C X z d mc ms As w Q2) (hstk : stk = As.reverse ++ st) (hR : d + 1 ≤ R.frames ∧ 8 + (z.2.2.1 + 11) + 60 * d ≤ R.locals) (hk : k + mc ≤ R.cells) (hs : n + ms ≤ R.slots) (hsum : (st.map fun v => v.category).sum ≤ 8) (hh : y.2.2.2.2 = [])
    (kx : ∀ E w', Q2 (.inr E) w' → Q (.inr E) w') (kk : ∀ v w', Q2 (.inl v) w' → ob_G X y R Q (pc + 3) lv (v.toList ++ st) w' (k + mc) (n + ms)) : ob_G X y R Q pc lv stk w k n := by
  intro p e s m args below meth c C H locs ls a1 a2 a3 a4
  obtain ⟨⟨m1, m2, m3, m4⟩, m5, m6, m8⟩ := hv
  have hts := C.2.2.2.2.2.1
  have hK := C.2.2.2.2.2.2.2.2.2.1
  refine ob_callW (mc := mc) (ms := ms) (Q2 := Q2) (vx_runS (As := As) (Ts := ob_tb) ⟨C.1, C.2.1, C.2.2.2.1, C.2.2.2.2.1, hts⟩ hM ⟨callB_of As.length hts (ob_gI (fun w9 h9 => ?_)) (ws' := ob_tb) rfl rfl rfl (hts _ m2) (hts _ m5) ⟨m3, m4, m8⟩ hR, hts _ m6⟩ ⟨ob_wd.blind _, fun U hU hW => ⟨rfl, by rw [hU]; exact a2, a3, by rw [hU]; exact Nat.le_trans C.2.2.2.2.2.2.2.2.2.2 a4.1, hK.warm a4 hU hW⟩⟩ rfl rfl a1.1 hstk (lv_room hsum) hdg ⟨hk, hs⟩) a4 ?_ ?_
  · simp only [ob_ws, List.mem_cons] at h9
    rcases h9 with rfl | h9
    · exact m1
    · exact h9
  · intro E ce q w' H1 locs1 hq hP hlo hS hce hcv hcl
    exact vx_out (ob_notab C hh pc) C.2.2.2.2.2.2.1 hce hcv hcl (fun t ht hA => ⟨⟨w', kx E w' hq, by rw [ht]; exact hP, hlo⟩, hS.F ht⟩) hS.2.2 hk hs
  · intro v w' H1 locs1 hq hP hlo hS
    exact kk v w' hq p e s m args below meth c C H1 locs1 ls a1 hP hlo hS
end OBH
end
section
/-! CONSTRUCTORS' CALLS, COPIES, THROWS -/
theorem ob_C.post {X : ob_X} {y : ob_y} {d mc ms : Nat} {As : List Value} {w : ob_w} {Q Q' : ob_r → ob_w → Prop} (h : ob_C X y d mc ms As w Q) (hq : ∀ r w', Q r w' → Q' r w') : ob_C X y d mc ms As w Q' := by
  intro p e h1 h2 h3 s m args below h4 h5 h6 h7
  obtain ⟨n, o, g1, g2, g3, g4⟩ := h p e h1 h2 h3 s m args below h4 h5 h6 h7
  refine ⟨n, o, g1, g2, g3, ?_⟩
  rcases g4 with ⟨⟨⟨v, w1, c1, c2, c3⟩, c4⟩, c5⟩ | ⟨q, c1, E, ce, L, ⟨⟨w1, c2, c3⟩, c4⟩, c5⟩
  · exact Or.inl ⟨⟨⟨v, w1, c1, hq _ _ c2, c3⟩, c4⟩, c5⟩
  · exact Or.inr ⟨q, c1, E, ce, L, ⟨⟨w1, hq _ _ c2, c3⟩, c4⟩, c5⟩
/-- one that never throws -/
theorem ob_C.met {X : ob_X} {y : ob_y} {d mc ms : Nat} {As : List Value} {w : ob_w} {Q : ob_r → ob_w → Prop} (h : ob_C X y d mc ms As w Q) (hq : ∀ E w', ¬ Q (.inr E) w') : Met X.1 y.1 (ob_ws y) (ob_rm d mc ms) (va_Pc As (ob_wd X w)) (ob_Qc X Q) mc ms (fun q => X.2.2 ≤ q) := by
  intro p e h1 h2 h3 s m args below h4 h5 h6 h7
  obtain ⟨n, o, g1, g2, g3, g4⟩ := h p e h1 h2 h3 s m args below h4 h5 h6 h7
  refine ⟨n, o, g1, g2, g3, ?_⟩
  rcases g4 with g4 | ⟨q, c1, E, ce, L, ⟨⟨w1, c2, c3⟩, c4⟩, c5⟩
  · exact g4
  · exact absurd c2 (hq E w1)
section OBI
variable {X : ob_X} {y : ob_y} {R : Room} {Q : ob_r → ob_w → Prop} {pc : Nat} {lv : List (Nat × Value)} {st : List Value} {w : ob_w} {k n : Nat}
theorem og_callI {idx b d mc ms : Nat} {z : ob_y} {As stk : List Value} {Q2 : ob_r → ob_w → Prop} (hdg : decode y.2.1 pc = .ok (.invokespecial idx, 3)) (hv : ob_mi y.1.cls idx z As.length) (hM : ob_C X z d mc ms (.ref b :: As) w Q2) (hno : ∀ E w', ¬ Q2 (.inr E) w') (hstk : stk = As.reverse ++ .ref b :: st) (hR : d + 1 ≤ R.frames ∧ 8 + (z.2.2.1 + 11) + 60 * d ≤ R.locals) (hk : k + mc ≤ R.cells) (hs : n + ms ≤ R.slots) (hsum : (st.map fun v => v.category).sum ≤ 8)
    (kk : ∀ v w', Q2 (.inl v) w' → ob_G X y R Q (pc + 3) lv (v.toList ++ st) w' (k + mc) (n + ms)) : ob_G X y R Q pc lv stk w k n := by
  intro p e s m args below meth c C H locs ls a1 a2 a3 a4
  obtain ⟨⟨m1, m2, m3, m4⟩, m5, m6, m7, m9, m8⟩ := hv
  have hts := C.2.2.2.2.2.1
  have hK := C.2.2.2.2.2.2.2.2.2.1
  have hwd : ∀ w9 ∈ ob_ws z, w9 ∈ ob_tb := by
    intro w9 h9
    simp only [ob_ws, List.mem_cons] at h9
    rcases h9 with rfl | h9
    · exact m1
    · exact h9
  have hr := va_runI (R := R) (p := p) (l := X.1) (e := e) (s := s) (m := m) (args := args) (below := below) (meth := meth) (c := c) (H := H) (locs := locs) (cells := k) (slots := n) (b := b) (As := As) (rest := st) (g := F0 m pc ls stk) (index := idx) (maxL := z.2.2.1) (bytes := z.2.1) (n := As.length) (Ts := ob_tb) (own := y.1.cls) (cc := y.2.1) (nL := y.2.2.1) ⟨C.1, C.2.1, C.2.2.2.1, C.2.2.2.2.1, hts⟩ (hM.met hno) (cwI As.length hts (ob_gI hwd) (ws' := ob_tb) (by rw [← m9]; rfl) rfl rfl (hts _ m2) (hts _ m5) (hts _ m6) m7 ⟨m3, m4, m8⟩ hR) ⟨ob_wd.blind _, fun U hU hW => ⟨rfl, by rw [hU]; exact a2, a3, by rw [hU]; exact Nat.le_trans C.2.2.2.2.2.2.2.2.2.2 a4.1, hK.warm a4 hU hW⟩⟩ rfl rfl a1.1 hstk (lv_room hsum) hdg ⟨hk, hs⟩
  intro T hT X9
  obtain ⟨v, st₀, t, T', L, h0, X', hL, e1, e2, ⟨⟨v', w', hv, hq, hP, hlo⟩, hF⟩, st9⟩ := hr T hT X9
  cases hv
  obtain ⟨k1, k2, k3⟩ := vx_keep h0 e1 a4 (fun q _ h => h) (fun q h => h) hL hF
  obtain ⟨t2, b1, b2⟩ := kk v w' hq p e s m args below meth c C T'.heap (locs ++ L) ls a1 (by rw [e1]; exact hP) hlo k3 T' rfl X'
  exact ⟨t2, st9 t2 b1, b2⟩
/-- System.arraycopy of byte rows -/
theorem og_copyB {idx a0 a n0 n1 i0 i1 len : Nat} {sp dp m9 : Int32} (hdg : decode y.2.1 pc = .ok (.invokestatic idx, 3)) (hl : Cond.methodLink y.1.cls idx arraycopyName ∈ ob_tb) (h1 : Cond.native arraycopyName ∈ ob_tb) (h2 : Cond.static arraycopyName ∈ ob_tb) (h3 : Cond.initialized "java/lang/System" ∈ ob_tb)
    (ha0 : w.1 a0 = some (7, n0)) (ha : w.1 a = some (7, n1)) (e0 : sp = nI i0) (e1 : dp = nI i1) (e2 : m9 = nI len) (h4 : i0 + len ≤ n0) (h5 : i1 + len ≤ n1) (hb : n0 < 2 ^ 31 ∧ n1 < 2 ^ 31) (hfit : ∀ i, i < len → fits .byte (.int (w.2.2.1 a0 (i0 + i))) = true) (hf : 1 ≤ R.frames) (hlo : (st.map fun v => v.category).sum + (nativeFrameWords "java/lang/System" "arraycopy" 5 + 11) ≤ R.locals)
    (kk : ob_G X y R Q (pc + 3) lv st (w.1, w.2.1, ob_row w.2.2.1 a (va_cpy (w.2.2.1 a0) (w.2.2.1 a) i0 i1 len), w.2.2.2) k n) : ob_G X y R Q pc lv (.int m9 :: .int dp :: .ref a :: .int sp :: .ref a0 :: st) w k n := by
  intro p e s m args below meth c C H locs ls a1 a2 a3 a4
  have hts := C.2.2.2.2.2.1
  have hK := C.2.2.2.2.2.2.2.2.2.1.1
  subst e0; subst e1; subst e2
  have c0 : (nI i0).toNatClampNeg = i0 := nI_clamp (by omega)
  have c1 : (nI i1).toNatClampNeg = i1 := nI_clamp (by omega)
  have c2 : (nI len).toNatClampNeg = len := nI_clamp (by omega)
  have t0 : (nI i0).toInt = (i0 : Int) := nI_toInt (by omega)
  have t1 : (nI i1).toInt = (i1 : Int) := nI_toInt (by omega)
  have t2 : (nI len).toInt = (len : Int) := nI_toInt (by omega)
  intro T hT X9
  have hc0 : H[a0]? = some (arrV (X.2.1.2 0) n0 (fun j => .int (w.2.2.1 a0 j))) := a2 a0 7 n0 ha0
  have hc1 : H[a]? = some (arrV (X.2.1.2 0) n1 (fun j => .int (w.2.2.1 a j))) := a2 a 7 n1 ha
  obtain ⟨-, k0, hk0, cm0, hkk0⟩ := (hK.2 0 _ rfl).1 n0 (fun j => .int (w.2.2.1 a0 j))
  obtain ⟨-, k1, hk1, cm1, hkk1⟩ := (hK.2 0 _ rfl).1 n1 (fun j => .int (w.2.2.1 a j))
  obtain ⟨vm', X', step⟩ := X9.arraycopy C.1 C.2.2.2.2.1 (hts _ hl) (hts _ h1) (hts _ h2) (hts _ h3) (src := a0) (dst := a) (cs := arrV (X.2.1.2 0) n0 (fun j => .int (w.2.2.1 a0 j))) (cd := arrV (X.2.1.2 0) n1 (fun j => .int (w.2.2.1 a j))) (srcPos := nI i0) (destPos := nI i1) (n := nI len) (by rw [hT]; exact hc0) (by rw [hT]; exact hc1)
    (fun _ h => by cases h) (fun _ h => by cases h) (fun h => by cases h) (fun h => by cases h) hk0 hk1 hkk0 hkk1 (by simp [refKind]) (nI_pos (by omega)) (nI_pos (by omega)) (nI_pos (by omega))
    (by rw [t0, t2, arrV_size]; omega) (by rw [t1, t2, arrV_size]; omega)
    (fun vm₁ _ i hi => by
      rw [c2] at hi
      have e9 : (arrV (X.2.1.2 0) n0 (fun j => .int (w.2.2.1 a0 j))).slots.getD ((nI i0).toNatClampNeg + i) .null = .int (w.2.2.1 a0 (i0 + i)) := by
        rw [Array.getD_eq_getD_getElem?, c0, arrV_read _ _ (by omega)]
        rfl
      rw [e9]
      exact ⟨hfit i hi, trivial⟩)
    (g := F0 m pc ls (.int (nI len) :: .int (nI i1) :: .ref a :: .int (nI i0) :: .ref a0 :: st)) rfl (by show ls.size = c.maxLocals; rw [C.2.2.2.1]; exact a1.1) (rest := st) rfl (by rw [C.2.1]; exact hdg) hf (by show 2 * 0 + _ + _ ≤ _; omega)
  have e9 : copied (arrV (X.2.1.2 0) n0 (fun j => .int (w.2.2.1 a0 j))) (arrV (X.2.1.2 0) n1 (fun j => .int (w.2.2.1 a j))) (nI i0) (nI i1) (nI len) = arrV (X.2.1.2 0) n1 (fun j => .int (va_cpy (w.2.2.1 a0) (w.2.2.1 a) i0 i1 len j)) := by
    have h := va_copied (fun z => Value.int z) (X.2.1.2 0) (X.2.1.2 0) (n0 := n0) (n1 := n1) (sp := (nI i0).toNatClampNeg) (dp := (nI i1).toNatClampNeg) (n := (nI len).toNatClampNeg) (w.2.2.1 a0) (w.2.2.1 a) (by rw [c0, c2]; exact h4)
    rw [c0, c1, c2] at h
    show (arrV _ _ _).storeRun (nI i1).toNatClampNeg ((arrV _ _ _).stretch (nI i0).toNatClampNeg (nI len).toNatClampNeg) = _
    rw [c0, c1, c2]
    exact h
  rw [e9] at X' step
  have hl9 : a < H.size := (Array.getElem?_eq_some_iff.mp hc1).1
  generalize hcell : arrV (X.2.1.2 0) n1 (fun j => .int (va_cpy (w.2.2.1 a0) (w.2.2.1 a) i0 i1 len j)) = cell at X' step
  have hheap : ((T.setVm vm').setCell a cell).heap = H.setIfInBounds a cell := by rw [← hT]; rfl
  have oq : ∀ q : Nat, q ≠ a → (H.setIfInBounds a cell)[q]? = H[q]? := fun q hq => by simp [Array.getElem?_setIfInBounds, Ne.symm hq]
  obtain ⟨t, b1, b2⟩ := kk p e s m args below meth c C _ _ ls a1 (ob_P.put (a := a) a2 rfl (fun c9 n9 h9 => by
      cases h9.symm.trans ha
      show (H.setIfInBounds a cell)[a]? = some (arrV _ _ _)
      rw [Array.getElem?_setIfInBounds, if_pos rfl, if_pos hl9, ← hcell]
      simp [ob_row]) oq (fun _ _ => rfl) (fun b hb => by simp [ob_row, hb]) (fun _ _ => rfl)) a3 ⟨by simp; exact a4.1, fun q g1 g2 => by
      rw [oq q (fun e8 => g2 (by rw [e8]; exact a3 a _ ha))]
      exact a4.2.1 q g1 g2, fun q hq => by
      rcases List.mem_append.mp hq with h | h
      · exact a4.2.2 q h
      · obtain ⟨z, -, hz⟩ := List.mem_map.mp h
        rw [← hz]
        exact a3 a _ ha⟩ _ hheap X'
  exact ⟨t, step t b1, b2⟩
/-- what 'throw new E("text")' needs of the tables -/
def ob_th (own : String) (ic : Nat) (cls : String) : Prop := Bundle.fit cls = true ∧ Cond.initialized cls ∈ ob_tb ∧ ∀ w ∈ vx_atS own ic cls ["java/lang/RuntimeException", "java/lang/Exception"], (w ∈ ob_tb ∨ ∃ x ∈ ob_dcl, w = .declares x) ∧ vx_ot w = true
theorem og_throw {ik is ic : Nat} {cls text : String} (hd : decode y.2.1 pc = .ok (.new ik, 3) ∧ decode y.2.1 (pc + 3) = .ok (.dup, 1) ∧ decode y.2.1 (pc + 4) = .ok (.ldc is, 2) ∧ decode y.2.1 (pc + 6) = .ok (.invokespecial ic, 3) ∧ decode y.2.1 (pc + 9) = .ok (.athrow, 1))
    (hown : y.1.cls = RX5) (hl : Cond.classLink y.1.cls ik cls ∈ ob_tb) (hth : ob_th y.1.cls ic cls) (htx : (is, text) ∈ ob_strs) (hh : y.2.2.2.2 = []) (hf : 5 < R.frames) (hlo : (st.map fun v => v.category).sum + 82 ≤ R.locals) (hk : k + 1 ≤ R.cells) (hs : n + 6 ≤ R.slots) (hq : Q (.inr cls) w) : ob_G X y R Q pc lv st w k n := by
  intro p e s m args below meth c C H locs ls a1 a2 a3 a4
  have hts := C.2.2.2.2.2.1
  obtain ⟨hK1, hK2, hK3, hK4, hK5, hK6⟩ := C.2.2.2.2.2.2.2.2.2.1
  obtain ⟨t1, t2, t3⟩ := hth
  obtain ⟨sa, hsa⟩ := hK3 _ htx
  refine vx_throwS (names := ["java/lang/RuntimeException", "java/lang/Exception"]) (own := y.1.cls) (text := text) (sa := sa) C.1 C.2.1 hK2 C.2.2.2.2.1 t1 (by decide) (hts _ hl) (hts _ t2) (by rw [hown]; exact hsa) (fun w9 h9 => ?_) (fun w9 h9 => ?_) hK5 hK6 a4 (by rw [C.2.2.2.1]; exact a1.1) hd.1 hd.2.1 hd.2.2.1 hd.2.2.2.1 hd.2.2.2.2 (ob_notab C hh (pc + 9)) (by simpa using hf) (by simp only [List.length_cons, List.length_nil]; omega) hk hs C.2.2.2.2.2.2.1 (fun t hA hz ho => ⟨⟨w, hq, fun a c9 n9 h9 => (a2 a c9 n9 h9).kept (ho a (a2 a c9 n9 h9).lt), a3⟩, Nat.le_trans a4.1 hz, fun q g1 g2 => (ho q (Nat.lt_of_lt_of_le g1 a4.1)).trans (a4.2.1 q g1 g2)⟩) a4.2.2 hk hs
  · rcases (t3 w9 h9).1 with h | ⟨x, hx, rfl⟩
    · exact hts _ h
    · exact va_Nw.use rfl (hK4 x hx)
  · simp only [List.mem_cons] at h9
    rcases h9 with rfl | rfl | h9
    · simp only [vx_ot, Bool.or_eq_true]; exact Or.inr (List.mem_filter.mp hl).2
    · simp only [vx_ot, Bool.or_eq_true]; exact Or.inr (List.mem_filter.mp t2).2
    · exact (t3 w9 h9).2
end OBI
end
section
/-! CALLS OF METHODS WHOSE END IS KNOWN EXACTLY -/
/-- the end is this one -/
def ob_e (v0 : Option Value) (w0 : ob_w) : ob_r → ob_w → Prop := fun r w' => r = .inl v0 ∧ w' = w0
section OBE
variable {X : ob_X} {y : ob_y} {R : Room} {Q : ob_r → ob_w → Prop} {pc : Nat} {lv : List (Nat × Value)} {st : List Value} {w : ob_w} {k n : Nat}
theorem ob_e_no {v0 : Option Value} {w0 : ob_w} (E : String) (w' : ob_w) : ¬ ob_e v0 w0 (.inr E) w' := fun h => by cases h.1
theorem og_callVe {idx b ci n0 d mc ms : Nat} {z : ob_y} {As stk : List Value} {v0 : Option Value} {w0 : ob_w} (hdg : decode y.2.1 pc = .ok (.invokevirtual idx, 3)) {np : Nat} (hv : ob_mv y.1.cls idx z np) (hM : ob_C X z d mc ms (.ref b :: As) w (ob_e v0 w0)) (hnp : np = As.length) (hb : w.1 b = some (ci, n0)) (hci : (vwCl[ci]?).map (fun q => q.1) = some z.1.cls) (hstk : stk = As.reverse ++ .ref b :: st) (hR : d + 1 ≤ R.frames ∧ 8 + (z.2.2.1 + 11) + 60 * d ≤ R.locals) (hk : k + mc ≤ R.cells) (hs : n + ms ≤ R.slots) (hsum : (st.map fun v => v.category).sum ≤ 8) (hh : y.2.2.2.2 = [])
    (kk : ob_G X y R Q (pc + 3) lv (v0.toList ++ st) w0 (k + mc) (n + ms)) : ob_G X y R Q pc lv stk w k n := by
  subst hnp
  exact og_callV hdg hv hM hb hci hstk hR hk hs hsum hh (fun E w' h => absurd h (ob_e_no E w')) (fun v w' h => by obtain ⟨h1, rfl⟩ := h; cases h1; exact kk)
theorem og_callSe {idx d mc ms : Nat} {z : ob_y} {As stk : List Value} {v0 : Option Value} {w0 : ob_w} (hdg : decode y.2.1 pc = .ok (.invokestatic idx, 3)) {np : Nat} (hv : ob_ms y.1.cls idx z np) (hM : ob_C X z d mc ms As w (ob_e v0 w0)) (hnp : np = As.length) (hstk : stk = As.reverse ++ st) (hR : d + 1 ≤ R.frames ∧ 8 + (z.2.2.1 + 11) + 60 * d ≤ R.locals) (hk : k + mc ≤ R.cells) (hs : n + ms ≤ R.slots) (hsum : (st.map fun v => v.category).sum ≤ 8) (hh : y.2.2.2.2 = [])
    (kk : ob_G X y R Q (pc + 3) lv (v0.toList ++ st) w0 (k + mc) (n + ms)) : ob_G X y R Q pc lv stk w k n := by
  subst hnp
  exact og_callS hdg hv hM hstk hR hk hs hsum hh (fun E w' h => absurd h (ob_e_no E w')) (fun v w' h => by obtain ⟨h1, rfl⟩ := h; cases h1; exact kk)
theorem og_callIe {idx b d mc ms : Nat} {z : ob_y} {As stk : List Value} {v0 : Option Value} {w0 : ob_w} (hdg : decode y.2.1 pc = .ok (.invokespecial idx, 3)) {np : Nat} (hv : ob_mi y.1.cls idx z np) (hM : ob_C X z d mc ms (.ref b :: As) w (ob_e v0 w0)) (hnp : np = As.length) (hstk : stk = As.reverse ++ .ref b :: st) (hR : d + 1 ≤ R.frames ∧ 8 + (z.2.2.1 + 11) + 60 * d ≤ R.locals) (hk : k + mc ≤ R.cells) (hs : n + ms ≤ R.slots) (hsum : (st.map fun v => v.category).sum ≤ 8)
    (kk : ob_G X y R Q (pc + 3) lv (v0.toList ++ st) w0 (k + mc) (n + ms)) : ob_G X y R Q pc lv stk w k n := by
  subst hnp
  exact og_callI hdg hv hM ob_e_no hstk hR hk hs hsum (fun v w' h => by obtain ⟨h1, rfl⟩ := h; cases h1; exact kk)
/-- the world, said anew -/
theorem og_w (w' : ob_w) (h : w = w') (kk : ob_G X y R Q pc lv st w' k n) : ob_G X y R Q pc lv st w k n := by rw [h]; exact kk
theorem og_st (st' : List Value) (h : st = st') (kk : ob_G X y R Q pc lv st' w k n) : ob_G X y R Q pc lv st w k n := by rw [h]; exact kk
end OBE
end
section
/-! FACTS OF THE TABLES, by program: classes, fields, methods, links -/
theorem ob_inl {L : List Cond} (hm : ∀ w ∈ L, w ∈ lw_tbl) (hg : L.all goodWord = true) : ∀ w ∈ L, w ∈ ob_tb := fun w h => List.mem_filter.mpr ⟨hm w h, List.all_eq_true.mp hg w h⟩
theorem kc0 : ob_cl 0 RX0 TX0 4 := ⟨rfl, by decide, ob_inl (by decide +kernel) (by decide +kernel), tyX0_ok, nmX0⟩
theorem kc1 : ob_cl 1 RX1 TX1 5 := ⟨rfl, by decide, ob_inl (by decide +kernel) (by decide +kernel), tyX1_ok, nmX1⟩
theorem kc2 : ob_cl 2 RX2 TX2 8 := ⟨rfl, by decide, ob_inl (by decide +kernel) (by decide +kernel), tyX2_ok, nmX2⟩
theorem kc3 : ob_cl 3 RX3 TX3 2 := ⟨rfl, by decide, ob_inl (by decide +kernel) (by decide +kernel), tyX3_ok, nmX3⟩
theorem kc4 : ob_cl 4 RX4 TX4 3 := ⟨rfl, by decide, ob_inl (by decide +kernel) (by decide +kernel), tyX4_ok, nmX4⟩
theorem kc5 : ob_cl 5 RX5 TX5 8 := ⟨rfl, by decide, ob_inl (by decide +kernel) (by decide +kernel), tyX5_ok, nmX5⟩
theorem kc6 : ob_cl 6 RX6 TX6 13 := ⟨rfl, by decide, ob_inl (by decide +kernel) (by decide +kernel), tyX6_ok, nmX6⟩
theorem kfX5_13 : ob_fk RX5 13 5 0 true := ⟨RX5, TX5, 8, kc5, by decide, ob_in 193 (by decide +kernel) (by decide +kernel), rfl, rfl⟩
theorem kfX5_22 : ob_fk RX5 22 5 1 true := ⟨RX5, TX5, 8, kc5, by decide, ob_in 194 (by decide +kernel) (by decide +kernel), rfl, rfl⟩
theorem kfX5_31 : ob_fk RX5 31 5 2 true := ⟨RX5, TX5, 8, kc5, by decide, ob_in 195 (by decide +kernel) (by decide +kernel), rfl, rfl⟩
theorem kfX5_38 : ob_fk RX5 38 5 3 true := ⟨RX5, TX5, 8, kc5, by decide, ob_in 196 (by decide +kernel) (by decide +kernel), rfl, rfl⟩
theorem kfX5_42 : ob_fk RX5 42 5 4 true := ⟨RX5, TX5, 8, kc5, by decide, ob_in 197 (by decide +kernel) (by decide +kernel), rfl, rfl⟩
theorem kfX5_52 : ob_fk RX5 52 3 1 false := ⟨RX3, TX3, 2, kc3, by decide, ob_in 186 (by decide +kernel) (by decide +kernel), rfl, rfl⟩
theorem kfX5_92 : ob_fk RX5 92 5 5 false := ⟨RX5, TX5, 8, kc5, by decide, ob_in 198 (by decide +kernel) (by decide +kernel), rfl, rfl⟩
theorem kfX5_158 : ob_fk RX5 158 5 6 false := ⟨RX5, TX5, 8, kc5, by decide, ob_in 199 (by decide +kernel) (by decide +kernel), rfl, rfl⟩
theorem kfX5_161 : ob_fk RX5 161 5 7 false := ⟨RX5, TX5, 8, kc5, by decide, ob_in 200 (by decide +kernel) (by decide +kernel), rfl, rfl⟩
theorem kfX5_166 : ob_fk RX5 166 3 0 true := ⟨RX3, TX3, 2, kc3, by decide, ob_in 184 (by decide +kernel) (by decide +kernel), rfl, rfl⟩
theorem kfX5_170 : ob_fk RX5 170 1 2 false := ⟨RX1, TX1, 5, kc1, by decide, ob_in 110 (by decide +kernel) (by decide +kernel), rfl, rfl⟩
theorem kfX5_186 : ob_fk RX5 186 2 2 false := ⟨RX2, TX2, 8, kc2, by decide, ob_in 141 (by decide +kernel) (by decide +kernel), rfl, rfl⟩
theorem kfX5_192 : ob_fk RX5 192 0 1 false := ⟨RX0, TX0, 4, kc0, by decide, ob_in 90 (by decide +kernel) (by decide +kernel), rfl, rfl⟩
theorem kfX5_197 : ob_fk RX5 197 1 0 true := ⟨RX1, TX1, 5, kc1, by decide, ob_in 106 (by decide +kernel) (by decide +kernel), rfl, rfl⟩
theorem kfX5_215 : ob_fk RX5 215 2 1 false := ⟨RX2, TX2, 8, kc2, by decide, ob_in 139 (by decide +kernel) (by decide +kernel), rfl, rfl⟩
theorem kfX5_220 : ob_fk RX5 220 2 0 true := ⟨RX2, TX2, 8, kc2, by decide, ob_in 138 (by decide +kernel) (by decide +kernel), rfl, rfl⟩
theorem kfX5_228 : ob_fk RX5 228 1 1 true := ⟨RX1, TX1, 5, kc1, by decide, ob_in 108 (by decide +kernel) (by decide +kernel), rfl, rfl⟩
theorem kfX5_231 : ob_fk RX5 231 0 3 false := ⟨RX0, TX0, 4, kc0, by decide, ob_in 94 (by decide +kernel) (by decide +kernel), rfl, rfl⟩
theorem kfX5_234 : ob_fk RX5 234 0 2 false := ⟨RX0, TX0, 4, kc0, by decide, ob_in 92 (by decide +kernel) (by decide +kernel), rfl, rfl⟩
theorem kfX0_7 : ob_fk RX0 7 0 0 false := ⟨RX0, TX0, 4, kc0, by decide, ob_in 86 (by decide +kernel) (by decide +kernel), rfl, rfl⟩
theorem kfX0_13 : ob_fk RX0 13 0 1 false := ⟨RX0, TX0, 4, kc0, by decide, ob_in 88 (by decide +kernel) (by decide +kernel), rfl, rfl⟩
theorem kfX1_9 : ob_fk RX1 9 1 0 true := ⟨RX1, TX1, 5, kc1, by decide, ob_in 105 (by decide +kernel) (by decide +kernel), rfl, rfl⟩
theorem kfX1_21 : ob_fk RX1 21 1 3 false := ⟨RX1, TX1, 5, kc1, by decide, ob_in 111 (by decide +kernel) (by decide +kernel), rfl, rfl⟩
theorem kfX1_24 : ob_fk RX1 24 1 4 false := ⟨RX1, TX1, 5, kc1, by decide, ob_in 112 (by decide +kernel) (by decide +kernel), rfl, rfl⟩
theorem kfX1_33 : ob_fk RX1 33 1 1 true := ⟨RX1, TX1, 5, kc1, by decide, ob_in 107 (by decide +kernel) (by decide +kernel), rfl, rfl⟩
theorem kfX1_37 : ob_fk RX1 37 0 3 false := ⟨RX0, TX0, 4, kc0, by decide, ob_in 93 (by decide +kernel) (by decide +kernel), rfl, rfl⟩
theorem kfX1_44 : ob_fk RX1 44 1 2 false := ⟨RX1, TX1, 5, kc1, by decide, ob_in 109 (by decide +kernel) (by decide +kernel), rfl, rfl⟩
theorem kfX1_59 : ob_fk RX1 59 0 2 false := ⟨RX0, TX0, 4, kc0, by decide, ob_in 91 (by decide +kernel) (by decide +kernel), rfl, rfl⟩
theorem kfX1_63 : ob_fk RX1 63 0 1 false := ⟨RX0, TX0, 4, kc0, by decide, ob_in 89 (by decide +kernel) (by decide +kernel), rfl, rfl⟩
theorem kfX1_66 : ob_fk RX1 66 3 0 true := ⟨RX3, TX3, 2, kc3, by decide, ob_in 183 (by decide +kernel) (by decide +kernel), rfl, rfl⟩
theorem kfX1_69 : ob_fk RX1 69 0 0 false := ⟨RX0, TX0, 4, kc0, by decide, ob_in 87 (by decide +kernel) (by decide +kernel), rfl, rfl⟩
theorem kfX1_78 : ob_fk RX1 78 3 1 false := ⟨RX3, TX3, 2, kc3, by decide, ob_in 187 (by decide +kernel) (by decide +kernel), rfl, rfl⟩
theorem kfX1_85 : ob_fk RX1 85 2 2 false := ⟨RX2, TX2, 8, kc2, by decide, ob_in 140 (by decide +kernel) (by decide +kernel), rfl, rfl⟩
theorem kfX1_90 : ob_fk RX1 90 2 0 true := ⟨RX2, TX2, 8, kc2, by decide, ob_in 137 (by decide +kernel) (by decide +kernel), rfl, rfl⟩
theorem kfX2_9 : ob_fk RX2 9 2 0 true := ⟨RX2, TX2, 8, kc2, by decide, ob_in 136 (by decide +kernel) (by decide +kernel), rfl, rfl⟩
theorem kfX2_15 : ob_fk RX2 15 2 3 false := ⟨RX2, TX2, 8, kc2, by decide, ob_in 143 (by decide +kernel) (by decide +kernel), rfl, rfl⟩
theorem kfX2_19 : ob_fk RX2 19 2 4 false := ⟨RX2, TX2, 8, kc2, by decide, ob_in 145 (by decide +kernel) (by decide +kernel), rfl, rfl⟩
theorem kfX3_7 : ob_fk RX3 7 3 0 true := ⟨RX3, TX3, 2, kc3, by decide, ob_in 182 (by decide +kernel) (by decide +kernel), rfl, rfl⟩
theorem kfX3_13 : ob_fk RX3 13 3 1 false := ⟨RX3, TX3, 2, kc3, by decide, ob_in 185 (by decide +kernel) (by decide +kernel), rfl, rfl⟩
theorem kfX4_9 : ob_fk RX4 9 4 0 true := ⟨RX4, TX4, 3, kc4, by decide, ob_in 166 (by decide +kernel) (by decide +kernel), rfl, rfl⟩
theorem kfX4_20 : ob_fk RX4 20 4 1 true := ⟨RX4, TX4, 3, kc4, by decide, ob_in 167 (by decide +kernel) (by decide +kernel), rfl, rfl⟩
theorem kfX4_24 : ob_fk RX4 24 2 3 false := ⟨RX2, TX2, 8, kc2, by decide, ob_in 142 (by decide +kernel) (by decide +kernel), rfl, rfl⟩
theorem kfX4_27 : ob_fk RX4 27 2 4 false := ⟨RX2, TX2, 8, kc2, by decide, ob_in 144 (by decide +kernel) (by decide +kernel), rfl, rfl⟩
theorem kfX4_30 : ob_fk RX4 30 2 5 false := ⟨RX2, TX2, 8, kc2, by decide, ob_in 146 (by decide +kernel) (by decide +kernel), rfl, rfl⟩
theorem kfX4_33 : ob_fk RX4 33 4 2 false := ⟨RX4, TX4, 3, kc4, by decide, ob_in 168 (by decide +kernel) (by decide +kernel), rfl, rfl⟩
theorem kfX4_36 : ob_fk RX4 36 2 7 false := ⟨RX2, TX2, 8, kc2, by decide, ob_in 148 (by decide +kernel) (by decide +kernel), rfl, rfl⟩
theorem kfX4_61 : ob_fk RX4 61 2 6 false := ⟨RX2, TX2, 8, kc2, by decide, ob_in 147 (by decide +kernel) (by decide +kernel), rfl, rfl⟩
theorem kfX6_7 : ob_fk RX6 7 6 4 true := ⟨RX6, TX6, 13, kc6, by decide, ob_in 684 (by decide +kernel) (by decide +kernel), rfl, rfl⟩
theorem kfX6_13 : ob_fk RX6 13 6 6 true := ⟨RX6, TX6, 13, kc6, by decide, ob_in 686 (by decide +kernel) (by decide +kernel), rfl, rfl⟩
theorem kfX6_17 : ob_fk RX6 17 6 9 true := ⟨RX6, TX6, 13, kc6, by decide, ob_in 689 (by decide +kernel) (by decide +kernel), rfl, rfl⟩
theorem kfX6_20 : ob_fk RX6 20 6 10 true := ⟨RX6, TX6, 13, kc6, by decide, ob_in 690 (by decide +kernel) (by decide +kernel), rfl, rfl⟩
theorem kfX6_23 : ob_fk RX6 23 6 11 true := ⟨RX6, TX6, 13, kc6, by decide, ob_in 691 (by decide +kernel) (by decide +kernel), rfl, rfl⟩
theorem kfX6_26 : ob_fk RX6 26 6 12 false := ⟨RX6, TX6, 13, kc6, by decide, ob_in 692 (by decide +kernel) (by decide +kernel), rfl, rfl⟩
theorem kfX6_30 : ob_fk RX6 30 6 1 true := ⟨RX6, TX6, 13, kc6, by decide, ob_in 681 (by decide +kernel) (by decide +kernel), rfl, rfl⟩
theorem kfX6_33 : ob_fk RX6 33 6 2 true := ⟨RX6, TX6, 13, kc6, by decide, ob_in 682 (by decide +kernel) (by decide +kernel), rfl, rfl⟩
theorem kfX6_36 : ob_fk RX6 36 6 0 false := ⟨RX6, TX6, 13, kc6, by decide, ob_in 680 (by decide +kernel) (by decide +kernel), rfl, rfl⟩
theorem kfX6_47 : ob_fk RX6 47 6 3 false := ⟨RX6, TX6, 13, kc6, by decide, ob_in 683 (by decide +kernel) (by decide +kernel), rfl, rfl⟩
theorem kfX6_52 : ob_fk RX6 52 6 7 false := ⟨RX6, TX6, 13, kc6, by decide, ob_in 687 (by decide +kernel) (by decide +kernel), rfl, rfl⟩
theorem kfX6_69 : ob_fk RX6 69 6 8 false := ⟨RX6, TX6, 13, kc6, by decide, ob_in 688 (by decide +kernel) (by decide +kernel), rfl, rfl⟩
theorem kfX6_94 : ob_fk RX6 94 6 5 false := ⟨RX6, TX6, 13, kc6, by decide, ob_in 685 (by decide +kernel) (by decide +kernel), rfl, rfl⟩
abbrev mJ6_numberOfLeadingZeros_0f7a4 : ob_y := (yJ6_numberOfLeadingZeros_0f7a4, cJ6_numberOfLeadingZeros_0f7a4, 2, (Option.some Jvm.ClassFile.FieldType.int), [])
theorem kmJ6_numberOfLeadingZeros_0f7a4 : ob_mk mJ6_numberOfLeadingZeros_0f7a4 := ⟨ob_in 271 (by decide +kernel) (by decide +kernel), ob_in 55 (by decide +kernel) (by decide +kernel), by decide, by decide⟩
abbrev mJ7_copyOf_9075b : ob_y := (yJ7_copyOf_9075b, cJ7_copyOf_9075b, 3, (Option.some (Jvm.ClassFile.FieldType.array Jvm.ClassFile.FieldType.byte)), [])
theorem kmJ7_copyOf_9075b : ob_mk mJ7_copyOf_9075b := ⟨ob_in 445 (by decide +kernel) (by decide +kernel), ob_in 51 (by decide +kernel) (by decide +kernel), by decide, by decide⟩
abbrev mJ9_max_7cf53 : ob_y := (yJ9_max_7cf53, cJ9_max_7cf53, 2, (Option.some Jvm.ClassFile.FieldType.int), [])
theorem kmJ9_max_7cf53 : ob_mk mJ9_max_7cf53 := ⟨ob_in 72 (by decide +kernel) (by decide +kernel), ob_in 39 (by decide +kernel) (by decide +kernel), by decide, by decide⟩
abbrev mJ9_min_7cf53 : ob_y := (yJ9_min_7cf53, cJ9_min_7cf53, 2, (Option.some Jvm.ClassFile.FieldType.int), [])
theorem kmJ9_min_7cf53 : ob_mk mJ9_min_7cf53 := ⟨ob_in 69 (by decide +kernel) (by decide +kernel), ob_in 39 (by decide +kernel) (by decide +kernel), by decide, by decide⟩
abbrev mL_cell : ob_y := (yL_cell, cL_cell, 2, (Option.some Jvm.ClassFile.FieldType.int), [])
theorem kmL_cell : ob_mk mL_cell := ⟨ob_in 295 (by decide +kernel) (by decide +kernel), ob_in 37 (by decide +kernel) (by decide +kernel), by decide, by decide⟩
abbrev mX0_init : ob_y := (yX0_init, cX0_init, 3, (Option.none : Option Jvm.ClassFile.FieldType), [])
theorem kmX0_init : ob_mk mX0_init := ⟨ob_in 84 (by decide +kernel) (by decide +kernel), ob_in 41 (by decide +kernel) (by decide +kernel), by decide, by decide⟩
abbrev mX1_compareBytes : ob_y := (yX1_compareBytes, cX1_compareBytes, 9, (Option.some Jvm.ClassFile.FieldType.int), [])
theorem kmX1_compareBytes : ob_mk mX1_compareBytes := ⟨ob_in 292 (by decide +kernel) (by decide +kernel), ob_in 40 (by decide +kernel) (by decide +kernel), by decide, by decide⟩
abbrev mX1_compareNodes : ob_y := (yX1_compareNodes, cX1_compareNodes, 3, (Option.some Jvm.ClassFile.FieldType.int), [])
theorem kmX1_compareNodes : ob_mk mX1_compareNodes := ⟨ob_in 288 (by decide +kernel) (by decide +kernel), ob_in 40 (by decide +kernel) (by decide +kernel), by decide, by decide⟩
abbrev mX1_compareRow : ob_y := (yX1_compareRow, cX1_compareRow, 4, (Option.some Jvm.ClassFile.FieldType.int), [])
theorem kmX1_compareRow : ob_mk mX1_compareRow := ⟨ob_in 415 (by decide +kernel) (by decide +kernel), ob_in 40 (by decide +kernel) (by decide +kernel), by decide, by decide⟩
abbrev mX1_cut : ob_y := (yX1_cut, cX1_cut, 3, (Option.none : Option Jvm.ClassFile.FieldType), [])
theorem kmX1_cut : ob_mk mX1_cut := ⟨ob_in 468 (by decide +kernel) (by decide +kernel), ob_in 40 (by decide +kernel) (by decide +kernel), by decide, by decide⟩
abbrev mX1_empty : ob_y := (yX1_empty, cX1_empty, 1, (Option.none : Option Jvm.ClassFile.FieldType), [])
theorem kmX1_empty : ob_mk mX1_empty := ⟨ob_in 233 (by decide +kernel) (by decide +kernel), ob_in 40 (by decide +kernel) (by decide +kernel), by decide, by decide⟩
abbrev mX1_firstFit : ob_y := (yX1_firstFit, cX1_firstFit, 3, (Option.some (Jvm.ClassFile.FieldType.object "OrderedBytes$Block")), [])
theorem kmX1_firstFit : ob_mk mX1_firstFit := ⟨ob_in 434 (by decide +kernel) (by decide +kernel), ob_in 40 (by decide +kernel) (by decide +kernel), by decide, by decide⟩
abbrev mX1_giveBack : ob_y := (yX1_giveBack, cX1_giveBack, 2, (Option.none : Option Jvm.ClassFile.FieldType), [])
theorem kmX1_giveBack : ob_mk mX1_giveBack := ⟨ob_in 512 (by decide +kernel) (by decide +kernel), ob_in 40 (by decide +kernel) (by decide +kernel), by decide, by decide⟩
abbrev mX1_grow : ob_y := (yX1_grow, cX1_grow, 4, (Option.none : Option Jvm.ClassFile.FieldType), [])
theorem kmX1_grow : ob_mk mX1_grow := ⟨ob_in 441 (by decide +kernel) (by decide +kernel), ob_in 40 (by decide +kernel) (by decide +kernel), by decide, by decide⟩
abbrev mX1_init : ob_y := (yX1_init, cX1_init, 2, (Option.none : Option Jvm.ClassFile.FieldType), [])
theorem kmX1_init : ob_mk mX1_init := ⟨ob_in 77 (by decide +kernel) (by decide +kernel), ob_in 40 (by decide +kernel) (by decide +kernel), by decide, by decide⟩
abbrev mX1_isSound : ob_y := (yX1_isSound, cX1_isSound, 4, (Option.some Jvm.ClassFile.FieldType.boolean), [])
theorem kmX1_isSound : ob_mk mX1_isSound := ⟨ob_in 245 (by decide +kernel) (by decide +kernel), ob_in 40 (by decide +kernel) (by decide +kernel), by decide, by decide⟩
abbrev mX1_joinFreeOnes : ob_y := (yX1_joinFreeOnes, cX1_joinFreeOnes, 2, (Option.none : Option Jvm.ClassFile.FieldType), [])
theorem kmX1_joinFreeOnes : ob_mk mX1_joinFreeOnes := ⟨ob_in 437 (by decide +kernel) (by decide +kernel), ob_in 40 (by decide +kernel) (by decide +kernel), by decide, by decide⟩
abbrev mX1_moveTo : ob_y := (yX1_moveTo, cX1_moveTo, 3, (Option.none : Option Jvm.ClassFile.FieldType), [])
theorem kmX1_moveTo : ob_mk mX1_moveTo := ⟨ob_in 464 (by decide +kernel) (by decide +kernel), ob_in 40 (by decide +kernel) (by decide +kernel), by decide, by decide⟩
abbrev mX1_pushTogether : ob_y := (yX1_pushTogether, cX1_pushTogether, 4, (Option.some (Jvm.ClassFile.FieldType.object "OrderedBytes$Block")), [])
theorem kmX1_pushTogether : ob_mk mX1_pushTogether := ⟨ob_in 460 (by decide +kernel) (by decide +kernel), ob_in 40 (by decide +kernel) (by decide +kernel), by decide, by decide⟩
abbrev mX1_read : ob_y := (yX1_read, cX1_read, 5, (Option.none : Option Jvm.ClassFile.FieldType), [])
theorem kmX1_read : ob_mk mX1_read := ⟨ob_in 549 (by decide +kernel) (by decide +kernel), ob_in 40 (by decide +kernel) (by decide +kernel), by decide, by decide⟩
abbrev mX1_take : ob_y := (yX1_take, cX1_take, 4, (Option.some (Jvm.ClassFile.FieldType.object "OrderedBytes$Block")), [])
theorem kmX1_take : ob_mk mX1_take := ⟨ob_in 430 (by decide +kernel) (by decide +kernel), ob_in 40 (by decide +kernel) (by decide +kernel), by decide, by decide⟩
abbrev mX1_write : ob_y := (yX1_write, cX1_write, 4, (Option.none : Option Jvm.ClassFile.FieldType), [])
theorem kmX1_write : ob_mk mX1_write := ⟨ob_in 476 (by decide +kernel) (by decide +kernel), ob_in 40 (by decide +kernel) (by decide +kernel), by decide, by decide⟩
abbrev mX2_child : ob_y := (yX2_child, cX2_child, 2, (Option.some (Jvm.ClassFile.FieldType.object "OrderedBytes$Node")), [])
theorem kmX2_child : ob_mk mX2_child := ⟨ob_in 484 (by decide +kernel) (by decide +kernel), ob_in 43 (by decide +kernel) (by decide +kernel), by decide, by decide⟩
abbrev mX2_init : ob_y := (yX2_init, cX2_init, 2, (Option.none : Option Jvm.ClassFile.FieldType), [])
theorem kmX2_init : ob_mk mX2_init := ⟨ob_in 134 (by decide +kernel) (by decide +kernel), ob_in 43 (by decide +kernel) (by decide +kernel), by decide, by decide⟩
abbrev mX2_setChild : ob_y := (yX2_setChild, cX2_setChild, 3, (Option.none : Option Jvm.ClassFile.FieldType), [])
theorem kmX2_setChild : ob_mk mX2_setChild := ⟨ob_in 488 (by decide +kernel) (by decide +kernel), ob_in 43 (by decide +kernel) (by decide +kernel), by decide, by decide⟩
abbrev mX2_sideOf : ob_y := (yX2_sideOf, cX2_sideOf, 2, (Option.some Jvm.ClassFile.FieldType.int), [])
theorem kmX2_sideOf : ob_mk mX2_sideOf := ⟨ob_in 496 (by decide +kernel) (by decide +kernel), ob_in 43 (by decide +kernel) (by decide +kernel), by decide, by decide⟩
abbrev mX3_append : ob_y := (yX3_append, cX3_append, 2, (Option.none : Option Jvm.ClassFile.FieldType), [])
theorem kmX3_append : ob_mk mX3_append := ⟨ob_in 392 (by decide +kernel) (by decide +kernel), ob_in 44 (by decide +kernel) (by decide +kernel), by decide, by decide⟩
abbrev mX3_init : ob_y := (yX3_init, cX3_init, 2, (Option.none : Option Jvm.ClassFile.FieldType), [])
theorem kmX3_init : ob_mk mX3_init := ⟨ob_in 180 (by decide +kernel) (by decide +kernel), ob_in 44 (by decide +kernel) (by decide +kernel), by decide, by decide⟩
abbrev mX4_blackOnes : ob_y := (yX4_blackOnes, cX4_blackOnes, 7, (Option.some Jvm.ClassFile.FieldType.int), [])
theorem kmX4_blackOnes : ob_mk mX4_blackOnes := ⟨ob_in 276 (by decide +kernel) (by decide +kernel), ob_in 42 (by decide +kernel) (by decide +kernel), by decide, by decide⟩
abbrev mX4_empty : ob_y := (yX4_empty, cX4_empty, 1, (Option.none : Option Jvm.ClassFile.FieldType), [])
theorem kmX4_empty : ob_mk mX4_empty := ⟨ob_in 229 (by decide +kernel) (by decide +kernel), ob_in 42 (by decide +kernel) (by decide +kernel), by decide, by decide⟩
abbrev mX4_find : ob_y := (yX4_find, cX4_find, 5, (Option.some (Jvm.ClassFile.FieldType.object "OrderedBytes$Node")), [])
theorem kmX4_find : ob_mk mX4_find := ⟨ob_in 411 (by decide +kernel) (by decide +kernel), ob_in 42 (by decide +kernel) (by decide +kernel), by decide, by decide⟩
abbrev mX4_giveBlackFrom : ob_y := (yX4_giveBlackFrom, cX4_giveBlackFrom, 5, (Option.none : Option Jvm.ClassFile.FieldType), [])
theorem kmX4_giveBlackFrom : ob_mk mX4_giveBlackFrom := ⟨ob_in 580 (by decide +kernel) (by decide +kernel), ob_in 42 (by decide +kernel) (by decide +kernel), by decide, by decide⟩
abbrev mX4_holds : ob_y := (yX4_holds, cX4_holds, 2, (Option.some Jvm.ClassFile.FieldType.boolean), [])
theorem kmX4_holds : ob_mk mX4_holds := ⟨ob_in 253 (by decide +kernel) (by decide +kernel), ob_in 42 (by decide +kernel) (by decide +kernel), by decide, by decide⟩
abbrev mX4_init : ob_y := (yX4_init, cX4_init, 2, (Option.none : Option Jvm.ClassFile.FieldType), [])
theorem kmX4_init : ob_mk mX4_init := ⟨ob_in 128 (by decide +kernel) (by decide +kernel), ob_in 42 (by decide +kernel) (by decide +kernel), by decide, by decide⟩
abbrev mX4_isBetween : ob_y := (yX4_isBetween, cX4_isBetween, 4, (Option.some Jvm.ClassFile.FieldType.boolean), [])
theorem kmX4_isBetween : ob_mk mX4_isBetween := ⟨ob_in 284 (by decide +kernel) (by decide +kernel), ob_in 42 (by decide +kernel) (by decide +kernel), by decide, by decide⟩
abbrev mX4_isLinkedWell : ob_y := (yX4_isLinkedWell, cX4_isLinkedWell, 5, (Option.some Jvm.ClassFile.FieldType.boolean), [])
theorem kmX4_isLinkedWell : ob_mk mX4_isLinkedWell := ⟨ob_in 280 (by decide +kernel) (by decide +kernel), ob_in 42 (by decide +kernel) (by decide +kernel), by decide, by decide⟩
abbrev mX4_isSound : ob_y := (yX4_isSound, cX4_isSound, 3, (Option.some Jvm.ClassFile.FieldType.boolean), [])
theorem kmX4_isSound : ob_mk mX4_isSound := ⟨ob_in 268 (by decide +kernel) (by decide +kernel), ob_in 42 (by decide +kernel) (by decide +kernel), by decide, by decide⟩
abbrev mX4_keysBelow : ob_y := (yX4_keysBelow, cX4_keysBelow, 7, (Option.some Jvm.ClassFile.FieldType.int), [])
theorem kmX4_keysBelow : ob_mk mX4_keysBelow := ⟨ob_in 592 (by decide +kernel) (by decide +kernel), ob_in 42 (by decide +kernel) (by decide +kernel), by decide, by decide⟩
abbrev mX4_least : ob_y := (yX4_least, cX4_least, 3, (Option.some (Jvm.ClassFile.FieldType.object "OrderedBytes$Node")), [])
theorem kmX4_least : ob_mk mX4_least := ⟨ob_in 568 (by decide +kernel) (by decide +kernel), ob_in 42 (by decide +kernel) (by decide +kernel), by decide, by decide⟩
abbrev mX4_link : ob_y := (yX4_link, cX4_link, 5, (Option.none : Option Jvm.ClassFile.FieldType), [])
theorem kmX4_link : ob_mk mX4_link := ⟨ob_in 480 (by decide +kernel) (by decide +kernel), ob_in 42 (by decide +kernel) (by decide +kernel), by decide, by decide⟩
abbrev mX4_mendMissingBlack : ob_y := (yX4_mendMissingBlack, cX4_mendMissingBlack, 7, (Option.none : Option Jvm.ClassFile.FieldType), [])
theorem kmX4_mendMissingBlack : ob_mk mX4_mendMissingBlack := ⟨ob_in 576 (by decide +kernel) (by decide +kernel), ob_in 42 (by decide +kernel) (by decide +kernel), by decide, by decide⟩
abbrev mX4_mendRedBelowRed : ob_y := (yX4_mendRedBelowRed, cX4_mendRedBelowRed, 8, (Option.none : Option Jvm.ClassFile.FieldType), [])
theorem kmX4_mendRedBelowRed : ob_mk mX4_mendRedBelowRed := ⟨ob_in 492 (by decide +kernel) (by decide +kernel), ob_in 42 (by decide +kernel) (by decide +kernel), by decide, by decide⟩
abbrev mX4_pick : ob_y := (yX4_pick, cX4_pick, 4, (Option.some (Jvm.ClassFile.FieldType.object "OrderedBytes$Node")), [])
theorem kmX4_pick : ob_mk mX4_pick := ⟨ob_in 261 (by decide +kernel) (by decide +kernel), ob_in 42 (by decide +kernel) (by decide +kernel), by decide, by decide⟩
abbrev mX4_placeOf : ob_y := (yX4_placeOf, cX4_placeOf, 4, (Option.some Jvm.ClassFile.FieldType.int), [])
theorem kmX4_placeOf : ob_mk mX4_placeOf := ⟨ob_in 257 (by decide +kernel) (by decide +kernel), ob_in 42 (by decide +kernel) (by decide +kernel), by decide, by decide⟩
abbrev mX4_replace : ob_y := (yX4_replace, cX4_replace, 4, (Option.none : Option Jvm.ClassFile.FieldType), [])
theorem kmX4_replace : ob_mk mX4_replace := ⟨ob_in 504 (by decide +kernel) (by decide +kernel), ob_in 42 (by decide +kernel) (by decide +kernel), by decide, by decide⟩
abbrev mX4_rotate : ob_y := (yX4_rotate, cX4_rotate, 5, (Option.none : Option Jvm.ClassFile.FieldType), [])
theorem kmX4_rotate : ob_mk mX4_rotate := ⟨ob_in 500 (by decide +kernel) (by decide +kernel), ob_in 42 (by decide +kernel) (by decide +kernel), by decide, by decide⟩
abbrev mX4_size : ob_y := (yX4_size, cX4_size, 1, (Option.some Jvm.ClassFile.FieldType.int), [])
theorem kmX4_size : ob_mk mX4_size := ⟨ob_in 225 (by decide +kernel) (by decide +kernel), ob_in 42 (by decide +kernel) (by decide +kernel), by decide, by decide⟩
abbrev mX4_takeOver : ob_y := (yX4_takeOver, cX4_takeOver, 3, (Option.none : Option Jvm.ClassFile.FieldType), [])
theorem kmX4_takeOver : ob_mk mX4_takeOver := ⟨ob_in 572 (by decide +kernel) (by decide +kernel), ob_in 42 (by decide +kernel) (by decide +kernel), by decide, by decide⟩
abbrev mX4_unlink : ob_y := (yX4_unlink, cX4_unlink, 5, (Option.none : Option Jvm.ClassFile.FieldType), [])
theorem kmX4_unlink : ob_mk mX4_unlink := ⟨ob_in 564 (by decide +kernel) (by decide +kernel), ob_in 42 (by decide +kernel) (by decide +kernel), by decide, by decide⟩
abbrev mX5_at : ob_y := (yX5_at, cX5_at, 3, (Option.some Jvm.ClassFile.FieldType.int), [])
theorem kmX5_at : ob_mk mX5_at := ⟨ob_in 605 (by decide +kernel) (by decide +kernel), ob_in 38 (by decide +kernel) (by decide +kernel), by decide, by decide⟩
abbrev mX5_blocksMatchEntries : ob_y := (yX5_blocksMatchEntries, cX5_blocksMatchEntries, 4, (Option.some Jvm.ClassFile.FieldType.boolean), [])
theorem kmX5_blocksMatchEntries : ob_mk mX5_blocksMatchEntries := ⟨ob_in 249 (by decide +kernel) (by decide +kernel), ob_in 38 (by decide +kernel) (by decide +kernel), by decide, by decide⟩
abbrev mX5_byteAt : ob_y := (yX5_byteAt, cX5_byteAt, 2, (Option.some Jvm.ClassFile.FieldType.int), [])
theorem kmX5_byteAt : ob_mk mX5_byteAt := ⟨ob_in 671 (by decide +kernel) (by decide +kernel), ob_in 38 (by decide +kernel) (by decide +kernel), by decide, by decide⟩
abbrev mX5_changeValue : ob_y := (yX5_changeValue, cX5_changeValue, 3, (Option.none : Option Jvm.ClassFile.FieldType), [])
theorem kmX5_changeValue : ob_mk mX5_changeValue := ⟨ob_in 508 (by decide +kernel) (by decide +kernel), ob_in 38 (by decide +kernel) (by decide +kernel), by decide, by decide⟩
abbrev mX5_clear : ob_y := (yX5_clear, cX5_clear, 2, (Option.some Jvm.ClassFile.FieldType.int), [])
theorem kmX5_clear : ob_mk mX5_clear := ⟨ob_in 221 (by decide +kernel) (by decide +kernel), ob_in 38 (by decide +kernel) (by decide +kernel), by decide, by decide⟩
abbrev mX5_count : ob_y := (yX5_count, cX5_count, 2, (Option.some Jvm.ClassFile.FieldType.int), [])
theorem kmX5_count : ob_mk mX5_count := ⟨ob_in 237 (by decide +kernel) (by decide +kernel), ob_in 38 (by decide +kernel) (by decide +kernel), by decide, by decide⟩
abbrev mX5_currentPlace : ob_y := (yX5_currentPlace, cX5_currentPlace, 1, (Option.some Jvm.ClassFile.FieldType.int), [])
theorem kmX5_currentPlace : ob_mk mX5_currentPlace := ⟨ob_in 632 (by decide +kernel) (by decide +kernel), ob_in 38 (by decide +kernel) (by decide +kernel), by decide, by decide⟩
abbrev mX5_drop : ob_y := (yX5_drop, cX5_drop, 2, (Option.none : Option Jvm.ClassFile.FieldType), [])
theorem kmX5_drop : ob_mk mX5_drop := ⟨ob_in 560 (by decide +kernel) (by decide +kernel), ob_in 38 (by decide +kernel) (by decide +kernel), by decide, by decide⟩
abbrev mX5_feed : ob_y := (yX5_feed, cX5_feed, 5, (Option.some Jvm.ClassFile.FieldType.int), [])
theorem kmX5_feed : ob_mk mX5_feed := ⟨ob_in 304 (by decide +kernel) (by decide +kernel), ob_in 38 (by decide +kernel) (by decide +kernel), by decide, by decide⟩
abbrev mX5_fill : ob_y := (yX5_fill, cX5_fill, 3, (Option.none : Option Jvm.ClassFile.FieldType), [])
theorem kmX5_fill : ob_mk mX5_fill := ⟨ob_in 472 (by decide +kernel) (by decide +kernel), ob_in 38 (by decide +kernel) (by decide +kernel), by decide, by decide⟩
abbrev mX5_get : ob_y := (yX5_get, cX5_get, 2, (Option.some Jvm.ClassFile.FieldType.int), [])
theorem kmX5_get : ob_mk mX5_get := ⟨ob_in 520 (by decide +kernel) (by decide +kernel), ob_in 38 (by decide +kernel) (by decide +kernel), by decide, by decide⟩
abbrev mX5_goTo : ob_y := (yX5_goTo, cX5_goTo, 2, (Option.some Jvm.ClassFile.FieldType.int), [])
theorem kmX5_goTo : ob_mk mX5_goTo := ⟨ob_in 597 (by decide +kernel) (by decide +kernel), ob_in 38 (by decide +kernel) (by decide +kernel), by decide, by decide⟩
abbrev mX5_init : ob_y := (yX5_init, cX5_init, 3, (Option.none : Option Jvm.ClassFile.FieldType), [])
theorem kmX5_init : ob_mk mX5_init := ⟨ob_in 60 (by decide +kernel) (by decide +kernel), ob_in 38 (by decide +kernel) (by decide +kernel), by decide, by decide⟩
abbrev mX5_isFull : ob_y := (yX5_isFull, cX5_isFull, 5, (Option.some Jvm.ClassFile.FieldType.boolean), [])
theorem kmX5_isFull : ob_mk mX5_isFull := ⟨ob_in 419 (by decide +kernel) (by decide +kernel), ob_in 38 (by decide +kernel) (by decide +kernel), by decide, by decide⟩
abbrev mX5_isKeyLength : ob_y := (yX5_isKeyLength, cX5_isKeyLength, 1, (Option.some Jvm.ClassFile.FieldType.boolean), [])
theorem kmX5_isKeyLength : ob_mk mX5_isKeyLength := ⟨ob_in 406 (by decide +kernel) (by decide +kernel), ob_in 38 (by decide +kernel) (by decide +kernel), by decide, by decide⟩
abbrev mX5_nearest : ob_y := (yX5_nearest, cX5_nearest, 2, (Option.some Jvm.ClassFile.FieldType.int), [])
theorem kmX5_nearest : ob_mk mX5_nearest := ⟨ob_in 66 (by decide +kernel) (by decide +kernel), ob_in 38 (by decide +kernel) (by decide +kernel), by decide, by decide⟩
abbrev mX5_newEntry : ob_y := (yX5_newEntry, cX5_newEntry, 4, (Option.some (Jvm.ClassFile.FieldType.object "OrderedBytes$Node")), [])
theorem kmX5_newEntry : ob_mk mX5_newEntry := ⟨ob_in 424 (by decide +kernel) (by decide +kernel), ob_in 38 (by decide +kernel) (by decide +kernel), by decide, by decide⟩
abbrev mX5_place : ob_y := (yX5_place, cX5_place, 1, (Option.some Jvm.ClassFile.FieldType.int), [])
theorem kmX5_place : ob_mk mX5_place := ⟨ob_in 648 (by decide +kernel) (by decide +kernel), ob_in 38 (by decide +kernel) (by decide +kernel), by decide, by decide⟩
abbrev mX5_put : ob_y := (yX5_put, cX5_put, 4, (Option.some Jvm.ClassFile.FieldType.boolean), [])
theorem kmX5_put : ob_mk mX5_put := ⟨ob_in 399 (by decide +kernel) (by decide +kernel), ob_in 38 (by decide +kernel) (by decide +kernel), by decide, by decide⟩
abbrev mX5_range : ob_y := (yX5_range, cX5_range, 4, (Option.some Jvm.ClassFile.FieldType.int), [])
theorem kmX5_range : ob_mk mX5_range := ⟨ob_in 655 (by decide +kernel) (by decide +kernel), ob_in 38 (by decide +kernel) (by decide +kernel), by decide, by decide⟩
abbrev mX5_readKey : ob_y := (yX5_readKey, cX5_readKey, 2, (Option.some Jvm.ClassFile.FieldType.int), [])
theorem kmX5_readKey : ob_mk mX5_readKey := ⟨ob_in 524 (by decide +kernel) (by decide +kernel), ob_in 38 (by decide +kernel) (by decide +kernel), by decide, by decide⟩
abbrev mX5_readTape : ob_y := (yX5_readTape, cX5_readTape, 2, (Option.some Jvm.ClassFile.FieldType.int), [])
theorem kmX5_readTape : ob_mk mX5_readTape := ⟨ob_in 403 (by decide +kernel) (by decide +kernel), ob_in 38 (by decide +kernel) (by decide +kernel), by decide, by decide⟩
abbrev mX5_remove : ob_y := (yX5_remove, cX5_remove, 2, (Option.some Jvm.ClassFile.FieldType.boolean), [])
theorem kmX5_remove : ob_mk mX5_remove := ⟨ob_in 556 (by decide +kernel) (by decide +kernel), ob_in 38 (by decide +kernel) (by decide +kernel), by decide, by decide⟩
abbrev mX5_removeFrom : ob_y := (yX5_removeFrom, cX5_removeFrom, 6, (Option.some Jvm.ClassFile.FieldType.int), [])
theorem kmX5_removeFrom : ob_mk mX5_removeFrom := ⟨ob_in 663 (by decide +kernel) (by decide +kernel), ob_in 38 (by decide +kernel) (by decide +kernel), by decide, by decide⟩
abbrev mX5_seek : ob_y := (yX5_seek, cX5_seek, 6, (Option.some Jvm.ClassFile.FieldType.int), [])
theorem kmX5_seek : ob_mk mX5_seek := ⟨ob_in 587 (by decide +kernel) (by decide +kernel), ob_in 38 (by decide +kernel) (by decide +kernel), by decide, by decide⟩
abbrev mX5_showValue : ob_y := (yX5_showValue, cX5_showValue, 2, (Option.some Jvm.ClassFile.FieldType.int), [])
theorem kmX5_showValue : ob_mk mX5_showValue := ⟨ob_in 545 (by decide +kernel) (by decide +kernel), ob_in 38 (by decide +kernel) (by decide +kernel), by decide, by decide⟩
abbrev mX5_sound : ob_y := (yX5_sound, cX5_sound, 1, (Option.some Jvm.ClassFile.FieldType.boolean), [])
theorem kmX5_sound : ob_mk mX5_sound := ⟨ob_in 241 (by decide +kernel) (by decide +kernel), ob_in 38 (by decide +kernel) (by decide +kernel), by decide, by decide⟩
abbrev mX5_step : ob_y := (yX5_step, cX5_step, 4, (Option.some Jvm.ClassFile.FieldType.boolean), [])
theorem kmX5_step : ob_mk mX5_step := ⟨ob_in 628 (by decide +kernel) (by decide +kernel), ob_in 38 (by decide +kernel) (by decide +kernel), by decide, by decide⟩
abbrev mX5_unitsOf : ob_y := (yX5_unitsOf, cX5_unitsOf, 1, (Option.some Jvm.ClassFile.FieldType.int), [])
theorem kmX5_unitsOf : ob_mk mX5_unitsOf := ⟨ob_in 264 (by decide +kernel) (by decide +kernel), ob_in 38 (by decide +kernel) (by decide +kernel), by decide, by decide⟩
abbrev mX5_value : ob_y := (yX5_value, cX5_value, 1, (Option.some Jvm.ClassFile.FieldType.int), [])
theorem kmX5_value : ob_mk mX5_value := ⟨ob_in 641 (by decide +kernel) (by decide +kernel), ob_in 38 (by decide +kernel) (by decide +kernel), by decide, by decide⟩
abbrev mX6_at : ob_y := (yX6_at, cX6_at, 2, (Option.some Jvm.ClassFile.FieldType.int), [])
theorem kmX6_at : ob_mk mX6_at := ⟨ob_in 799 (by decide +kernel) (by decide +kernel), ob_in 45 (by decide +kernel) (by decide +kernel), by decide, by decide⟩
abbrev mX6_below : ob_y := (yX6_below, cX6_below, 8, (Option.some Jvm.ClassFile.FieldType.int), [])
theorem kmX6_below : ob_mk mX6_below := ⟨ob_in 752 (by decide +kernel) (by decide +kernel), ob_in 45 (by decide +kernel) (by decide +kernel), by decide, by decide⟩
abbrev mX6_byteAt : ob_y := (yX6_byteAt, cX6_byteAt, 2, (Option.some Jvm.ClassFile.FieldType.int), [])
theorem kmX6_byteAt : ob_mk mX6_byteAt := ⟨ob_in 827 (by decide +kernel) (by decide +kernel), ob_in 45 (by decide +kernel) (by decide +kernel), by decide, by decide⟩
abbrev mX6_clear : ob_y := (yX6_clear, cX6_clear, 2, (Option.some Jvm.ClassFile.FieldType.int), [])
theorem kmX6_clear : ob_mk mX6_clear := ⟨ob_in 823 (by decide +kernel) (by decide +kernel), ob_in 45 (by decide +kernel) (by decide +kernel), by decide, by decide⟩
abbrev mX6_compare : ob_y := (yX6_compare, cX6_compare, 5, (Option.some Jvm.ClassFile.FieldType.int), [])
theorem kmX6_compare : ob_mk mX6_compare := ⟨ob_in 756 (by decide +kernel) (by decide +kernel), ob_in 45 (by decide +kernel) (by decide +kernel), by decide, by decide⟩
abbrev mX6_count : ob_y := (yX6_count, cX6_count, 4, (Option.some Jvm.ClassFile.FieldType.int), [])
theorem kmX6_count : ob_mk mX6_count := ⟨ob_in 831 (by decide +kernel) (by decide +kernel), ob_in 45 (by decide +kernel) (by decide +kernel), by decide, by decide⟩
abbrev mX6_fail : ob_y := (yX6_fail, cX6_fail, 2, (Option.some Jvm.ClassFile.FieldType.int), [])
theorem kmX6_fail : ob_mk mX6_fail := ⟨ob_in 735 (by decide +kernel) (by decide +kernel), ob_in 45 (by decide +kernel) (by decide +kernel), by decide, by decide⟩
abbrev mX6_feed : ob_y := (yX6_feed, cX6_feed, 5, (Option.some Jvm.ClassFile.FieldType.int), [])
theorem kmX6_feed : ob_mk mX6_feed := ⟨ob_in 728 (by decide +kernel) (by decide +kernel), ob_in 45 (by decide +kernel) (by decide +kernel), by decide, by decide⟩
abbrev mX6_find : ob_y := (yX6_find, cX6_find, 3, (Option.some Jvm.ClassFile.FieldType.int), [])
theorem kmX6_find : ob_mk mX6_find := ⟨ob_in 748 (by decide +kernel) (by decide +kernel), ob_in 45 (by decide +kernel) (by decide +kernel), by decide, by decide⟩
abbrev mX6_get : ob_y := (yX6_get, cX6_get, 3, (Option.some Jvm.ClassFile.FieldType.int), [])
theorem kmX6_get : ob_mk mX6_get := ⟨ob_in 783 (by decide +kernel) (by decide +kernel), ob_in 45 (by decide +kernel) (by decide +kernel), by decide, by decide⟩
abbrev mX6_init : ob_y := (yX6_init, cX6_init, 3, (Option.none : Option Jvm.ClassFile.FieldType), [])
theorem kmX6_init : ob_mk mX6_init := ⟨ob_in 677 (by decide +kernel) (by decide +kernel), ob_in 45 (by decide +kernel) (by decide +kernel), by decide, by decide⟩
abbrev mX6_insert : ob_y := (yX6_insert, cX6_insert, 6, (Option.none : Option Jvm.ClassFile.FieldType), [])
theorem kmX6_insert : ob_mk mX6_insert := ⟨ob_in 779 (by decide +kernel) (by decide +kernel), ob_in 45 (by decide +kernel) (by decide +kernel), by decide, by decide⟩
abbrev mX6_move : ob_y := (yX6_move, cX6_move, 4, (Option.none : Option Jvm.ClassFile.FieldType), [])
theorem kmX6_move : ob_mk mX6_move := ⟨ob_in 775 (by decide +kernel) (by decide +kernel), ob_in 45 (by decide +kernel) (by decide +kernel), by decide, by decide⟩
abbrev mX6_place : ob_y := (yX6_place, cX6_place, 1, (Option.some Jvm.ClassFile.FieldType.int), [])
theorem kmX6_place : ob_mk mX6_place := ⟨ob_in 811 (by decide +kernel) (by decide +kernel), ob_in 45 (by decide +kernel) (by decide +kernel), by decide, by decide⟩
abbrev mX6_put : ob_y := (yX6_put, cX6_put, 5, (Option.some Jvm.ClassFile.FieldType.boolean), [])
theorem kmX6_put : ob_mk mX6_put := ⟨ob_in 740 (by decide +kernel) (by decide +kernel), ob_in 45 (by decide +kernel) (by decide +kernel), by decide, by decide⟩
abbrev mX6_range : ob_y := (yX6_range, cX6_range, 3, (Option.some Jvm.ClassFile.FieldType.int), [])
theorem kmX6_range : ob_mk mX6_range := ⟨ob_in 815 (by decide +kernel) (by decide +kernel), ob_in 45 (by decide +kernel) (by decide +kernel), by decide, by decide⟩
abbrev mX6_remove : ob_y := (yX6_remove, cX6_remove, 3, (Option.some Jvm.ClassFile.FieldType.boolean), [])
theorem kmX6_remove : ob_mk mX6_remove := ⟨ob_in 791 (by decide +kernel) (by decide +kernel), ob_in 45 (by decide +kernel) (by decide +kernel), by decide, by decide⟩
abbrev mX6_removeFrom : ob_y := (yX6_removeFrom, cX6_removeFrom, 4, (Option.some Jvm.ClassFile.FieldType.int), [])
theorem kmX6_removeFrom : ob_mk mX6_removeFrom := ⟨ob_in 819 (by decide +kernel) (by decide +kernel), ob_in 45 (by decide +kernel) (by decide +kernel), by decide, by decide⟩
abbrev mX6_seek : ob_y := (yX6_seek, cX6_seek, 4, (Option.some Jvm.ClassFile.FieldType.int), [])
theorem kmX6_seek : ob_mk mX6_seek := ⟨ob_in 795 (by decide +kernel) (by decide +kernel), ob_in 45 (by decide +kernel) (by decide +kernel), by decide, by decide⟩
abbrev mX6_sound : ob_y := (yX6_sound, cX6_sound, 1, (Option.some Jvm.ClassFile.FieldType.boolean), [])
theorem kmX6_sound : ob_mk mX6_sound := ⟨ob_in 835 (by decide +kernel) (by decide +kernel), ob_in 45 (by decide +kernel) (by decide +kernel), by decide, by decide⟩
abbrev mX6_start : ob_y := (yX6_start, cX6_start, 4, (Option.some Jvm.ClassFile.FieldType.int), [])
theorem kmX6_start : ob_mk mX6_start := ⟨ob_in 760 (by decide +kernel) (by decide +kernel), ob_in 45 (by decide +kernel) (by decide +kernel), by decide, by decide⟩
abbrev mX6_step : ob_y := (yX6_step, cX6_step, 3, (Option.some Jvm.ClassFile.FieldType.boolean), [])
theorem kmX6_step : ob_mk mX6_step := ⟨ob_in 803 (by decide +kernel) (by decide +kernel), ob_in 45 (by decide +kernel) (by decide +kernel), by decide, by decide⟩
abbrev mX6_take : ob_y := (yX6_take, cX6_take, 5, (Option.none : Option Jvm.ClassFile.FieldType), [])
theorem kmX6_take : ob_mk mX6_take := ⟨ob_in 771 (by decide +kernel) (by decide +kernel), ob_in 45 (by decide +kernel) (by decide +kernel), by decide, by decide⟩
abbrev mX6_taken : ob_y := (yX6_taken, cX6_taken, 2, (Option.some Jvm.ClassFile.FieldType.int), [])
theorem kmX6_taken : ob_mk mX6_taken := ⟨ob_in 744 (by decide +kernel) (by decide +kernel), ob_in 45 (by decide +kernel) (by decide +kernel), by decide, by decide⟩
abbrev mX6_thrown : ob_y := (yX6_thrown, cX6_thrown, 1, (Option.some Jvm.ClassFile.FieldType.int), [])
theorem kmX6_thrown : ob_mk mX6_thrown := ⟨ob_in 724 (by decide +kernel) (by decide +kernel), ob_in 45 (by decide +kernel) (by decide +kernel), by decide, by decide⟩
abbrev mX6_told : ob_y := (yX6_told, cX6_told, 5, (Option.some Jvm.ClassFile.FieldType.int), [])
theorem kmX6_told : ob_mk mX6_told := ⟨ob_in 787 (by decide +kernel) (by decide +kernel), ob_in 45 (by decide +kernel) (by decide +kernel), by decide, by decide⟩
abbrev mX6_unitsOf : ob_y := (yX6_unitsOf, cX6_unitsOf, 1, (Option.some Jvm.ClassFile.FieldType.int), [])
theorem kmX6_unitsOf : ob_mk mX6_unitsOf := ⟨ob_in 763 (by decide +kernel) (by decide +kernel), ob_in 45 (by decide +kernel) (by decide +kernel), by decide, by decide⟩
abbrev mX6_used : ob_y := (yX6_used, cX6_used, 3, (Option.some Jvm.ClassFile.FieldType.int), [])
theorem kmX6_used : ob_mk mX6_used := ⟨ob_in 767 (by decide +kernel) (by decide +kernel), ob_in 45 (by decide +kernel) (by decide +kernel), by decide, by decide⟩
abbrev mX6_value : ob_y := (yX6_value, cX6_value, 1, (Option.some Jvm.ClassFile.FieldType.int), [])
theorem kmX6_value : ob_mk mX6_value := ⟨ob_in 807 (by decide +kernel) (by decide +kernel), ob_in 45 (by decide +kernel) (by decide +kernel), by decide, by decide⟩
abbrev mX6_within : ob_y := (yX6_within, cX6_within, 3, (Option.some Jvm.ClassFile.FieldType.boolean), [])
theorem kmX6_within : ob_mk mX6_within := ⟨ob_in 731 (by decide +kernel) (by decide +kernel), ob_in 45 (by decide +kernel) (by decide +kernel), by decide, by decide⟩
theorem ksX5_9 : ob_ms RX5 9 mX5_nearest 2 := ⟨kmX5_nearest, ob_in 64 (by decide +kernel) (by decide +kernel), ob_in 65 (by decide +kernel) (by decide +kernel), by decide +kernel⟩
theorem kiX5_19 : ob_mi RX5 19 mX1_init 1 := ⟨kmX1_init, ob_in 75 (by decide +kernel) (by decide +kernel), ob_in 76 (by decide +kernel) (by decide +kernel), rfl, rfl, by decide +kernel⟩
theorem kiX5_28 : ob_mi RX5 28 mX4_init 1 := ⟨kmX4_init, ob_in 126 (by decide +kernel) (by decide +kernel), ob_in 127 (by decide +kernel) (by decide +kernel), rfl, rfl, by decide +kernel⟩
theorem kiX5_37 : ob_mi RX5 37 mX3_init 1 := ⟨kmX3_init, ob_in 178 (by decide +kernel) (by decide +kernel), ob_in 179 (by decide +kernel) (by decide +kernel), rfl, rfl, by decide +kernel⟩
theorem kvX5_60 : ob_mv RX5 60 mX3_append 1 := ⟨kmX3_append, ob_in 389 (by decide +kernel) (by decide +kernel), ob_in 390 (by decide +kernel) (by decide +kernel), ob_in 391 (by decide +kernel) (by decide +kernel), by decide +kernel⟩
theorem kvX5_64 : ob_mv RX5 64 mX5_readTape 0 := ⟨kmX5_readTape, ob_in 400 (by decide +kernel) (by decide +kernel), ob_in 402 (by decide +kernel) (by decide +kernel), ob_in 5 (by decide +kernel) (by decide +kernel), by decide +kernel⟩
theorem ksX5_68 : ob_ms RX5 68 mX5_isKeyLength 1 := ⟨kmX5_isKeyLength, ob_in 404 (by decide +kernel) (by decide +kernel), ob_in 405 (by decide +kernel) (by decide +kernel), by decide +kernel⟩
theorem kvX5_74 : ob_mv RX5 74 mX4_find 2 := ⟨kmX4_find, ob_in 408 (by decide +kernel) (by decide +kernel), ob_in 409 (by decide +kernel) (by decide +kernel), ob_in 410 (by decide +kernel) (by decide +kernel), by decide +kernel⟩
theorem ksX5_78 : ob_ms RX5 78 mX5_unitsOf 1 := ⟨kmX5_unitsOf, ob_in 262 (by decide +kernel) (by decide +kernel), ob_in 263 (by decide +kernel) (by decide +kernel), by decide +kernel⟩
theorem kvX5_82 : ob_mv RX5 82 mX5_isFull 2 := ⟨kmX5_isFull, ob_in 416 (by decide +kernel) (by decide +kernel), ob_in 418 (by decide +kernel) (by decide +kernel), ob_in 6 (by decide +kernel) (by decide +kernel), by decide +kernel⟩
theorem kvX5_88 : ob_mv RX5 88 mX5_newEntry 2 := ⟨kmX5_newEntry, ob_in 421 (by decide +kernel) (by decide +kernel), ob_in 423 (by decide +kernel) (by decide +kernel), ob_in 7 (by decide +kernel) (by decide +kernel), by decide +kernel⟩
theorem kvX5_96 : ob_mv RX5 96 mX5_changeValue 2 := ⟨kmX5_changeValue, ob_in 505 (by decide +kernel) (by decide +kernel), ob_in 507 (by decide +kernel) (by decide +kernel), ob_in 16 (by decide +kernel) (by decide +kernel), by decide +kernel⟩
theorem kvX5_100 : ob_mv RX5 100 mX5_readKey 0 := ⟨kmX5_readKey, ob_in 521 (by decide +kernel) (by decide +kernel), ob_in 523 (by decide +kernel) (by decide +kernel), ob_in 17 (by decide +kernel) (by decide +kernel), by decide +kernel⟩
theorem kvX5_108 : ob_mv RX5 108 mX5_showValue 1 := ⟨kmX5_showValue, ob_in 542 (by decide +kernel) (by decide +kernel), ob_in 544 (by decide +kernel) (by decide +kernel), ob_in 18 (by decide +kernel) (by decide +kernel), by decide +kernel⟩
theorem kvX5_112 : ob_mv RX5 112 mX5_drop 1 := ⟨kmX5_drop, ob_in 557 (by decide +kernel) (by decide +kernel), ob_in 559 (by decide +kernel) (by decide +kernel), ob_in 19 (by decide +kernel) (by decide +kernel), by decide +kernel⟩
theorem kvX5_118 : ob_mv RX5 118 mX4_keysBelow 3 := ⟨kmX4_keysBelow, ob_in 589 (by decide +kernel) (by decide +kernel), ob_in 590 (by decide +kernel) (by decide +kernel), ob_in 591 (by decide +kernel) (by decide +kernel), by decide +kernel⟩
theorem kvX5_122 : ob_mv RX5 122 mX4_pick 1 := ⟨kmX4_pick, ob_in 593 (by decide +kernel) (by decide +kernel), ob_in 259 (by decide +kernel) (by decide +kernel), ob_in 260 (by decide +kernel) (by decide +kernel), by decide +kernel⟩
theorem kvX5_126 : ob_mv RX5 126 mX5_goTo 1 := ⟨kmX5_goTo, ob_in 594 (by decide +kernel) (by decide +kernel), ob_in 596 (by decide +kernel) (by decide +kernel), ob_in 24 (by decide +kernel) (by decide +kernel), by decide +kernel⟩
theorem kvX5_134 : ob_mv RX5 134 mX5_currentPlace 0 := ⟨kmX5_currentPlace, ob_in 629 (by decide +kernel) (by decide +kernel), ob_in 631 (by decide +kernel) (by decide +kernel), ob_in 25 (by decide +kernel) (by decide +kernel), by decide +kernel⟩
theorem kvX5_141 : ob_mv RX5 141 mX4_size 0 := ⟨kmX4_size, ob_in 222 (by decide +kernel) (by decide +kernel), ob_in 223 (by decide +kernel) (by decide +kernel), ob_in 224 (by decide +kernel) (by decide +kernel), by decide +kernel⟩
theorem ksX5_144 : ob_ms RX5 144 mJ9_max_7cf53 2 := ⟨kmJ9_max_7cf53, ob_in 70 (by decide +kernel) (by decide +kernel), ob_in 71 (by decide +kernel) (by decide +kernel), by decide +kernel⟩
theorem ksX5_151 : ob_ms RX5 151 mJ9_min_7cf53 2 := ⟨kmJ9_min_7cf53, ob_in 67 (by decide +kernel) (by decide +kernel), ob_in 68 (by decide +kernel) (by decide +kernel), by decide +kernel⟩
theorem kvX5_154 : ob_mv RX5 154 mX4_empty 0 := ⟨kmX4_empty, ob_in 226 (by decide +kernel) (by decide +kernel), ob_in 227 (by decide +kernel) (by decide +kernel), ob_in 228 (by decide +kernel) (by decide +kernel), by decide +kernel⟩
theorem kvX5_157 : ob_mv RX5 157 mX1_empty 0 := ⟨kmX1_empty, ob_in 230 (by decide +kernel) (by decide +kernel), ob_in 231 (by decide +kernel) (by decide +kernel), ob_in 232 (by decide +kernel) (by decide +kernel), by decide +kernel⟩
theorem kvX5_173 : ob_mv RX5 173 mX1_isSound 0 := ⟨kmX1_isSound, ob_in 242 (by decide +kernel) (by decide +kernel), ob_in 243 (by decide +kernel) (by decide +kernel), ob_in 244 (by decide +kernel) (by decide +kernel), by decide +kernel⟩
theorem kvX5_177 : ob_mv RX5 177 mX5_blocksMatchEntries 0 := ⟨kmX5_blocksMatchEntries, ob_in 246 (by decide +kernel) (by decide +kernel), ob_in 248 (by decide +kernel) (by decide +kernel), ob_in 0 (by decide +kernel) (by decide +kernel), by decide +kernel⟩
theorem kvX5_180 : ob_mv RX5 180 mX4_isSound 0 := ⟨kmX4_isSound, ob_in 265 (by decide +kernel) (by decide +kernel), ob_in 266 (by decide +kernel) (by decide +kernel), ob_in 267 (by decide +kernel) (by decide +kernel), by decide +kernel⟩
theorem kvX5_183 : ob_mv RX5 183 mX4_placeOf 1 := ⟨kmX4_placeOf, ob_in 634 (by decide +kernel) (by decide +kernel), ob_in 255 (by decide +kernel) (by decide +kernel), ob_in 256 (by decide +kernel) (by decide +kernel), by decide +kernel⟩
theorem kiX5_200 : ob_mi RX5 200 mX2_init 1 := ⟨kmX2_init, ob_in 426 (by decide +kernel) (by decide +kernel), ob_in 133 (by decide +kernel) (by decide +kernel), rfl, rfl, by decide +kernel⟩
theorem kvX5_201 : ob_mv RX5 201 mX1_take 2 := ⟨kmX1_take, ob_in 427 (by decide +kernel) (by decide +kernel), ob_in 428 (by decide +kernel) (by decide +kernel), ob_in 429 (by decide +kernel) (by decide +kernel), by decide +kernel⟩
theorem kvX5_205 : ob_mv RX5 205 mX5_fill 2 := ⟨kmX5_fill, ob_in 469 (by decide +kernel) (by decide +kernel), ob_in 471 (by decide +kernel) (by decide +kernel), ob_in 12 (by decide +kernel) (by decide +kernel), by decide +kernel⟩
theorem kvX5_208 : ob_mv RX5 208 mX4_link 1 := ⟨kmX4_link, ob_in 477 (by decide +kernel) (by decide +kernel), ob_in 478 (by decide +kernel) (by decide +kernel), ob_in 479 (by decide +kernel) (by decide +kernel), by decide +kernel⟩
theorem kvX5_211 : ob_mv RX5 211 mX1_giveBack 1 := ⟨kmX1_giveBack, ob_in 509 (by decide +kernel) (by decide +kernel), ob_in 510 (by decide +kernel) (by decide +kernel), ob_in 511 (by decide +kernel) (by decide +kernel), by decide +kernel⟩
theorem kvX5_216 : ob_mv RX5 216 mX1_write 3 := ⟨kmX1_write, ob_in 473 (by decide +kernel) (by decide +kernel), ob_in 474 (by decide +kernel) (by decide +kernel), ob_in 475 (by decide +kernel) (by decide +kernel), by decide +kernel⟩
theorem kvX5_221 : ob_mv RX5 221 mX4_unlink 1 := ⟨kmX4_unlink, ob_in 561 (by decide +kernel) (by decide +kernel), ob_in 562 (by decide +kernel) (by decide +kernel), ob_in 563 (by decide +kernel) (by decide +kernel), by decide +kernel⟩
theorem kvX5_224 : ob_mv RX5 224 mX1_read 4 := ⟨kmX1_read, ob_in 546 (by decide +kernel) (by decide +kernel), ob_in 547 (by decide +kernel) (by decide +kernel), ob_in 548 (by decide +kernel) (by decide +kernel), by decide +kernel⟩
theorem kvX5_237 : ob_mv RX5 237 mX4_holds 1 := ⟨kmX4_holds, ob_in 250 (by decide +kernel) (by decide +kernel), ob_in 251 (by decide +kernel) (by decide +kernel), ob_in 252 (by decide +kernel) (by decide +kernel), by decide +kernel⟩
theorem ksX1_15 : ob_ms RX1 15 mJ9_min_7cf53 2 := ⟨kmJ9_min_7cf53, ob_in 79 (by decide +kernel) (by decide +kernel), ob_in 68 (by decide +kernel) (by decide +kernel), by decide +kernel⟩
theorem kiX1_30 : ob_mi RX1 30 mX0_init 2 := ⟨kmX0_init, ob_in 82 (by decide +kernel) (by decide +kernel), ob_in 83 (by decide +kernel) (by decide +kernel), rfl, rfl, by decide +kernel⟩
theorem kvX1_40 : ob_mv RX1 40 mX1_firstFit 1 := ⟨kmX1_firstFit, ob_in 431 (by decide +kernel) (by decide +kernel), ob_in 433 (by decide +kernel) (by decide +kernel), ob_in 8 (by decide +kernel) (by decide +kernel), by decide +kernel⟩
theorem kvX1_47 : ob_mv RX1 47 mX1_grow 1 := ⟨kmX1_grow, ob_in 438 (by decide +kernel) (by decide +kernel), ob_in 440 (by decide +kernel) (by decide +kernel), ob_in 9 (by decide +kernel) (by decide +kernel), by decide +kernel⟩
theorem kvX1_51 : ob_mv RX1 51 mX1_pushTogether 0 := ⟨kmX1_pushTogether, ob_in 457 (by decide +kernel) (by decide +kernel), ob_in 459 (by decide +kernel) (by decide +kernel), ob_in 10 (by decide +kernel) (by decide +kernel), by decide +kernel⟩
theorem ksX1_55 : ob_ms RX1 55 mX1_cut 2 := ⟨kmX1_cut, ob_in 466 (by decide +kernel) (by decide +kernel), ob_in 467 (by decide +kernel) (by decide +kernel), by decide +kernel⟩
theorem kvX1_81 : ob_mv RX1 81 mX1_compareBytes 4 := ⟨kmX1_compareBytes, ob_in 289 (by decide +kernel) (by decide +kernel), ob_in 291 (by decide +kernel) (by decide +kernel), ob_in 3 (by decide +kernel) (by decide +kernel), by decide +kernel⟩
theorem ksX1_93 : ob_ms RX1 93 mX1_joinFreeOnes 1 := ⟨kmX1_joinFreeOnes, ob_in 435 (by decide +kernel) (by decide +kernel), ob_in 436 (by decide +kernel) (by decide +kernel), by decide +kernel⟩
theorem ksX1_97 : ob_ms RX1 97 mJ9_max_7cf53 2 := ⟨kmJ9_max_7cf53, ob_in 442 (by decide +kernel) (by decide +kernel), ob_in 71 (by decide +kernel) (by decide +kernel), by decide +kernel⟩
theorem ksX1_100 : ob_ms RX1 100 mJ7_copyOf_9075b 2 := ⟨kmJ7_copyOf_9075b, ob_in 443 (by decide +kernel) (by decide +kernel), ob_in 444 (by decide +kernel) (by decide +kernel), by decide +kernel⟩
theorem kvX1_106 : ob_mv RX1 106 mX1_moveTo 2 := ⟨kmX1_moveTo, ob_in 461 (by decide +kernel) (by decide +kernel), ob_in 463 (by decide +kernel) (by decide +kernel), ob_in 11 (by decide +kernel) (by decide +kernel), by decide +kernel⟩
theorem kiX4_17 : ob_mi RX4 17 mX2_init 1 := ⟨kmX2_init, ob_in 132 (by decide +kernel) (by decide +kernel), ob_in 133 (by decide +kernel) (by decide +kernel), rfl, rfl, by decide +kernel⟩
theorem kvX4_40 : ob_mv RX4 40 mX1_compareRow 3 := ⟨kmX1_compareRow, ob_in 412 (by decide +kernel) (by decide +kernel), ob_in 413 (by decide +kernel) (by decide +kernel), ob_in 414 (by decide +kernel) (by decide +kernel), by decide +kernel⟩
theorem kvX4_46 : ob_mv RX4 46 mX4_placeOf 1 := ⟨kmX4_placeOf, ob_in 254 (by decide +kernel) (by decide +kernel), ob_in 255 (by decide +kernel) (by decide +kernel), ob_in 256 (by decide +kernel) (by decide +kernel), by decide +kernel⟩
theorem kvX4_50 : ob_mv RX4 50 mX4_pick 1 := ⟨kmX4_pick, ob_in 258 (by decide +kernel) (by decide +kernel), ob_in 259 (by decide +kernel) (by decide +kernel), ob_in 260 (by decide +kernel) (by decide +kernel), by decide +kernel⟩
theorem kvX4_54 : ob_mv RX4 54 mX1_compareNodes 2 := ⟨kmX1_compareNodes, ob_in 285 (by decide +kernel) (by decide +kernel), ob_in 286 (by decide +kernel) (by decide +kernel), ob_in 287 (by decide +kernel) (by decide +kernel), by decide +kernel⟩
theorem kvX4_58 : ob_mv RX4 58 mX2_child 1 := ⟨kmX2_child, ob_in 481 (by decide +kernel) (by decide +kernel), ob_in 482 (by decide +kernel) (by decide +kernel), ob_in 483 (by decide +kernel) (by decide +kernel), by decide +kernel⟩
theorem kvX4_65 : ob_mv RX4 65 mX2_setChild 2 := ⟨kmX2_setChild, ob_in 485 (by decide +kernel) (by decide +kernel), ob_in 486 (by decide +kernel) (by decide +kernel), ob_in 487 (by decide +kernel) (by decide +kernel), by decide +kernel⟩
theorem kvX4_69 : ob_mv RX4 69 mX4_mendRedBelowRed 1 := ⟨kmX4_mendRedBelowRed, ob_in 489 (by decide +kernel) (by decide +kernel), ob_in 491 (by decide +kernel) (by decide +kernel), ob_in 13 (by decide +kernel) (by decide +kernel), by decide +kernel⟩
theorem kvX4_73 : ob_mv RX4 73 mX4_least 1 := ⟨kmX4_least, ob_in 565 (by decide +kernel) (by decide +kernel), ob_in 567 (by decide +kernel) (by decide +kernel), ob_in 20 (by decide +kernel) (by decide +kernel), by decide +kernel⟩
theorem kvX4_77 : ob_mv RX4 77 mX4_replace 2 := ⟨kmX4_replace, ob_in 501 (by decide +kernel) (by decide +kernel), ob_in 503 (by decide +kernel) (by decide +kernel), ob_in 15 (by decide +kernel) (by decide +kernel), by decide +kernel⟩
theorem kvX4_81 : ob_mv RX4 81 mX4_takeOver 2 := ⟨kmX4_takeOver, ob_in 569 (by decide +kernel) (by decide +kernel), ob_in 571 (by decide +kernel) (by decide +kernel), ob_in 21 (by decide +kernel) (by decide +kernel), by decide +kernel⟩
theorem kvX4_84 : ob_mv RX4 84 mX4_mendMissingBlack 1 := ⟨kmX4_mendMissingBlack, ob_in 573 (by decide +kernel) (by decide +kernel), ob_in 575 (by decide +kernel) (by decide +kernel), ob_in 22 (by decide +kernel) (by decide +kernel), by decide +kernel⟩
theorem kvX4_87 : ob_mv RX4 87 mX2_sideOf 1 := ⟨kmX2_sideOf, ob_in 493 (by decide +kernel) (by decide +kernel), ob_in 494 (by decide +kernel) (by decide +kernel), ob_in 495 (by decide +kernel) (by decide +kernel), by decide +kernel⟩
theorem kvX4_90 : ob_mv RX4 90 mX4_rotate 2 := ⟨kmX4_rotate, ob_in 497 (by decide +kernel) (by decide +kernel), ob_in 499 (by decide +kernel) (by decide +kernel), ob_in 14 (by decide +kernel) (by decide +kernel), by decide +kernel⟩
theorem kvX4_94 : ob_mv RX4 94 mX4_giveBlackFrom 3 := ⟨kmX4_giveBlackFrom, ob_in 577 (by decide +kernel) (by decide +kernel), ob_in 579 (by decide +kernel) (by decide +kernel), ob_in 23 (by decide +kernel) (by decide +kernel), by decide +kernel⟩
theorem ksX4_98 : ob_ms RX4 98 mJ6_numberOfLeadingZeros_0f7a4 1 := ⟨kmJ6_numberOfLeadingZeros_0f7a4, ob_in 269 (by decide +kernel) (by decide +kernel), ob_in 270 (by decide +kernel) (by decide +kernel), by decide +kernel⟩
theorem ksX4_104 : ob_ms RX4 104 mJ9_min_7cf53 2 := ⟨kmJ9_min_7cf53, ob_in 273 (by decide +kernel) (by decide +kernel), ob_in 68 (by decide +kernel) (by decide +kernel), by decide +kernel⟩
theorem ksX4_110 : ob_ms RX4 110 mX4_blackOnes 5 := ⟨kmX4_blackOnes, ob_in 274 (by decide +kernel) (by decide +kernel), ob_in 275 (by decide +kernel) (by decide +kernel), by decide +kernel⟩
theorem kvX4_114 : ob_mv RX4 114 mX4_isLinkedWell 1 := ⟨kmX4_isLinkedWell, ob_in 277 (by decide +kernel) (by decide +kernel), ob_in 279 (by decide +kernel) (by decide +kernel), ob_in 1 (by decide +kernel) (by decide +kernel), by decide +kernel⟩
theorem kvX4_118 : ob_mv RX4 118 mX4_isBetween 3 := ⟨kmX4_isBetween, ob_in 281 (by decide +kernel) (by decide +kernel), ob_in 283 (by decide +kernel) (by decide +kernel), ob_in 2 (by decide +kernel) (by decide +kernel), by decide +kernel⟩
theorem kvL_7 : ob_mv RL 7 mX5_feed 2 := ⟨kmX5_feed, ob_in 301 (by decide +kernel) (by decide +kernel), ob_in 302 (by decide +kernel) (by decide +kernel), ob_in 303 (by decide +kernel) (by decide +kernel), by decide +kernel⟩
theorem kvL_17 : ob_mv RL 17 mX5_put 1 := ⟨kmX5_put, ob_in 396 (by decide +kernel) (by decide +kernel), ob_in 397 (by decide +kernel) (by decide +kernel), ob_in 398 (by decide +kernel) (by decide +kernel), by decide +kernel⟩
theorem kvL_21 : ob_mv RL 21 mX5_get 0 := ⟨kmX5_get, ob_in 517 (by decide +kernel) (by decide +kernel), ob_in 518 (by decide +kernel) (by decide +kernel), ob_in 519 (by decide +kernel) (by decide +kernel), by decide +kernel⟩
theorem kvL_27 : ob_mv RL 27 mX5_remove 0 := ⟨kmX5_remove, ob_in 553 (by decide +kernel) (by decide +kernel), ob_in 554 (by decide +kernel) (by decide +kernel), ob_in 555 (by decide +kernel) (by decide +kernel), by decide +kernel⟩
theorem kvL_31 : ob_mv RL 31 mX5_seek 1 := ⟨kmX5_seek, ob_in 584 (by decide +kernel) (by decide +kernel), ob_in 585 (by decide +kernel) (by decide +kernel), ob_in 586 (by decide +kernel) (by decide +kernel), by decide +kernel⟩
theorem kvL_35 : ob_mv RL 35 mX5_at 1 := ⟨kmX5_at, ob_in 602 (by decide +kernel) (by decide +kernel), ob_in 603 (by decide +kernel) (by decide +kernel), ob_in 604 (by decide +kernel) (by decide +kernel), by decide +kernel⟩
theorem kvL_40 : ob_mv RL 40 mX5_step 1 := ⟨kmX5_step, ob_in 625 (by decide +kernel) (by decide +kernel), ob_in 626 (by decide +kernel) (by decide +kernel), ob_in 627 (by decide +kernel) (by decide +kernel), by decide +kernel⟩
theorem kvL_44 : ob_mv RL 44 mX5_value 0 := ⟨kmX5_value, ob_in 638 (by decide +kernel) (by decide +kernel), ob_in 639 (by decide +kernel) (by decide +kernel), ob_in 640 (by decide +kernel) (by decide +kernel), by decide +kernel⟩
theorem kvL_47 : ob_mv RL 47 mX5_place 0 := ⟨kmX5_place, ob_in 645 (by decide +kernel) (by decide +kernel), ob_in 646 (by decide +kernel) (by decide +kernel), ob_in 647 (by decide +kernel) (by decide +kernel), by decide +kernel⟩
theorem kvL_50 : ob_mv RL 50 mX5_range 0 := ⟨kmX5_range, ob_in 652 (by decide +kernel) (by decide +kernel), ob_in 653 (by decide +kernel) (by decide +kernel), ob_in 654 (by decide +kernel) (by decide +kernel), by decide +kernel⟩
theorem kvL_53 : ob_mv RL 53 mX5_removeFrom 1 := ⟨kmX5_removeFrom, ob_in 660 (by decide +kernel) (by decide +kernel), ob_in 661 (by decide +kernel) (by decide +kernel), ob_in 662 (by decide +kernel) (by decide +kernel), by decide +kernel⟩
theorem kvL_56 : ob_mv RL 56 mX5_byteAt 1 := ⟨kmX5_byteAt, ob_in 668 (by decide +kernel) (by decide +kernel), ob_in 669 (by decide +kernel) (by decide +kernel), ob_in 670 (by decide +kernel) (by decide +kernel), by decide +kernel⟩
theorem ksL_59 : ob_ms RL 59 mL_cell 2 := ⟨kmL_cell, ob_in 293 (by decide +kernel) (by decide +kernel), ob_in 294 (by decide +kernel) (by decide +kernel), by decide +kernel⟩
theorem kiL_65 : ob_mi RL 65 mX5_init 2 := ⟨kmX5_init, ob_in 58 (by decide +kernel) (by decide +kernel), ob_in 59 (by decide +kernel) (by decide +kernel), rfl, rfl, by decide +kernel⟩
theorem kiL_70 : ob_mi RL 70 mX6_init 2 := ⟨kmX6_init, ob_in 675 (by decide +kernel) (by decide +kernel), ob_in 676 (by decide +kernel) (by decide +kernel), rfl, rfl, by decide +kernel⟩
theorem kvL_76 : ob_mv RL 76 mX6_feed 2 := ⟨kmX6_feed, ob_in 725 (by decide +kernel) (by decide +kernel), ob_in 726 (by decide +kernel) (by decide +kernel), ob_in 727 (by decide +kernel) (by decide +kernel), by decide +kernel⟩
theorem kvL_77 : ob_mv RL 77 mX6_thrown 0 := ⟨kmX6_thrown, ob_in 721 (by decide +kernel) (by decide +kernel), ob_in 722 (by decide +kernel) (by decide +kernel), ob_in 723 (by decide +kernel) (by decide +kernel), by decide +kernel⟩
theorem kvL_83 : ob_mv RL 83 mX6_put 1 := ⟨kmX6_put, ob_in 737 (by decide +kernel) (by decide +kernel), ob_in 738 (by decide +kernel) (by decide +kernel), ob_in 739 (by decide +kernel) (by decide +kernel), by decide +kernel⟩
theorem kvL_87 : ob_mv RL 87 mX6_get 0 := ⟨kmX6_get, ob_in 780 (by decide +kernel) (by decide +kernel), ob_in 781 (by decide +kernel) (by decide +kernel), ob_in 782 (by decide +kernel) (by decide +kernel), by decide +kernel⟩
theorem kvL_90 : ob_mv RL 90 mX6_remove 0 := ⟨kmX6_remove, ob_in 788 (by decide +kernel) (by decide +kernel), ob_in 789 (by decide +kernel) (by decide +kernel), ob_in 790 (by decide +kernel) (by decide +kernel), by decide +kernel⟩
theorem kvL_93 : ob_mv RL 93 mX6_seek 1 := ⟨kmX6_seek, ob_in 792 (by decide +kernel) (by decide +kernel), ob_in 793 (by decide +kernel) (by decide +kernel), ob_in 794 (by decide +kernel) (by decide +kernel), by decide +kernel⟩
theorem kvL_96 : ob_mv RL 96 mX6_at 1 := ⟨kmX6_at, ob_in 796 (by decide +kernel) (by decide +kernel), ob_in 797 (by decide +kernel) (by decide +kernel), ob_in 798 (by decide +kernel) (by decide +kernel), by decide +kernel⟩
theorem kvL_100 : ob_mv RL 100 mX6_step 1 := ⟨kmX6_step, ob_in 800 (by decide +kernel) (by decide +kernel), ob_in 801 (by decide +kernel) (by decide +kernel), ob_in 802 (by decide +kernel) (by decide +kernel), by decide +kernel⟩
theorem kvL_103 : ob_mv RL 103 mX6_value 0 := ⟨kmX6_value, ob_in 804 (by decide +kernel) (by decide +kernel), ob_in 805 (by decide +kernel) (by decide +kernel), ob_in 806 (by decide +kernel) (by decide +kernel), by decide +kernel⟩
theorem kvL_106 : ob_mv RL 106 mX6_place 0 := ⟨kmX6_place, ob_in 808 (by decide +kernel) (by decide +kernel), ob_in 809 (by decide +kernel) (by decide +kernel), ob_in 810 (by decide +kernel) (by decide +kernel), by decide +kernel⟩
theorem kvL_109 : ob_mv RL 109 mX6_range 0 := ⟨kmX6_range, ob_in 812 (by decide +kernel) (by decide +kernel), ob_in 813 (by decide +kernel) (by decide +kernel), ob_in 814 (by decide +kernel) (by decide +kernel), by decide +kernel⟩
theorem kvL_112 : ob_mv RL 112 mX6_removeFrom 1 := ⟨kmX6_removeFrom, ob_in 816 (by decide +kernel) (by decide +kernel), ob_in 817 (by decide +kernel) (by decide +kernel), ob_in 818 (by decide +kernel) (by decide +kernel), by decide +kernel⟩
theorem kvL_113 : ob_mv RL 113 mX5_clear 0 := ⟨kmX5_clear, ob_in 218 (by decide +kernel) (by decide +kernel), ob_in 219 (by decide +kernel) (by decide +kernel), ob_in 220 (by decide +kernel) (by decide +kernel), by decide +kernel⟩
theorem kvL_116 : ob_mv RL 116 mX6_clear 0 := ⟨kmX6_clear, ob_in 820 (by decide +kernel) (by decide +kernel), ob_in 821 (by decide +kernel) (by decide +kernel), ob_in 822 (by decide +kernel) (by decide +kernel), by decide +kernel⟩
theorem kvL_119 : ob_mv RL 119 mX6_byteAt 1 := ⟨kmX6_byteAt, ob_in 824 (by decide +kernel) (by decide +kernel), ob_in 825 (by decide +kernel) (by decide +kernel), ob_in 826 (by decide +kernel) (by decide +kernel), by decide +kernel⟩
theorem kvL_120 : ob_mv RL 120 mX5_count 1 := ⟨kmX5_count, ob_in 234 (by decide +kernel) (by decide +kernel), ob_in 235 (by decide +kernel) (by decide +kernel), ob_in 236 (by decide +kernel) (by decide +kernel), by decide +kernel⟩
theorem kvL_123 : ob_mv RL 123 mX6_count 1 := ⟨kmX6_count, ob_in 828 (by decide +kernel) (by decide +kernel), ob_in 829 (by decide +kernel) (by decide +kernel), ob_in 830 (by decide +kernel) (by decide +kernel), by decide +kernel⟩
theorem kvL_124 : ob_mv RL 124 mX5_sound 0 := ⟨kmX5_sound, ob_in 238 (by decide +kernel) (by decide +kernel), ob_in 239 (by decide +kernel) (by decide +kernel), ob_in 240 (by decide +kernel) (by decide +kernel), by decide +kernel⟩
theorem kvL_127 : ob_mv RL 127 mX6_sound 0 := ⟨kmX6_sound, ob_in 832 (by decide +kernel) (by decide +kernel), ob_in 833 (by decide +kernel) (by decide +kernel), ob_in 834 (by decide +kernel) (by decide +kernel), by decide +kernel⟩
theorem ksX6_39 : ob_ms RX6 39 mX6_within 3 := ⟨kmX6_within, ob_in 729 (by decide +kernel) (by decide +kernel), ob_in 730 (by decide +kernel) (by decide +kernel), by decide +kernel⟩
theorem kvX6_43 : ob_mv RX6 43 mX6_fail 1 := ⟨kmX6_fail, ob_in 732 (by decide +kernel) (by decide +kernel), ob_in 734 (by decide +kernel) (by decide +kernel), ob_in 26 (by decide +kernel) (by decide +kernel), by decide +kernel⟩
theorem kvX6_55 : ob_mv RX6 55 mX6_compare 3 := ⟨kmX6_compare, ob_in 753 (by decide +kernel) (by decide +kernel), ob_in 755 (by decide +kernel) (by decide +kernel), ob_in 30 (by decide +kernel) (by decide +kernel), by decide +kernel⟩
theorem kvX6_59 : ob_mv RX6 59 mX6_below 2 := ⟨kmX6_below, ob_in 749 (by decide +kernel) (by decide +kernel), ob_in 751 (by decide +kernel) (by decide +kernel), ob_in 29 (by decide +kernel) (by decide +kernel), by decide +kernel⟩
theorem kvX6_63 : ob_mv RX6 63 mX6_start 1 := ⟨kmX6_start, ob_in 757 (by decide +kernel) (by decide +kernel), ob_in 759 (by decide +kernel) (by decide +kernel), ob_in 31 (by decide +kernel) (by decide +kernel), by decide +kernel⟩
theorem ksX6_66 : ob_ms RX6 66 mX6_unitsOf 1 := ⟨kmX6_unitsOf, ob_in 761 (by decide +kernel) (by decide +kernel), ob_in 762 (by decide +kernel) (by decide +kernel), by decide +kernel⟩
theorem kvX6_72 : ob_mv RX6 72 mX6_move 2 := ⟨kmX6_move, ob_in 772 (by decide +kernel) (by decide +kernel), ob_in 774 (by decide +kernel) (by decide +kernel), ob_in 34 (by decide +kernel) (by decide +kernel), by decide +kernel⟩
theorem kvX6_76 : ob_mv RX6 76 mX6_taken 0 := ⟨kmX6_taken, ob_in 741 (by decide +kernel) (by decide +kernel), ob_in 743 (by decide +kernel) (by decide +kernel), ob_in 27 (by decide +kernel) (by decide +kernel), by decide +kernel⟩
theorem kvX6_80 : ob_mv RX6 80 mX6_find 1 := ⟨kmX6_find, ob_in 745 (by decide +kernel) (by decide +kernel), ob_in 747 (by decide +kernel) (by decide +kernel), ob_in 28 (by decide +kernel) (by decide +kernel), by decide +kernel⟩
theorem kvX6_83 : ob_mv RX6 83 mX6_used 0 := ⟨kmX6_used, ob_in 764 (by decide +kernel) (by decide +kernel), ob_in 766 (by decide +kernel) (by decide +kernel), ob_in 32 (by decide +kernel) (by decide +kernel), by decide +kernel⟩
theorem kvX6_86 : ob_mv RX6 86 mX6_take 1 := ⟨kmX6_take, ob_in 768 (by decide +kernel) (by decide +kernel), ob_in 770 (by decide +kernel) (by decide +kernel), ob_in 33 (by decide +kernel) (by decide +kernel), by decide +kernel⟩
theorem kvX6_90 : ob_mv RX6 90 mX6_insert 3 := ⟨kmX6_insert, ob_in 776 (by decide +kernel) (by decide +kernel), ob_in 778 (by decide +kernel) (by decide +kernel), ob_in 35 (by decide +kernel) (by decide +kernel), by decide +kernel⟩
theorem kvX6_97 : ob_mv RX6 97 mX6_told 2 := ⟨kmX6_told, ob_in 784 (by decide +kernel) (by decide +kernel), ob_in 786 (by decide +kernel) (by decide +kernel), ob_in 36 (by decide +kernel) (by decide +kernel), by decide +kernel⟩
theorem ksJ7_304 : ob_ms RJ7 304 mJ9_min_7cf53 2 := ⟨kmJ9_min_7cf53, ob_in 453 (by decide +kernel) (by decide +kernel), ob_in 68 (by decide +kernel) (by decide +kernel), by decide +kernel⟩
theorem klX5_17 : Cond.classLink RX5 17 "OrderedBytes$Heap" ∈ ob_tb := ob_in 73 (by decide +kernel) (by decide +kernel)
theorem klX5_26 : Cond.classLink RX5 26 "OrderedBytes$Tree" ∈ ob_tb := ob_in 124 (by decide +kernel) (by decide +kernel)
theorem klX5_35 : Cond.classLink RX5 35 "OrderedBytes$Row" ∈ ob_tb := ob_in 176 (by decide +kernel) (by decide +kernel)
theorem klX5_45 : Cond.classLink RX5 45 "java/lang/IllegalArgumentException" ∈ ob_tb := ob_in 305 (by decide +kernel) (by decide +kernel)
theorem klX5_55 : Cond.classLink RX5 55 "java/lang/IllegalStateException" ∈ ob_tb := ob_in 373 (by decide +kernel) (by decide +kernel)
theorem klX5_103 : Cond.classLink RX5 103 "java/util/NoSuchElementException" ∈ ob_tb := ob_in 526 (by decide +kernel) (by decide +kernel)
theorem klX5_129 : Cond.classLink RX5 129 "java/lang/IndexOutOfBoundsException" ∈ ob_tb := ob_in 606 (by decide +kernel) (by decide +kernel)
theorem klX5_187 : Cond.classLink RX5 187 "OrderedBytes$Node" ∈ ob_tb := ob_in 425 (by decide +kernel) (by decide +kernel)
theorem klX1_28 : Cond.classLink RX1 28 "OrderedBytes$Block" ∈ ob_tb := ob_in 80 (by decide +kernel) (by decide +kernel)
theorem klX4_15 : Cond.classLink RX4 15 "OrderedBytes$Node" ∈ ob_tb := ob_in 130 (by decide +kernel) (by decide +kernel)
theorem klL_8 : Cond.classLink RL 8 "OrderedBytes" ∈ ob_tb := ob_in 56 (by decide +kernel) (by decide +kernel)
theorem klL_13 : Cond.classLink RL 13 "java/lang/IllegalArgumentException" ∈ ob_tb := ob_in 299 (by decide +kernel) (by decide +kernel)
theorem klL_15 : Cond.classLink RL 15 "java/lang/IllegalStateException" ∈ ob_tb := ob_in 300 (by decide +kernel) (by decide +kernel)
theorem klL_25 : Cond.classLink RL 25 "java/util/NoSuchElementException" ∈ ob_tb := ob_in 516 (by decide +kernel) (by decide +kernel)
theorem klL_38 : Cond.classLink RL 38 "java/lang/IndexOutOfBoundsException" ∈ ob_tb := ob_in 601 (by decide +kernel) (by decide +kernel)
theorem klL_68 : Cond.classLink RL 68 "OrderedBytesModel" ∈ ob_tb := ob_in 673 (by decide +kernel) (by decide +kernel)
theorem klJ7_311 : Cond.classLink RJ7 311 "[B" ∈ ob_tb := ob_in 452 (by decide +kernel) (by decide +kernel)
theorem kn0 : Cond.instantiable RX0 4 ∈ ob_tb := ob_in 81 (by decide +kernel) (by decide +kernel)
theorem kt0 : Cond.initialized RX0 ∈ ob_tb := ob_in 41 (by decide +kernel) (by decide +kernel)
theorem kn1 : Cond.instantiable RX1 5 ∈ ob_tb := ob_in 74 (by decide +kernel) (by decide +kernel)
theorem kt1 : Cond.initialized RX1 ∈ ob_tb := ob_in 40 (by decide +kernel) (by decide +kernel)
theorem kn2 : Cond.instantiable RX2 8 ∈ ob_tb := ob_in 131 (by decide +kernel) (by decide +kernel)
theorem kt2 : Cond.initialized RX2 ∈ ob_tb := ob_in 43 (by decide +kernel) (by decide +kernel)
theorem kn3 : Cond.instantiable RX3 2 ∈ ob_tb := ob_in 177 (by decide +kernel) (by decide +kernel)
theorem kt3 : Cond.initialized RX3 ∈ ob_tb := ob_in 44 (by decide +kernel) (by decide +kernel)
theorem kn4 : Cond.instantiable RX4 3 ∈ ob_tb := ob_in 125 (by decide +kernel) (by decide +kernel)
theorem kt4 : Cond.initialized RX4 ∈ ob_tb := ob_in 42 (by decide +kernel) (by decide +kernel)
theorem kn5 : Cond.instantiable RX5 8 ∈ ob_tb := ob_in 57 (by decide +kernel) (by decide +kernel)
theorem kt5 : Cond.initialized RX5 ∈ ob_tb := ob_in 38 (by decide +kernel) (by decide +kernel)
theorem kn6 : Cond.instantiable RX6 13 ∈ ob_tb := ob_in 674 (by decide +kernel) (by decide +kernel)
theorem kt6 : Cond.initialized RX6 ∈ ob_tb := ob_in 45 (by decide +kernel) (by decide +kernel)
theorem kOi : Cond.instanceMethod objectInit ∈ ob_tb := ob_in 62 (by decide +kernel) (by decide +kernel)
theorem kOc : Cond.code objectInit ⟨#[0xb1]⟩ 1 none ∈ ob_tb := ob_in 63 (by decide +kernel) (by decide +kernel)
theorem kOX5_1 : Cond.methodLink RX5 1 objectInit ∈ ob_tb := ob_in 61 (by decide +kernel) (by decide +kernel)
theorem kOX0_1 : Cond.methodLink RX0 1 objectInit ∈ ob_tb := ob_in 85 (by decide +kernel) (by decide +kernel)
theorem kOX1_3 : Cond.methodLink RX1 3 objectInit ∈ ob_tb := ob_in 78 (by decide +kernel) (by decide +kernel)
theorem kOX2_3 : Cond.methodLink RX2 3 objectInit ∈ ob_tb := ob_in 135 (by decide +kernel) (by decide +kernel)
theorem kOX3_1 : Cond.methodLink RX3 1 objectInit ∈ ob_tb := ob_in 181 (by decide +kernel) (by decide +kernel)
theorem kOX4_3 : Cond.methodLink RX4 3 objectInit ∈ ob_tb := ob_in 129 (by decide +kernel) (by decide +kernel)
theorem kOX6_1 : Cond.methodLink RX6 1 objectInit ∈ ob_tb := ob_in 678 (by decide +kernel) (by decide +kernel)
theorem kAn : Cond.native arraycopyName ∈ ob_tb := ob_in 456 (by decide +kernel) (by decide +kernel)
theorem kAs : Cond.static arraycopyName ∈ ob_tb := ob_in 455 (by decide +kernel) (by decide +kernel)
theorem kAi : Cond.initialized "java/lang/System" ∈ ob_tb := ob_in 52 (by decide +kernel) (by decide +kernel)
theorem kAX1_72 : Cond.methodLink RX1 72 arraycopyName ∈ ob_tb := ob_in 465 (by decide +kernel) (by decide +kernel)
theorem kAJ7_150 : Cond.methodLink RJ7 150 arraycopyName ∈ ob_tb := ob_in 454 (by decide +kernel) (by decide +kernel)
theorem kMmaxs : Cond.static Lib.Math.max.name ∈ ob_tb := ob_in 71 (by decide +kernel) (by decide +kernel)
theorem kMmaxc : Cond.code Lib.Math.max.name Lib.Math.max.code 2 (some .int) ∈ ob_tb := ob_in 72 (by decide +kernel) (by decide +kernel)
theorem kMmaxX5_144 : Cond.methodLink RX5 144 Lib.Math.max.name ∈ ob_tb := ob_in 70 (by decide +kernel) (by decide +kernel)
theorem kMmaxX1_97 : Cond.methodLink RX1 97 Lib.Math.max.name ∈ ob_tb := ob_in 442 (by decide +kernel) (by decide +kernel)
theorem kMmins : Cond.static Lib.Math.min.name ∈ ob_tb := ob_in 68 (by decide +kernel) (by decide +kernel)
theorem kMminc : Cond.code Lib.Math.min.name Lib.Math.min.code 2 (some .int) ∈ ob_tb := ob_in 69 (by decide +kernel) (by decide +kernel)
theorem kMminX5_151 : Cond.methodLink RX5 151 Lib.Math.min.name ∈ ob_tb := ob_in 67 (by decide +kernel) (by decide +kernel)
theorem kMminX1_15 : Cond.methodLink RX1 15 Lib.Math.min.name ∈ ob_tb := ob_in 79 (by decide +kernel) (by decide +kernel)
theorem kMminX4_104 : Cond.methodLink RX4 104 Lib.Math.min.name ∈ ob_tb := ob_in 273 (by decide +kernel) (by decide +kernel)
theorem kMminJ7_304 : Cond.methodLink RJ7 304 Lib.Math.min.name ∈ ob_tb := ob_in 453 (by decide +kernel) (by decide +kernel)
theorem kMi : Cond.initialized "java/lang/Math" ∈ ob_tb := ob_in 39 (by decide +kernel) (by decide +kernel)
end
section
/-! decode rows, by program -/
theorem dX0_init_0 : decode cX0_init 0 = .ok (.aload_n 0, 1) := by decide +kernel
theorem dX0_init_1 : decode cX0_init 1 = .ok (.invokespecial 1, 3) := by decide +kernel
theorem dX0_init_4 : decode cX0_init 4 = .ok (.aload_n 0, 1) := by decide +kernel
theorem dX0_init_5 : decode cX0_init 5 = .ok (.iload_n 1, 1) := by decide +kernel
theorem dX0_init_6 : decode cX0_init 6 = .ok (.putfield 7, 3) := by decide +kernel
theorem dX0_init_9 : decode cX0_init 9 = .ok (.aload_n 0, 1) := by decide +kernel
theorem dX0_init_10 : decode cX0_init 10 = .ok (.iload_n 2, 1) := by decide +kernel
theorem dX0_init_11 : decode cX0_init 11 = .ok (.putfield 13, 3) := by decide +kernel
theorem dX0_init_14 : decode cX0_init 14 = .ok (.return_, 1) := by decide +kernel
theorem dX2_init_0 : decode cX2_init 0 = .ok (.aload_n 0, 1) := by decide +kernel
theorem dX2_init_1 : decode cX2_init 1 = .ok (.invokespecial 3, 3) := by decide +kernel
theorem dX2_init_4 : decode cX2_init 4 = .ok (.aload_n 0, 1) := by decide +kernel
theorem dX2_init_5 : decode cX2_init 5 = .ok (.iload_n 1, 1) := by decide +kernel
theorem dX2_init_6 : decode cX2_init 6 = .ok (.putfield 9, 3) := by decide +kernel
theorem dX2_init_9 : decode cX2_init 9 = .ok (.return_, 1) := by decide +kernel
theorem dX2_child_0 : decode cX2_child 0 = .ok (.iload_n 1, 1) := by decide +kernel
theorem dX2_child_1 : decode cX2_child 1 = .ok (.ifCond .ne 10, 3) := by decide +kernel
theorem dX2_child_4 : decode cX2_child 4 = .ok (.aload_n 0, 1) := by decide +kernel
theorem dX2_child_5 : decode cX2_child 5 = .ok (.getfield 15, 3) := by decide +kernel
theorem dX2_child_8 : decode cX2_child 8 = .ok (.goto 7, 3) := by decide +kernel
theorem dX2_child_11 : decode cX2_child 11 = .ok (.aload_n 0, 1) := by decide +kernel
theorem dX2_child_12 : decode cX2_child 12 = .ok (.getfield 19, 3) := by decide +kernel
theorem dX2_child_15 : decode cX2_child 15 = .ok (.areturn, 1) := by decide +kernel
theorem dX2_setChild_0 : decode cX2_setChild 0 = .ok (.iload_n 1, 1) := by decide +kernel
theorem dX2_setChild_1 : decode cX2_setChild 1 = .ok (.ifCond .ne 11, 3) := by decide +kernel
theorem dX2_setChild_4 : decode cX2_setChild 4 = .ok (.aload_n 0, 1) := by decide +kernel
theorem dX2_setChild_5 : decode cX2_setChild 5 = .ok (.aload_n 2, 1) := by decide +kernel
theorem dX2_setChild_6 : decode cX2_setChild 6 = .ok (.putfield 15, 3) := by decide +kernel
theorem dX2_setChild_9 : decode cX2_setChild 9 = .ok (.goto 8, 3) := by decide +kernel
theorem dX2_setChild_12 : decode cX2_setChild 12 = .ok (.aload_n 0, 1) := by decide +kernel
theorem dX2_setChild_13 : decode cX2_setChild 13 = .ok (.aload_n 2, 1) := by decide +kernel
theorem dX2_setChild_14 : decode cX2_setChild 14 = .ok (.putfield 19, 3) := by decide +kernel
theorem dX2_setChild_17 : decode cX2_setChild 17 = .ok (.return_, 1) := by decide +kernel
theorem dX2_sideOf_0 : decode cX2_sideOf 0 = .ok (.aload_n 1, 1) := by decide +kernel
theorem dX2_sideOf_1 : decode cX2_sideOf 1 = .ok (.aload_n 0, 1) := by decide +kernel
theorem dX2_sideOf_2 : decode cX2_sideOf 2 = .ok (.getfield 15, 3) := by decide +kernel
theorem dX2_sideOf_5 : decode cX2_sideOf 5 = .ok (.if_acmp .ne 7, 3) := by decide +kernel
theorem dX2_sideOf_8 : decode cX2_sideOf 8 = .ok (.iconst 0, 1) := by decide +kernel
theorem dX2_sideOf_9 : decode cX2_sideOf 9 = .ok (.goto 4, 3) := by decide +kernel
theorem dX2_sideOf_12 : decode cX2_sideOf 12 = .ok (.iconst 1, 1) := by decide +kernel
theorem dX2_sideOf_13 : decode cX2_sideOf 13 = .ok (.ireturn, 1) := by decide +kernel
theorem dX3_init_0 : decode cX3_init 0 = .ok (.aload_n 0, 1) := by decide +kernel
theorem dX3_init_1 : decode cX3_init 1 = .ok (.invokespecial 1, 3) := by decide +kernel
theorem dX3_init_4 : decode cX3_init 4 = .ok (.aload_n 0, 1) := by decide +kernel
theorem dX3_init_5 : decode cX3_init 5 = .ok (.iload_n 1, 1) := by decide +kernel
theorem dX3_init_6 : decode cX3_init 6 = .ok (.newarray .byte, 2) := by decide +kernel
theorem dX3_init_8 : decode cX3_init 8 = .ok (.putfield 7, 3) := by decide +kernel
theorem dX3_init_11 : decode cX3_init 11 = .ok (.return_, 1) := by decide +kernel
theorem dX3_append_0 : decode cX3_append 0 = .ok (.aload_n 0, 1) := by decide +kernel
theorem dX3_append_1 : decode cX3_append 1 = .ok (.getfield 13, 3) := by decide +kernel
theorem dX3_append_4 : decode cX3_append 4 = .ok (.aload_n 0, 1) := by decide +kernel
theorem dX3_append_5 : decode cX3_append 5 = .ok (.getfield 7, 3) := by decide +kernel
theorem dX3_append_8 : decode cX3_append 8 = .ok (.arraylength, 1) := by decide +kernel
theorem dX3_append_9 : decode cX3_append 9 = .ok (.if_icmp .ge 23, 3) := by decide +kernel
theorem dX3_append_12 : decode cX3_append 12 = .ok (.aload_n 0, 1) := by decide +kernel
theorem dX3_append_13 : decode cX3_append 13 = .ok (.getfield 7, 3) := by decide +kernel
theorem dX3_append_16 : decode cX3_append 16 = .ok (.aload_n 0, 1) := by decide +kernel
theorem dX3_append_17 : decode cX3_append 17 = .ok (.getfield 13, 3) := by decide +kernel
theorem dX3_append_20 : decode cX3_append 20 = .ok (.iload_n 1, 1) := by decide +kernel
theorem dX3_append_21 : decode cX3_append 21 = .ok (.bastore, 1) := by decide +kernel
theorem dX3_append_22 : decode cX3_append 22 = .ok (.aload_n 0, 1) := by decide +kernel
theorem dX3_append_23 : decode cX3_append 23 = .ok (.dup, 1) := by decide +kernel
theorem dX3_append_24 : decode cX3_append 24 = .ok (.getfield 13, 3) := by decide +kernel
theorem dX3_append_27 : decode cX3_append 27 = .ok (.iconst 1, 1) := by decide +kernel
theorem dX3_append_28 : decode cX3_append 28 = .ok (.iadd, 1) := by decide +kernel
theorem dX3_append_29 : decode cX3_append 29 = .ok (.putfield 13, 3) := by decide +kernel
theorem dX3_append_32 : decode cX3_append 32 = .ok (.return_, 1) := by decide +kernel
end
section
/-! decode rows, by program -/
theorem dX1_init_0 : decode cX1_init 0 = .ok (.aload_n 0, 1) := by decide +kernel
theorem dX1_init_1 : decode cX1_init 1 = .ok (.invokespecial 3, 3) := by decide +kernel
theorem dX1_init_4 : decode cX1_init 4 = .ok (.aload_n 0, 1) := by decide +kernel
theorem dX1_init_5 : decode cX1_init 5 = .ok (.iload_n 1, 1) := by decide +kernel
theorem dX1_init_6 : decode cX1_init 6 = .ok (.putfield 9, 3) := by decide +kernel
theorem dX1_init_9 : decode cX1_init 9 = .ok (.aload_n 0, 1) := by decide +kernel
theorem dX1_init_10 : decode cX1_init 10 = .ok (.iload_n 1, 1) := by decide +kernel
theorem dX1_init_11 : decode cX1_init 11 = .ok (.bipush 16, 2) := by decide +kernel
theorem dX1_init_13 : decode cX1_init 13 = .ok (.invokestatic 15, 3) := by decide +kernel
theorem dX1_init_16 : decode cX1_init 16 = .ok (.putfield 21, 3) := by decide +kernel
theorem dX1_init_19 : decode cX1_init 19 = .ok (.aload_n 0, 1) := by decide +kernel
theorem dX1_init_20 : decode cX1_init 20 = .ok (.aload_n 0, 1) := by decide +kernel
theorem dX1_init_21 : decode cX1_init 21 = .ok (.getfield 21, 3) := by decide +kernel
theorem dX1_init_24 : decode cX1_init 24 = .ok (.bipush 16, 2) := by decide +kernel
theorem dX1_init_26 : decode cX1_init 26 = .ok (.imul, 1) := by decide +kernel
theorem dX1_init_27 : decode cX1_init 27 = .ok (.newarray .byte, 2) := by decide +kernel
theorem dX1_init_29 : decode cX1_init 29 = .ok (.putfield 24, 3) := by decide +kernel
theorem dX1_init_32 : decode cX1_init 32 = .ok (.aload_n 0, 1) := by decide +kernel
theorem dX1_init_33 : decode cX1_init 33 = .ok (.new 28, 3) := by decide +kernel
theorem dX1_init_36 : decode cX1_init 36 = .ok (.dup, 1) := by decide +kernel
theorem dX1_init_37 : decode cX1_init 37 = .ok (.iconst 0, 1) := by decide +kernel
theorem dX1_init_38 : decode cX1_init 38 = .ok (.iconst 0, 1) := by decide +kernel
theorem dX1_init_39 : decode cX1_init 39 = .ok (.invokespecial 30, 3) := by decide +kernel
theorem dX1_init_42 : decode cX1_init 42 = .ok (.putfield 33, 3) := by decide +kernel
theorem dX1_init_45 : decode cX1_init 45 = .ok (.aload_n 0, 1) := by decide +kernel
theorem dX1_init_46 : decode cX1_init 46 = .ok (.getfield 33, 3) := by decide +kernel
theorem dX1_init_49 : decode cX1_init 49 = .ok (.new 28, 3) := by decide +kernel
theorem dX1_init_52 : decode cX1_init 52 = .ok (.dup, 1) := by decide +kernel
theorem dX1_init_53 : decode cX1_init 53 = .ok (.iconst 0, 1) := by decide +kernel
theorem dX1_init_54 : decode cX1_init 54 = .ok (.aload_n 0, 1) := by decide +kernel
theorem dX1_init_55 : decode cX1_init 55 = .ok (.getfield 21, 3) := by decide +kernel
theorem dX1_init_58 : decode cX1_init 58 = .ok (.invokespecial 30, 3) := by decide +kernel
theorem dX1_init_61 : decode cX1_init 61 = .ok (.putfield 37, 3) := by decide +kernel
theorem dX1_init_64 : decode cX1_init 64 = .ok (.return_, 1) := by decide +kernel
theorem dX1_take_0 : decode cX1_take 0 = .ok (.aload_n 0, 1) := by decide +kernel
theorem dX1_take_1 : decode cX1_take 1 = .ok (.iload_n 2, 1) := by decide +kernel
theorem dX1_take_2 : decode cX1_take 2 = .ok (.invokevirtual 40, 3) := by decide +kernel
theorem dX1_take_5 : decode cX1_take 5 = .ok (.astore_n 3, 1) := by decide +kernel
theorem dX1_take_6 : decode cX1_take 6 = .ok (.aload_n 3, 1) := by decide +kernel
theorem dX1_take_7 : decode cX1_take 7 = .ok (.ifnonnull 32, 3) := by decide +kernel
theorem dX1_take_10 : decode cX1_take 10 = .ok (.aload_n 0, 1) := by decide +kernel
theorem dX1_take_11 : decode cX1_take 11 = .ok (.getfield 21, 3) := by decide +kernel
theorem dX1_take_14 : decode cX1_take 14 = .ok (.aload_n 0, 1) := by decide +kernel
theorem dX1_take_15 : decode cX1_take 15 = .ok (.getfield 44, 3) := by decide +kernel
theorem dX1_take_18 : decode cX1_take 18 = .ok (.isub, 1) := by decide +kernel
theorem dX1_take_19 : decode cX1_take 19 = .ok (.iload_n 2, 1) := by decide +kernel
theorem dX1_take_20 : decode cX1_take 20 = .ok (.if_icmp .ge 19, 3) := by decide +kernel
theorem dX1_take_23 : decode cX1_take 23 = .ok (.aload_n 0, 1) := by decide +kernel
theorem dX1_take_24 : decode cX1_take 24 = .ok (.aload_n 0, 1) := by decide +kernel
theorem dX1_take_25 : decode cX1_take 25 = .ok (.getfield 44, 3) := by decide +kernel
theorem dX1_take_28 : decode cX1_take 28 = .ok (.iload_n 2, 1) := by decide +kernel
theorem dX1_take_29 : decode cX1_take 29 = .ok (.iadd, 1) := by decide +kernel
theorem dX1_take_30 : decode cX1_take 30 = .ok (.invokevirtual 47, 3) := by decide +kernel
theorem dX1_take_33 : decode cX1_take 33 = .ok (.aload_n 0, 1) := by decide +kernel
theorem dX1_take_34 : decode cX1_take 34 = .ok (.iload_n 2, 1) := by decide +kernel
theorem dX1_take_35 : decode cX1_take 35 = .ok (.invokevirtual 40, 3) := by decide +kernel
theorem dX1_take_38 : decode cX1_take 38 = .ok (.astore_n 3, 1) := by decide +kernel
theorem dX1_take_39 : decode cX1_take 39 = .ok (.aload_n 3, 1) := by decide +kernel
theorem dX1_take_40 : decode cX1_take 40 = .ok (.ifnonnull 8, 3) := by decide +kernel
theorem dX1_take_43 : decode cX1_take 43 = .ok (.aload_n 0, 1) := by decide +kernel
theorem dX1_take_44 : decode cX1_take 44 = .ok (.invokevirtual 51, 3) := by decide +kernel
theorem dX1_take_47 : decode cX1_take 47 = .ok (.astore_n 3, 1) := by decide +kernel
theorem dX1_take_48 : decode cX1_take 48 = .ok (.aload_n 3, 1) := by decide +kernel
theorem dX1_take_49 : decode cX1_take 49 = .ok (.iload_n 2, 1) := by decide +kernel
theorem dX1_take_50 : decode cX1_take 50 = .ok (.invokestatic 55, 3) := by decide +kernel
theorem dX1_take_53 : decode cX1_take 53 = .ok (.aload_n 3, 1) := by decide +kernel
theorem dX1_take_54 : decode cX1_take 54 = .ok (.aload_n 1, 1) := by decide +kernel
theorem dX1_take_55 : decode cX1_take 55 = .ok (.putfield 59, 3) := by decide +kernel
theorem dX1_take_58 : decode cX1_take 58 = .ok (.aload_n 0, 1) := by decide +kernel
theorem dX1_take_59 : decode cX1_take 59 = .ok (.dup, 1) := by decide +kernel
theorem dX1_take_60 : decode cX1_take 60 = .ok (.getfield 44, 3) := by decide +kernel
theorem dX1_take_63 : decode cX1_take 63 = .ok (.iload_n 2, 1) := by decide +kernel
theorem dX1_take_64 : decode cX1_take 64 = .ok (.iadd, 1) := by decide +kernel
theorem dX1_take_65 : decode cX1_take 65 = .ok (.putfield 44, 3) := by decide +kernel
theorem dX1_take_68 : decode cX1_take 68 = .ok (.aload_n 3, 1) := by decide +kernel
theorem dX1_take_69 : decode cX1_take 69 = .ok (.areturn, 1) := by decide +kernel
theorem dX1_giveBack_0 : decode cX1_giveBack 0 = .ok (.aload_n 1, 1) := by decide +kernel
theorem dX1_giveBack_1 : decode cX1_giveBack 1 = .ok (.aconst_null, 1) := by decide +kernel
theorem dX1_giveBack_2 : decode cX1_giveBack 2 = .ok (.putfield 59, 3) := by decide +kernel
theorem dX1_giveBack_5 : decode cX1_giveBack 5 = .ok (.aload_n 0, 1) := by decide +kernel
theorem dX1_giveBack_6 : decode cX1_giveBack 6 = .ok (.dup, 1) := by decide +kernel
theorem dX1_giveBack_7 : decode cX1_giveBack 7 = .ok (.getfield 44, 3) := by decide +kernel
theorem dX1_giveBack_10 : decode cX1_giveBack 10 = .ok (.aload_n 1, 1) := by decide +kernel
theorem dX1_giveBack_11 : decode cX1_giveBack 11 = .ok (.getfield 63, 3) := by decide +kernel
theorem dX1_giveBack_14 : decode cX1_giveBack 14 = .ok (.isub, 1) := by decide +kernel
theorem dX1_giveBack_15 : decode cX1_giveBack 15 = .ok (.putfield 44, 3) := by decide +kernel
theorem dX1_giveBack_18 : decode cX1_giveBack 18 = .ok (.return_, 1) := by decide +kernel
theorem dX1_empty_0 : decode cX1_empty 0 = .ok (.aload_n 0, 1) := by decide +kernel
theorem dX1_empty_1 : decode cX1_empty 1 = .ok (.getfield 33, 3) := by decide +kernel
theorem dX1_empty_4 : decode cX1_empty 4 = .ok (.new 28, 3) := by decide +kernel
theorem dX1_empty_7 : decode cX1_empty 7 = .ok (.dup, 1) := by decide +kernel
theorem dX1_empty_8 : decode cX1_empty 8 = .ok (.iconst 0, 1) := by decide +kernel
theorem dX1_empty_9 : decode cX1_empty 9 = .ok (.aload_n 0, 1) := by decide +kernel
theorem dX1_empty_10 : decode cX1_empty 10 = .ok (.getfield 21, 3) := by decide +kernel
theorem dX1_empty_13 : decode cX1_empty 13 = .ok (.invokespecial 30, 3) := by decide +kernel
theorem dX1_empty_16 : decode cX1_empty 16 = .ok (.putfield 37, 3) := by decide +kernel
theorem dX1_empty_19 : decode cX1_empty 19 = .ok (.aload_n 0, 1) := by decide +kernel
theorem dX1_empty_20 : decode cX1_empty 20 = .ok (.iconst 0, 1) := by decide +kernel
theorem dX1_empty_21 : decode cX1_empty 21 = .ok (.putfield 44, 3) := by decide +kernel
theorem dX1_empty_24 : decode cX1_empty 24 = .ok (.return_, 1) := by decide +kernel
theorem dX1_write_0 : decode cX1_write 0 = .ok (.aload_n 2, 1) := by decide +kernel
theorem dX1_write_1 : decode cX1_write 1 = .ok (.getfield 66, 3) := by decide +kernel
theorem dX1_write_4 : decode cX1_write 4 = .ok (.iconst 0, 1) := by decide +kernel
theorem dX1_write_5 : decode cX1_write 5 = .ok (.aload_n 0, 1) := by decide +kernel
theorem dX1_write_6 : decode cX1_write 6 = .ok (.getfield 24, 3) := by decide +kernel
theorem dX1_write_9 : decode cX1_write 9 = .ok (.aload_n 1, 1) := by decide +kernel
theorem dX1_write_10 : decode cX1_write 10 = .ok (.getfield 69, 3) := by decide +kernel
theorem dX1_write_13 : decode cX1_write 13 = .ok (.bipush 16, 2) := by decide +kernel
theorem dX1_write_15 : decode cX1_write 15 = .ok (.imul, 1) := by decide +kernel
theorem dX1_write_16 : decode cX1_write 16 = .ok (.iload_n 3, 1) := by decide +kernel
theorem dX1_write_17 : decode cX1_write 17 = .ok (.invokestatic 72, 3) := by decide +kernel
theorem dX1_write_20 : decode cX1_write 20 = .ok (.return_, 1) := by decide +kernel
theorem dX1_read_0 : decode cX1_read 0 = .ok (.aload_n 0, 1) := by decide +kernel
theorem dX1_read_1 : decode cX1_read 1 = .ok (.getfield 24, 3) := by decide +kernel
theorem dX1_read_4 : decode cX1_read 4 = .ok (.aload_n 1, 1) := by decide +kernel
theorem dX1_read_5 : decode cX1_read 5 = .ok (.getfield 69, 3) := by decide +kernel
theorem dX1_read_8 : decode cX1_read 8 = .ok (.bipush 16, 2) := by decide +kernel
theorem dX1_read_10 : decode cX1_read 10 = .ok (.imul, 1) := by decide +kernel
theorem dX1_read_11 : decode cX1_read 11 = .ok (.iload_n 2, 1) := by decide +kernel
theorem dX1_read_12 : decode cX1_read 12 = .ok (.iadd, 1) := by decide +kernel
theorem dX1_read_13 : decode cX1_read 13 = .ok (.aload 4, 2) := by decide +kernel
theorem dX1_read_15 : decode cX1_read 15 = .ok (.getfield 66, 3) := by decide +kernel
theorem dX1_read_18 : decode cX1_read 18 = .ok (.iconst 0, 1) := by decide +kernel
theorem dX1_read_19 : decode cX1_read 19 = .ok (.iload_n 3, 1) := by decide +kernel
theorem dX1_read_20 : decode cX1_read 20 = .ok (.invokestatic 72, 3) := by decide +kernel
theorem dX1_read_23 : decode cX1_read 23 = .ok (.aload 4, 2) := by decide +kernel
theorem dX1_read_25 : decode cX1_read 25 = .ok (.iload_n 3, 1) := by decide +kernel
theorem dX1_read_26 : decode cX1_read 26 = .ok (.putfield 78, 3) := by decide +kernel
theorem dX1_read_29 : decode cX1_read 29 = .ok (.return_, 1) := by decide +kernel
theorem dX1_compareRow_0 : decode cX1_compareRow 0 = .ok (.aload_n 0, 1) := by decide +kernel
theorem dX1_compareRow_1 : decode cX1_compareRow 1 = .ok (.aload_n 1, 1) := by decide +kernel
theorem dX1_compareRow_2 : decode cX1_compareRow 2 = .ok (.getfield 66, 3) := by decide +kernel
theorem dX1_compareRow_5 : decode cX1_compareRow 5 = .ok (.iconst 0, 1) := by decide +kernel
theorem dX1_compareRow_6 : decode cX1_compareRow 6 = .ok (.iload_n 2, 1) := by decide +kernel
theorem dX1_compareRow_7 : decode cX1_compareRow 7 = .ok (.aload_n 3, 1) := by decide +kernel
theorem dX1_compareRow_8 : decode cX1_compareRow 8 = .ok (.invokevirtual 81, 3) := by decide +kernel
theorem dX1_compareRow_11 : decode cX1_compareRow 11 = .ok (.ireturn, 1) := by decide +kernel
theorem dX1_compareNodes_0 : decode cX1_compareNodes 0 = .ok (.aload_n 0, 1) := by decide +kernel
theorem dX1_compareNodes_1 : decode cX1_compareNodes 1 = .ok (.aload_n 0, 1) := by decide +kernel
theorem dX1_compareNodes_2 : decode cX1_compareNodes 2 = .ok (.getfield 24, 3) := by decide +kernel
theorem dX1_compareNodes_5 : decode cX1_compareNodes 5 = .ok (.aload_n 1, 1) := by decide +kernel
theorem dX1_compareNodes_6 : decode cX1_compareNodes 6 = .ok (.getfield 85, 3) := by decide +kernel
theorem dX1_compareNodes_9 : decode cX1_compareNodes 9 = .ok (.getfield 69, 3) := by decide +kernel
theorem dX1_compareNodes_12 : decode cX1_compareNodes 12 = .ok (.bipush 16, 2) := by decide +kernel
theorem dX1_compareNodes_14 : decode cX1_compareNodes 14 = .ok (.imul, 1) := by decide +kernel
theorem dX1_compareNodes_15 : decode cX1_compareNodes 15 = .ok (.aload_n 1, 1) := by decide +kernel
theorem dX1_compareNodes_16 : decode cX1_compareNodes 16 = .ok (.getfield 90, 3) := by decide +kernel
theorem dX1_compareNodes_19 : decode cX1_compareNodes 19 = .ok (.aload_n 2, 1) := by decide +kernel
theorem dX1_compareNodes_20 : decode cX1_compareNodes 20 = .ok (.invokevirtual 81, 3) := by decide +kernel
theorem dX1_compareNodes_23 : decode cX1_compareNodes 23 = .ok (.ireturn, 1) := by decide +kernel
theorem dX1_compareBytes_0 : decode cX1_compareBytes 0 = .ok (.aload 4, 2) := by decide +kernel
theorem dX1_compareBytes_2 : decode cX1_compareBytes 2 = .ok (.getfield 85, 3) := by decide +kernel
theorem dX1_compareBytes_5 : decode cX1_compareBytes 5 = .ok (.getfield 69, 3) := by decide +kernel
theorem dX1_compareBytes_8 : decode cX1_compareBytes 8 = .ok (.bipush 16, 2) := by decide +kernel
theorem dX1_compareBytes_10 : decode cX1_compareBytes 10 = .ok (.imul, 1) := by decide +kernel
theorem dX1_compareBytes_11 : decode cX1_compareBytes 11 = .ok (.istore 5, 2) := by decide +kernel
theorem dX1_compareBytes_13 : decode cX1_compareBytes 13 = .ok (.iload_n 3, 1) := by decide +kernel
theorem dX1_compareBytes_14 : decode cX1_compareBytes 14 = .ok (.aload 4, 2) := by decide +kernel
theorem dX1_compareBytes_16 : decode cX1_compareBytes 16 = .ok (.getfield 90, 3) := by decide +kernel
theorem dX1_compareBytes_19 : decode cX1_compareBytes 19 = .ok (.invokestatic 15, 3) := by decide +kernel
theorem dX1_compareBytes_22 : decode cX1_compareBytes 22 = .ok (.istore 6, 2) := by decide +kernel
theorem dX1_compareBytes_24 : decode cX1_compareBytes 24 = .ok (.iconst 0, 1) := by decide +kernel
theorem dX1_compareBytes_25 : decode cX1_compareBytes 25 = .ok (.istore 7, 2) := by decide +kernel
theorem dX1_compareBytes_27 : decode cX1_compareBytes 27 = .ok (.iload 7, 2) := by decide +kernel
theorem dX1_compareBytes_29 : decode cX1_compareBytes 29 = .ok (.iload 6, 2) := by decide +kernel
theorem dX1_compareBytes_31 : decode cX1_compareBytes 31 = .ok (.if_icmp .ge 44, 3) := by decide +kernel
theorem dX1_compareBytes_34 : decode cX1_compareBytes 34 = .ok (.aload_n 1, 1) := by decide +kernel
theorem dX1_compareBytes_35 : decode cX1_compareBytes 35 = .ok (.iload_n 2, 1) := by decide +kernel
theorem dX1_compareBytes_36 : decode cX1_compareBytes 36 = .ok (.iload 7, 2) := by decide +kernel
theorem dX1_compareBytes_38 : decode cX1_compareBytes 38 = .ok (.iadd, 1) := by decide +kernel
theorem dX1_compareBytes_39 : decode cX1_compareBytes 39 = .ok (.baload, 1) := by decide +kernel
theorem dX1_compareBytes_40 : decode cX1_compareBytes 40 = .ok (.sipush 255, 3) := by decide +kernel
theorem dX1_compareBytes_43 : decode cX1_compareBytes 43 = .ok (.iand, 1) := by decide +kernel
theorem dX1_compareBytes_44 : decode cX1_compareBytes 44 = .ok (.aload_n 0, 1) := by decide +kernel
theorem dX1_compareBytes_45 : decode cX1_compareBytes 45 = .ok (.getfield 24, 3) := by decide +kernel
theorem dX1_compareBytes_48 : decode cX1_compareBytes 48 = .ok (.iload 5, 2) := by decide +kernel
theorem dX1_compareBytes_50 : decode cX1_compareBytes 50 = .ok (.iload 7, 2) := by decide +kernel
theorem dX1_compareBytes_52 : decode cX1_compareBytes 52 = .ok (.iadd, 1) := by decide +kernel
theorem dX1_compareBytes_53 : decode cX1_compareBytes 53 = .ok (.baload, 1) := by decide +kernel
theorem dX1_compareBytes_54 : decode cX1_compareBytes 54 = .ok (.sipush 255, 3) := by decide +kernel
theorem dX1_compareBytes_57 : decode cX1_compareBytes 57 = .ok (.iand, 1) := by decide +kernel
theorem dX1_compareBytes_58 : decode cX1_compareBytes 58 = .ok (.isub, 1) := by decide +kernel
theorem dX1_compareBytes_59 : decode cX1_compareBytes 59 = .ok (.istore 8, 2) := by decide +kernel
theorem dX1_compareBytes_61 : decode cX1_compareBytes 61 = .ok (.iload 8, 2) := by decide +kernel
theorem dX1_compareBytes_63 : decode cX1_compareBytes 63 = .ok (.ifCond .eq 6, 3) := by decide +kernel
theorem dX1_compareBytes_66 : decode cX1_compareBytes 66 = .ok (.iload 8, 2) := by decide +kernel
theorem dX1_compareBytes_68 : decode cX1_compareBytes 68 = .ok (.ireturn, 1) := by decide +kernel
theorem dX1_compareBytes_69 : decode cX1_compareBytes 69 = .ok (.iinc 7 1, 3) := by decide +kernel
theorem dX1_compareBytes_72 : decode cX1_compareBytes 72 = .ok (.goto (-45), 3) := by decide +kernel
theorem dX1_compareBytes_75 : decode cX1_compareBytes 75 = .ok (.iload_n 3, 1) := by decide +kernel
theorem dX1_compareBytes_76 : decode cX1_compareBytes 76 = .ok (.aload 4, 2) := by decide +kernel
theorem dX1_compareBytes_78 : decode cX1_compareBytes 78 = .ok (.getfield 90, 3) := by decide +kernel
theorem dX1_compareBytes_81 : decode cX1_compareBytes 81 = .ok (.isub, 1) := by decide +kernel
theorem dX1_compareBytes_82 : decode cX1_compareBytes 82 = .ok (.ireturn, 1) := by decide +kernel
theorem dX1_firstFit_0 : decode cX1_firstFit 0 = .ok (.aload_n 0, 1) := by decide +kernel
theorem dX1_firstFit_1 : decode cX1_firstFit 1 = .ok (.getfield 33, 3) := by decide +kernel
theorem dX1_firstFit_4 : decode cX1_firstFit 4 = .ok (.getfield 37, 3) := by decide +kernel
theorem dX1_firstFit_7 : decode cX1_firstFit 7 = .ok (.astore_n 2, 1) := by decide +kernel
theorem dX1_firstFit_8 : decode cX1_firstFit 8 = .ok (.aload_n 2, 1) := by decide +kernel
theorem dX1_firstFit_9 : decode cX1_firstFit 9 = .ok (.ifnull 32, 3) := by decide +kernel
theorem dX1_firstFit_12 : decode cX1_firstFit 12 = .ok (.aload_n 2, 1) := by decide +kernel
theorem dX1_firstFit_13 : decode cX1_firstFit 13 = .ok (.getfield 59, 3) := by decide +kernel
theorem dX1_firstFit_16 : decode cX1_firstFit 16 = .ok (.ifnonnull 17, 3) := by decide +kernel
theorem dX1_firstFit_19 : decode cX1_firstFit 19 = .ok (.aload_n 2, 1) := by decide +kernel
theorem dX1_firstFit_20 : decode cX1_firstFit 20 = .ok (.invokestatic 93, 3) := by decide +kernel
theorem dX1_firstFit_23 : decode cX1_firstFit 23 = .ok (.aload_n 2, 1) := by decide +kernel
theorem dX1_firstFit_24 : decode cX1_firstFit 24 = .ok (.getfield 63, 3) := by decide +kernel
theorem dX1_firstFit_27 : decode cX1_firstFit 27 = .ok (.iload_n 1, 1) := by decide +kernel
theorem dX1_firstFit_28 : decode cX1_firstFit 28 = .ok (.if_icmp .lt 5, 3) := by decide +kernel
theorem dX1_firstFit_31 : decode cX1_firstFit 31 = .ok (.aload_n 2, 1) := by decide +kernel
theorem dX1_firstFit_32 : decode cX1_firstFit 32 = .ok (.areturn, 1) := by decide +kernel
theorem dX1_firstFit_33 : decode cX1_firstFit 33 = .ok (.aload_n 2, 1) := by decide +kernel
theorem dX1_firstFit_34 : decode cX1_firstFit 34 = .ok (.getfield 37, 3) := by decide +kernel
theorem dX1_firstFit_37 : decode cX1_firstFit 37 = .ok (.astore_n 2, 1) := by decide +kernel
theorem dX1_firstFit_38 : decode cX1_firstFit 38 = .ok (.goto (-30), 3) := by decide +kernel
theorem dX1_firstFit_41 : decode cX1_firstFit 41 = .ok (.aconst_null, 1) := by decide +kernel
theorem dX1_firstFit_42 : decode cX1_firstFit 42 = .ok (.areturn, 1) := by decide +kernel
theorem dX1_joinFreeOnes_0 : decode cX1_joinFreeOnes 0 = .ok (.aload_n 0, 1) := by decide +kernel
theorem dX1_joinFreeOnes_1 : decode cX1_joinFreeOnes 1 = .ok (.getfield 37, 3) := by decide +kernel
theorem dX1_joinFreeOnes_4 : decode cX1_joinFreeOnes 4 = .ok (.astore_n 1, 1) := by decide +kernel
theorem dX1_joinFreeOnes_5 : decode cX1_joinFreeOnes 5 = .ok (.aload_n 1, 1) := by decide +kernel
theorem dX1_joinFreeOnes_6 : decode cX1_joinFreeOnes 6 = .ok (.ifnull 31, 3) := by decide +kernel
theorem dX1_joinFreeOnes_9 : decode cX1_joinFreeOnes 9 = .ok (.aload_n 1, 1) := by decide +kernel
theorem dX1_joinFreeOnes_10 : decode cX1_joinFreeOnes 10 = .ok (.getfield 59, 3) := by decide +kernel
theorem dX1_joinFreeOnes_13 : decode cX1_joinFreeOnes 13 = .ok (.ifnonnull 24, 3) := by decide +kernel
theorem dX1_joinFreeOnes_16 : decode cX1_joinFreeOnes 16 = .ok (.aload_n 0, 1) := by decide +kernel
theorem dX1_joinFreeOnes_17 : decode cX1_joinFreeOnes 17 = .ok (.dup, 1) := by decide +kernel
theorem dX1_joinFreeOnes_18 : decode cX1_joinFreeOnes 18 = .ok (.getfield 63, 3) := by decide +kernel
theorem dX1_joinFreeOnes_21 : decode cX1_joinFreeOnes 21 = .ok (.aload_n 1, 1) := by decide +kernel
theorem dX1_joinFreeOnes_22 : decode cX1_joinFreeOnes 22 = .ok (.getfield 63, 3) := by decide +kernel
theorem dX1_joinFreeOnes_25 : decode cX1_joinFreeOnes 25 = .ok (.iadd, 1) := by decide +kernel
theorem dX1_joinFreeOnes_26 : decode cX1_joinFreeOnes 26 = .ok (.putfield 63, 3) := by decide +kernel
theorem dX1_joinFreeOnes_29 : decode cX1_joinFreeOnes 29 = .ok (.aload_n 1, 1) := by decide +kernel
theorem dX1_joinFreeOnes_30 : decode cX1_joinFreeOnes 30 = .ok (.getfield 37, 3) := by decide +kernel
theorem dX1_joinFreeOnes_33 : decode cX1_joinFreeOnes 33 = .ok (.astore_n 1, 1) := by decide +kernel
theorem dX1_joinFreeOnes_34 : decode cX1_joinFreeOnes 34 = .ok (.goto (-29), 3) := by decide +kernel
theorem dX1_joinFreeOnes_37 : decode cX1_joinFreeOnes 37 = .ok (.aload_n 0, 1) := by decide +kernel
theorem dX1_joinFreeOnes_38 : decode cX1_joinFreeOnes 38 = .ok (.aload_n 1, 1) := by decide +kernel
theorem dX1_joinFreeOnes_39 : decode cX1_joinFreeOnes 39 = .ok (.putfield 37, 3) := by decide +kernel
theorem dX1_joinFreeOnes_42 : decode cX1_joinFreeOnes 42 = .ok (.return_, 1) := by decide +kernel
theorem dX1_cut_0 : decode cX1_cut 0 = .ok (.aload_n 0, 1) := by decide +kernel
theorem dX1_cut_1 : decode cX1_cut 1 = .ok (.getfield 63, 3) := by decide +kernel
theorem dX1_cut_4 : decode cX1_cut 4 = .ok (.iload_n 1, 1) := by decide +kernel
theorem dX1_cut_5 : decode cX1_cut 5 = .ok (.if_icmp .le 41, 3) := by decide +kernel
theorem dX1_cut_8 : decode cX1_cut 8 = .ok (.new 28, 3) := by decide +kernel
theorem dX1_cut_11 : decode cX1_cut 11 = .ok (.dup, 1) := by decide +kernel
theorem dX1_cut_12 : decode cX1_cut 12 = .ok (.aload_n 0, 1) := by decide +kernel
theorem dX1_cut_13 : decode cX1_cut 13 = .ok (.getfield 69, 3) := by decide +kernel
theorem dX1_cut_16 : decode cX1_cut 16 = .ok (.iload_n 1, 1) := by decide +kernel
theorem dX1_cut_17 : decode cX1_cut 17 = .ok (.iadd, 1) := by decide +kernel
theorem dX1_cut_18 : decode cX1_cut 18 = .ok (.aload_n 0, 1) := by decide +kernel
theorem dX1_cut_19 : decode cX1_cut 19 = .ok (.getfield 63, 3) := by decide +kernel
theorem dX1_cut_22 : decode cX1_cut 22 = .ok (.iload_n 1, 1) := by decide +kernel
theorem dX1_cut_23 : decode cX1_cut 23 = .ok (.isub, 1) := by decide +kernel
theorem dX1_cut_24 : decode cX1_cut 24 = .ok (.invokespecial 30, 3) := by decide +kernel
theorem dX1_cut_27 : decode cX1_cut 27 = .ok (.astore_n 2, 1) := by decide +kernel
theorem dX1_cut_28 : decode cX1_cut 28 = .ok (.aload_n 2, 1) := by decide +kernel
theorem dX1_cut_29 : decode cX1_cut 29 = .ok (.aload_n 0, 1) := by decide +kernel
theorem dX1_cut_30 : decode cX1_cut 30 = .ok (.getfield 37, 3) := by decide +kernel
theorem dX1_cut_33 : decode cX1_cut 33 = .ok (.putfield 37, 3) := by decide +kernel
theorem dX1_cut_36 : decode cX1_cut 36 = .ok (.aload_n 0, 1) := by decide +kernel
theorem dX1_cut_37 : decode cX1_cut 37 = .ok (.aload_n 2, 1) := by decide +kernel
theorem dX1_cut_38 : decode cX1_cut 38 = .ok (.putfield 37, 3) := by decide +kernel
theorem dX1_cut_41 : decode cX1_cut 41 = .ok (.aload_n 0, 1) := by decide +kernel
theorem dX1_cut_42 : decode cX1_cut 42 = .ok (.iload_n 1, 1) := by decide +kernel
theorem dX1_cut_43 : decode cX1_cut 43 = .ok (.putfield 63, 3) := by decide +kernel
theorem dX1_cut_46 : decode cX1_cut 46 = .ok (.return_, 1) := by decide +kernel
theorem dX1_grow_0 : decode cX1_grow 0 = .ok (.aload_n 0, 1) := by decide +kernel
theorem dX1_grow_1 : decode cX1_grow 1 = .ok (.getfield 9, 3) := by decide +kernel
theorem dX1_grow_4 : decode cX1_grow 4 = .ok (.iload_n 1, 1) := by decide +kernel
theorem dX1_grow_5 : decode cX1_grow 5 = .ok (.iconst 2, 1) := by decide +kernel
theorem dX1_grow_6 : decode cX1_grow 6 = .ok (.aload_n 0, 1) := by decide +kernel
theorem dX1_grow_7 : decode cX1_grow 7 = .ok (.getfield 21, 3) := by decide +kernel
theorem dX1_grow_10 : decode cX1_grow 10 = .ok (.imul, 1) := by decide +kernel
theorem dX1_grow_11 : decode cX1_grow 11 = .ok (.invokestatic 97, 3) := by decide +kernel
theorem dX1_grow_14 : decode cX1_grow 14 = .ok (.invokestatic 15, 3) := by decide +kernel
theorem dX1_grow_17 : decode cX1_grow 17 = .ok (.istore_n 2, 1) := by decide +kernel
theorem dX1_grow_18 : decode cX1_grow 18 = .ok (.aload_n 0, 1) := by decide +kernel
theorem dX1_grow_19 : decode cX1_grow 19 = .ok (.getfield 33, 3) := by decide +kernel
theorem dX1_grow_22 : decode cX1_grow 22 = .ok (.astore_n 3, 1) := by decide +kernel
theorem dX1_grow_23 : decode cX1_grow 23 = .ok (.aload_n 3, 1) := by decide +kernel
theorem dX1_grow_24 : decode cX1_grow 24 = .ok (.getfield 37, 3) := by decide +kernel
theorem dX1_grow_27 : decode cX1_grow 27 = .ok (.ifnull 11, 3) := by decide +kernel
theorem dX1_grow_30 : decode cX1_grow 30 = .ok (.aload_n 3, 1) := by decide +kernel
theorem dX1_grow_31 : decode cX1_grow 31 = .ok (.getfield 37, 3) := by decide +kernel
theorem dX1_grow_34 : decode cX1_grow 34 = .ok (.astore_n 3, 1) := by decide +kernel
theorem dX1_grow_35 : decode cX1_grow 35 = .ok (.goto (-12), 3) := by decide +kernel
theorem dX1_grow_38 : decode cX1_grow 38 = .ok (.aload_n 3, 1) := by decide +kernel
theorem dX1_grow_39 : decode cX1_grow 39 = .ok (.new 28, 3) := by decide +kernel
theorem dX1_grow_42 : decode cX1_grow 42 = .ok (.dup, 1) := by decide +kernel
theorem dX1_grow_43 : decode cX1_grow 43 = .ok (.aload_n 0, 1) := by decide +kernel
theorem dX1_grow_44 : decode cX1_grow 44 = .ok (.getfield 21, 3) := by decide +kernel
theorem dX1_grow_47 : decode cX1_grow 47 = .ok (.iload_n 2, 1) := by decide +kernel
theorem dX1_grow_48 : decode cX1_grow 48 = .ok (.aload_n 0, 1) := by decide +kernel
theorem dX1_grow_49 : decode cX1_grow 49 = .ok (.getfield 21, 3) := by decide +kernel
theorem dX1_grow_52 : decode cX1_grow 52 = .ok (.isub, 1) := by decide +kernel
theorem dX1_grow_53 : decode cX1_grow 53 = .ok (.invokespecial 30, 3) := by decide +kernel
theorem dX1_grow_56 : decode cX1_grow 56 = .ok (.putfield 37, 3) := by decide +kernel
theorem dX1_grow_59 : decode cX1_grow 59 = .ok (.aload_n 0, 1) := by decide +kernel
theorem dX1_grow_60 : decode cX1_grow 60 = .ok (.aload_n 0, 1) := by decide +kernel
theorem dX1_grow_61 : decode cX1_grow 61 = .ok (.getfield 24, 3) := by decide +kernel
theorem dX1_grow_64 : decode cX1_grow 64 = .ok (.iload_n 2, 1) := by decide +kernel
theorem dX1_grow_65 : decode cX1_grow 65 = .ok (.bipush 16, 2) := by decide +kernel
theorem dX1_grow_67 : decode cX1_grow 67 = .ok (.imul, 1) := by decide +kernel
theorem dX1_grow_68 : decode cX1_grow 68 = .ok (.invokestatic 100, 3) := by decide +kernel
theorem dX1_grow_71 : decode cX1_grow 71 = .ok (.putfield 24, 3) := by decide +kernel
theorem dX1_grow_74 : decode cX1_grow 74 = .ok (.aload_n 0, 1) := by decide +kernel
theorem dX1_grow_75 : decode cX1_grow 75 = .ok (.iload_n 2, 1) := by decide +kernel
theorem dX1_grow_76 : decode cX1_grow 76 = .ok (.putfield 21, 3) := by decide +kernel
theorem dX1_grow_79 : decode cX1_grow 79 = .ok (.return_, 1) := by decide +kernel
theorem dX1_pushTogether_0 : decode cX1_pushTogether 0 = .ok (.iconst 0, 1) := by decide +kernel
theorem dX1_pushTogether_1 : decode cX1_pushTogether 1 = .ok (.istore_n 1, 1) := by decide +kernel
theorem dX1_pushTogether_2 : decode cX1_pushTogether 2 = .ok (.aload_n 0, 1) := by decide +kernel
theorem dX1_pushTogether_3 : decode cX1_pushTogether 3 = .ok (.getfield 33, 3) := by decide +kernel
theorem dX1_pushTogether_6 : decode cX1_pushTogether 6 = .ok (.astore_n 2, 1) := by decide +kernel
theorem dX1_pushTogether_7 : decode cX1_pushTogether 7 = .ok (.aload_n 0, 1) := by decide +kernel
theorem dX1_pushTogether_8 : decode cX1_pushTogether 8 = .ok (.getfield 33, 3) := by decide +kernel
theorem dX1_pushTogether_11 : decode cX1_pushTogether 11 = .ok (.getfield 37, 3) := by decide +kernel
theorem dX1_pushTogether_14 : decode cX1_pushTogether 14 = .ok (.astore_n 3, 1) := by decide +kernel
theorem dX1_pushTogether_15 : decode cX1_pushTogether 15 = .ok (.aload_n 3, 1) := by decide +kernel
theorem dX1_pushTogether_16 : decode cX1_pushTogether 16 = .ok (.ifnull 38, 3) := by decide +kernel
theorem dX1_pushTogether_19 : decode cX1_pushTogether 19 = .ok (.aload_n 3, 1) := by decide +kernel
theorem dX1_pushTogether_20 : decode cX1_pushTogether 20 = .ok (.getfield 59, 3) := by decide +kernel
theorem dX1_pushTogether_23 : decode cX1_pushTogether 23 = .ok (.ifnull 23, 3) := by decide +kernel
theorem dX1_pushTogether_26 : decode cX1_pushTogether 26 = .ok (.aload_n 0, 1) := by decide +kernel
theorem dX1_pushTogether_27 : decode cX1_pushTogether 27 = .ok (.aload_n 3, 1) := by decide +kernel
theorem dX1_pushTogether_28 : decode cX1_pushTogether 28 = .ok (.iload_n 1, 1) := by decide +kernel
theorem dX1_pushTogether_29 : decode cX1_pushTogether 29 = .ok (.invokevirtual 106, 3) := by decide +kernel
theorem dX1_pushTogether_32 : decode cX1_pushTogether 32 = .ok (.iload_n 1, 1) := by decide +kernel
theorem dX1_pushTogether_33 : decode cX1_pushTogether 33 = .ok (.aload_n 3, 1) := by decide +kernel
theorem dX1_pushTogether_34 : decode cX1_pushTogether 34 = .ok (.getfield 63, 3) := by decide +kernel
theorem dX1_pushTogether_37 : decode cX1_pushTogether 37 = .ok (.iadd, 1) := by decide +kernel
theorem dX1_pushTogether_38 : decode cX1_pushTogether 38 = .ok (.istore_n 1, 1) := by decide +kernel
theorem dX1_pushTogether_39 : decode cX1_pushTogether 39 = .ok (.aload_n 2, 1) := by decide +kernel
theorem dX1_pushTogether_40 : decode cX1_pushTogether 40 = .ok (.aload_n 3, 1) := by decide +kernel
theorem dX1_pushTogether_41 : decode cX1_pushTogether 41 = .ok (.putfield 37, 3) := by decide +kernel
theorem dX1_pushTogether_44 : decode cX1_pushTogether 44 = .ok (.aload_n 3, 1) := by decide +kernel
theorem dX1_pushTogether_45 : decode cX1_pushTogether 45 = .ok (.astore_n 2, 1) := by decide +kernel
theorem dX1_pushTogether_46 : decode cX1_pushTogether 46 = .ok (.aload_n 3, 1) := by decide +kernel
theorem dX1_pushTogether_47 : decode cX1_pushTogether 47 = .ok (.getfield 37, 3) := by decide +kernel
theorem dX1_pushTogether_50 : decode cX1_pushTogether 50 = .ok (.astore_n 3, 1) := by decide +kernel
theorem dX1_pushTogether_51 : decode cX1_pushTogether 51 = .ok (.goto (-36), 3) := by decide +kernel
theorem dX1_pushTogether_54 : decode cX1_pushTogether 54 = .ok (.new 28, 3) := by decide +kernel
theorem dX1_pushTogether_57 : decode cX1_pushTogether 57 = .ok (.dup, 1) := by decide +kernel
theorem dX1_pushTogether_58 : decode cX1_pushTogether 58 = .ok (.iload_n 1, 1) := by decide +kernel
theorem dX1_pushTogether_59 : decode cX1_pushTogether 59 = .ok (.aload_n 0, 1) := by decide +kernel
theorem dX1_pushTogether_60 : decode cX1_pushTogether 60 = .ok (.getfield 21, 3) := by decide +kernel
theorem dX1_pushTogether_63 : decode cX1_pushTogether 63 = .ok (.iload_n 1, 1) := by decide +kernel
theorem dX1_pushTogether_64 : decode cX1_pushTogether 64 = .ok (.isub, 1) := by decide +kernel
theorem dX1_pushTogether_65 : decode cX1_pushTogether 65 = .ok (.invokespecial 30, 3) := by decide +kernel
theorem dX1_pushTogether_68 : decode cX1_pushTogether 68 = .ok (.astore_n 3, 1) := by decide +kernel
theorem dX1_pushTogether_69 : decode cX1_pushTogether 69 = .ok (.aload_n 2, 1) := by decide +kernel
theorem dX1_pushTogether_70 : decode cX1_pushTogether 70 = .ok (.aload_n 3, 1) := by decide +kernel
theorem dX1_pushTogether_71 : decode cX1_pushTogether 71 = .ok (.putfield 37, 3) := by decide +kernel
theorem dX1_pushTogether_74 : decode cX1_pushTogether 74 = .ok (.aload_n 3, 1) := by decide +kernel
theorem dX1_pushTogether_75 : decode cX1_pushTogether 75 = .ok (.areturn, 1) := by decide +kernel
theorem dX1_moveTo_0 : decode cX1_moveTo 0 = .ok (.aload_n 0, 1) := by decide +kernel
theorem dX1_moveTo_1 : decode cX1_moveTo 1 = .ok (.getfield 24, 3) := by decide +kernel
theorem dX1_moveTo_4 : decode cX1_moveTo 4 = .ok (.aload_n 1, 1) := by decide +kernel
theorem dX1_moveTo_5 : decode cX1_moveTo 5 = .ok (.getfield 69, 3) := by decide +kernel
theorem dX1_moveTo_8 : decode cX1_moveTo 8 = .ok (.bipush 16, 2) := by decide +kernel
theorem dX1_moveTo_10 : decode cX1_moveTo 10 = .ok (.imul, 1) := by decide +kernel
theorem dX1_moveTo_11 : decode cX1_moveTo 11 = .ok (.aload_n 0, 1) := by decide +kernel
theorem dX1_moveTo_12 : decode cX1_moveTo 12 = .ok (.getfield 24, 3) := by decide +kernel
theorem dX1_moveTo_15 : decode cX1_moveTo 15 = .ok (.iload_n 2, 1) := by decide +kernel
theorem dX1_moveTo_16 : decode cX1_moveTo 16 = .ok (.bipush 16, 2) := by decide +kernel
theorem dX1_moveTo_18 : decode cX1_moveTo 18 = .ok (.imul, 1) := by decide +kernel
theorem dX1_moveTo_19 : decode cX1_moveTo 19 = .ok (.aload_n 1, 1) := by decide +kernel
theorem dX1_moveTo_20 : decode cX1_moveTo 20 = .ok (.getfield 63, 3) := by decide +kernel
theorem dX1_moveTo_23 : decode cX1_moveTo 23 = .ok (.bipush 16, 2) := by decide +kernel
theorem dX1_moveTo_25 : decode cX1_moveTo 25 = .ok (.imul, 1) := by decide +kernel
theorem dX1_moveTo_26 : decode cX1_moveTo 26 = .ok (.invokestatic 72, 3) := by decide +kernel
theorem dX1_moveTo_29 : decode cX1_moveTo 29 = .ok (.aload_n 1, 1) := by decide +kernel
theorem dX1_moveTo_30 : decode cX1_moveTo 30 = .ok (.iload_n 2, 1) := by decide +kernel
theorem dX1_moveTo_31 : decode cX1_moveTo 31 = .ok (.putfield 69, 3) := by decide +kernel
theorem dX1_moveTo_34 : decode cX1_moveTo 34 = .ok (.return_, 1) := by decide +kernel
theorem dX1_isSound_0 : decode cX1_isSound 0 = .ok (.iconst 0, 1) := by decide +kernel
theorem dX1_isSound_1 : decode cX1_isSound 1 = .ok (.istore_n 1, 1) := by decide +kernel
theorem dX1_isSound_2 : decode cX1_isSound 2 = .ok (.iconst 0, 1) := by decide +kernel
theorem dX1_isSound_3 : decode cX1_isSound 3 = .ok (.istore_n 2, 1) := by decide +kernel
theorem dX1_isSound_4 : decode cX1_isSound 4 = .ok (.aload_n 0, 1) := by decide +kernel
theorem dX1_isSound_5 : decode cX1_isSound 5 = .ok (.getfield 33, 3) := by decide +kernel
theorem dX1_isSound_8 : decode cX1_isSound 8 = .ok (.getfield 37, 3) := by decide +kernel
theorem dX1_isSound_11 : decode cX1_isSound 11 = .ok (.astore_n 3, 1) := by decide +kernel
theorem dX1_isSound_12 : decode cX1_isSound 12 = .ok (.aload_n 3, 1) := by decide +kernel
theorem dX1_isSound_13 : decode cX1_isSound 13 = .ok (.ifnull 54, 3) := by decide +kernel
theorem dX1_isSound_16 : decode cX1_isSound 16 = .ok (.aload_n 3, 1) := by decide +kernel
theorem dX1_isSound_17 : decode cX1_isSound 17 = .ok (.getfield 69, 3) := by decide +kernel
theorem dX1_isSound_20 : decode cX1_isSound 20 = .ok (.iload_n 1, 1) := by decide +kernel
theorem dX1_isSound_21 : decode cX1_isSound 21 = .ok (.if_icmp .ne 11, 3) := by decide +kernel
theorem dX1_isSound_24 : decode cX1_isSound 24 = .ok (.aload_n 3, 1) := by decide +kernel
theorem dX1_isSound_25 : decode cX1_isSound 25 = .ok (.getfield 63, 3) := by decide +kernel
theorem dX1_isSound_28 : decode cX1_isSound 28 = .ok (.iconst 1, 1) := by decide +kernel
theorem dX1_isSound_29 : decode cX1_isSound 29 = .ok (.if_icmp .ge 5, 3) := by decide +kernel
theorem dX1_isSound_32 : decode cX1_isSound 32 = .ok (.iconst 0, 1) := by decide +kernel
theorem dX1_isSound_33 : decode cX1_isSound 33 = .ok (.ireturn, 1) := by decide +kernel
theorem dX1_isSound_34 : decode cX1_isSound 34 = .ok (.iload_n 1, 1) := by decide +kernel
theorem dX1_isSound_35 : decode cX1_isSound 35 = .ok (.aload_n 3, 1) := by decide +kernel
theorem dX1_isSound_36 : decode cX1_isSound 36 = .ok (.getfield 63, 3) := by decide +kernel
theorem dX1_isSound_39 : decode cX1_isSound 39 = .ok (.iadd, 1) := by decide +kernel
theorem dX1_isSound_40 : decode cX1_isSound 40 = .ok (.istore_n 1, 1) := by decide +kernel
theorem dX1_isSound_41 : decode cX1_isSound 41 = .ok (.iload_n 2, 1) := by decide +kernel
theorem dX1_isSound_42 : decode cX1_isSound 42 = .ok (.aload_n 3, 1) := by decide +kernel
theorem dX1_isSound_43 : decode cX1_isSound 43 = .ok (.getfield 59, 3) := by decide +kernel
theorem dX1_isSound_46 : decode cX1_isSound 46 = .ok (.ifnonnull 7, 3) := by decide +kernel
theorem dX1_isSound_49 : decode cX1_isSound 49 = .ok (.iconst 0, 1) := by decide +kernel
theorem dX1_isSound_50 : decode cX1_isSound 50 = .ok (.goto 7, 3) := by decide +kernel
theorem dX1_isSound_53 : decode cX1_isSound 53 = .ok (.aload_n 3, 1) := by decide +kernel
theorem dX1_isSound_54 : decode cX1_isSound 54 = .ok (.getfield 63, 3) := by decide +kernel
theorem dX1_isSound_57 : decode cX1_isSound 57 = .ok (.iadd, 1) := by decide +kernel
theorem dX1_isSound_58 : decode cX1_isSound 58 = .ok (.istore_n 2, 1) := by decide +kernel
theorem dX1_isSound_59 : decode cX1_isSound 59 = .ok (.aload_n 3, 1) := by decide +kernel
theorem dX1_isSound_60 : decode cX1_isSound 60 = .ok (.getfield 37, 3) := by decide +kernel
theorem dX1_isSound_63 : decode cX1_isSound 63 = .ok (.astore_n 3, 1) := by decide +kernel
theorem dX1_isSound_64 : decode cX1_isSound 64 = .ok (.goto (-52), 3) := by decide +kernel
theorem dX1_isSound_67 : decode cX1_isSound 67 = .ok (.iload_n 1, 1) := by decide +kernel
theorem dX1_isSound_68 : decode cX1_isSound 68 = .ok (.aload_n 0, 1) := by decide +kernel
theorem dX1_isSound_69 : decode cX1_isSound 69 = .ok (.getfield 21, 3) := by decide +kernel
theorem dX1_isSound_72 : decode cX1_isSound 72 = .ok (.if_icmp .ne 41, 3) := by decide +kernel
theorem dX1_isSound_75 : decode cX1_isSound 75 = .ok (.aload_n 0, 1) := by decide +kernel
theorem dX1_isSound_76 : decode cX1_isSound 76 = .ok (.getfield 21, 3) := by decide +kernel
theorem dX1_isSound_79 : decode cX1_isSound 79 = .ok (.aload_n 0, 1) := by decide +kernel
theorem dX1_isSound_80 : decode cX1_isSound 80 = .ok (.getfield 9, 3) := by decide +kernel
theorem dX1_isSound_83 : decode cX1_isSound 83 = .ok (.if_icmp .gt 30, 3) := by decide +kernel
theorem dX1_isSound_86 : decode cX1_isSound 86 = .ok (.aload_n 0, 1) := by decide +kernel
theorem dX1_isSound_87 : decode cX1_isSound 87 = .ok (.getfield 24, 3) := by decide +kernel
theorem dX1_isSound_90 : decode cX1_isSound 90 = .ok (.arraylength, 1) := by decide +kernel
theorem dX1_isSound_91 : decode cX1_isSound 91 = .ok (.aload_n 0, 1) := by decide +kernel
theorem dX1_isSound_92 : decode cX1_isSound 92 = .ok (.getfield 21, 3) := by decide +kernel
theorem dX1_isSound_95 : decode cX1_isSound 95 = .ok (.bipush 16, 2) := by decide +kernel
theorem dX1_isSound_97 : decode cX1_isSound 97 = .ok (.imul, 1) := by decide +kernel
theorem dX1_isSound_98 : decode cX1_isSound 98 = .ok (.if_icmp .ne 15, 3) := by decide +kernel
theorem dX1_isSound_101 : decode cX1_isSound 101 = .ok (.iload_n 2, 1) := by decide +kernel
theorem dX1_isSound_102 : decode cX1_isSound 102 = .ok (.aload_n 0, 1) := by decide +kernel
theorem dX1_isSound_103 : decode cX1_isSound 103 = .ok (.getfield 44, 3) := by decide +kernel
theorem dX1_isSound_106 : decode cX1_isSound 106 = .ok (.if_icmp .ne 7, 3) := by decide +kernel
theorem dX1_isSound_109 : decode cX1_isSound 109 = .ok (.iconst 1, 1) := by decide +kernel
theorem dX1_isSound_110 : decode cX1_isSound 110 = .ok (.goto 4, 3) := by decide +kernel
theorem dX1_isSound_113 : decode cX1_isSound 113 = .ok (.iconst 0, 1) := by decide +kernel
theorem dX1_isSound_114 : decode cX1_isSound 114 = .ok (.ireturn, 1) := by decide +kernel
end
section
/-! decode rows, by program -/
theorem dX4_init_0 : decode cX4_init 0 = .ok (.aload_n 0, 1) := by decide +kernel
theorem dX4_init_1 : decode cX4_init 1 = .ok (.invokespecial 3, 3) := by decide +kernel
theorem dX4_init_4 : decode cX4_init 4 = .ok (.aload_n 0, 1) := by decide +kernel
theorem dX4_init_5 : decode cX4_init 5 = .ok (.aload_n 1, 1) := by decide +kernel
theorem dX4_init_6 : decode cX4_init 6 = .ok (.putfield 9, 3) := by decide +kernel
theorem dX4_init_9 : decode cX4_init 9 = .ok (.aload_n 0, 1) := by decide +kernel
theorem dX4_init_10 : decode cX4_init 10 = .ok (.new 15, 3) := by decide +kernel
theorem dX4_init_13 : decode cX4_init 13 = .ok (.dup, 1) := by decide +kernel
theorem dX4_init_14 : decode cX4_init 14 = .ok (.iconst 0, 1) := by decide +kernel
theorem dX4_init_15 : decode cX4_init 15 = .ok (.invokespecial 17, 3) := by decide +kernel
theorem dX4_init_18 : decode cX4_init 18 = .ok (.putfield 20, 3) := by decide +kernel
theorem dX4_init_21 : decode cX4_init 21 = .ok (.aload_n 0, 1) := by decide +kernel
theorem dX4_init_22 : decode cX4_init 22 = .ok (.getfield 20, 3) := by decide +kernel
theorem dX4_init_25 : decode cX4_init 25 = .ok (.aload_n 0, 1) := by decide +kernel
theorem dX4_init_26 : decode cX4_init 26 = .ok (.getfield 20, 3) := by decide +kernel
theorem dX4_init_29 : decode cX4_init 29 = .ok (.putfield 24, 3) := by decide +kernel
theorem dX4_init_32 : decode cX4_init 32 = .ok (.aload_n 0, 1) := by decide +kernel
theorem dX4_init_33 : decode cX4_init 33 = .ok (.getfield 20, 3) := by decide +kernel
theorem dX4_init_36 : decode cX4_init 36 = .ok (.aload_n 0, 1) := by decide +kernel
theorem dX4_init_37 : decode cX4_init 37 = .ok (.getfield 20, 3) := by decide +kernel
theorem dX4_init_40 : decode cX4_init 40 = .ok (.putfield 27, 3) := by decide +kernel
theorem dX4_init_43 : decode cX4_init 43 = .ok (.aload_n 0, 1) := by decide +kernel
theorem dX4_init_44 : decode cX4_init 44 = .ok (.getfield 20, 3) := by decide +kernel
theorem dX4_init_47 : decode cX4_init 47 = .ok (.aload_n 0, 1) := by decide +kernel
theorem dX4_init_48 : decode cX4_init 48 = .ok (.getfield 20, 3) := by decide +kernel
theorem dX4_init_51 : decode cX4_init 51 = .ok (.putfield 30, 3) := by decide +kernel
theorem dX4_init_54 : decode cX4_init 54 = .ok (.aload_n 0, 1) := by decide +kernel
theorem dX4_init_55 : decode cX4_init 55 = .ok (.aload_n 0, 1) := by decide +kernel
theorem dX4_init_56 : decode cX4_init 56 = .ok (.getfield 20, 3) := by decide +kernel
theorem dX4_init_59 : decode cX4_init 59 = .ok (.putfield 33, 3) := by decide +kernel
theorem dX4_init_62 : decode cX4_init 62 = .ok (.return_, 1) := by decide +kernel
theorem dX4_size_0 : decode cX4_size 0 = .ok (.aload_n 0, 1) := by decide +kernel
theorem dX4_size_1 : decode cX4_size 1 = .ok (.getfield 33, 3) := by decide +kernel
theorem dX4_size_4 : decode cX4_size 4 = .ok (.getfield 36, 3) := by decide +kernel
theorem dX4_size_7 : decode cX4_size 7 = .ok (.ireturn, 1) := by decide +kernel
theorem dX4_empty_0 : decode cX4_empty 0 = .ok (.aload_n 0, 1) := by decide +kernel
theorem dX4_empty_1 : decode cX4_empty 1 = .ok (.aload_n 0, 1) := by decide +kernel
theorem dX4_empty_2 : decode cX4_empty 2 = .ok (.getfield 20, 3) := by decide +kernel
theorem dX4_empty_5 : decode cX4_empty 5 = .ok (.putfield 33, 3) := by decide +kernel
theorem dX4_empty_8 : decode cX4_empty 8 = .ok (.return_, 1) := by decide +kernel
theorem dX4_find_0 : decode cX4_find 0 = .ok (.aload_n 0, 1) := by decide +kernel
theorem dX4_find_1 : decode cX4_find 1 = .ok (.getfield 33, 3) := by decide +kernel
theorem dX4_find_4 : decode cX4_find 4 = .ok (.astore_n 3, 1) := by decide +kernel
theorem dX4_find_5 : decode cX4_find 5 = .ok (.aload_n 3, 1) := by decide +kernel
theorem dX4_find_6 : decode cX4_find 6 = .ok (.aload_n 0, 1) := by decide +kernel
theorem dX4_find_7 : decode cX4_find 7 = .ok (.getfield 20, 3) := by decide +kernel
theorem dX4_find_10 : decode cX4_find 10 = .ok (.if_acmp .eq 42, 3) := by decide +kernel
theorem dX4_find_13 : decode cX4_find 13 = .ok (.aload_n 0, 1) := by decide +kernel
theorem dX4_find_14 : decode cX4_find 14 = .ok (.getfield 9, 3) := by decide +kernel
theorem dX4_find_17 : decode cX4_find 17 = .ok (.aload_n 1, 1) := by decide +kernel
theorem dX4_find_18 : decode cX4_find 18 = .ok (.iload_n 2, 1) := by decide +kernel
theorem dX4_find_19 : decode cX4_find 19 = .ok (.aload_n 3, 1) := by decide +kernel
theorem dX4_find_20 : decode cX4_find 20 = .ok (.invokevirtual 40, 3) := by decide +kernel
theorem dX4_find_23 : decode cX4_find 23 = .ok (.istore 4, 2) := by decide +kernel
theorem dX4_find_25 : decode cX4_find 25 = .ok (.iload 4, 2) := by decide +kernel
theorem dX4_find_27 : decode cX4_find 27 = .ok (.ifCond .ne 5, 3) := by decide +kernel
theorem dX4_find_30 : decode cX4_find 30 = .ok (.aload_n 3, 1) := by decide +kernel
theorem dX4_find_31 : decode cX4_find 31 = .ok (.areturn, 1) := by decide +kernel
theorem dX4_find_32 : decode cX4_find 32 = .ok (.iload 4, 2) := by decide +kernel
theorem dX4_find_34 : decode cX4_find 34 = .ok (.ifCond .ge 10, 3) := by decide +kernel
theorem dX4_find_37 : decode cX4_find 37 = .ok (.aload_n 3, 1) := by decide +kernel
theorem dX4_find_38 : decode cX4_find 38 = .ok (.getfield 24, 3) := by decide +kernel
theorem dX4_find_41 : decode cX4_find 41 = .ok (.goto 7, 3) := by decide +kernel
theorem dX4_find_44 : decode cX4_find 44 = .ok (.aload_n 3, 1) := by decide +kernel
theorem dX4_find_45 : decode cX4_find 45 = .ok (.getfield 27, 3) := by decide +kernel
theorem dX4_find_48 : decode cX4_find 48 = .ok (.astore_n 3, 1) := by decide +kernel
theorem dX4_find_49 : decode cX4_find 49 = .ok (.goto (-44), 3) := by decide +kernel
theorem dX4_find_52 : decode cX4_find 52 = .ok (.aconst_null, 1) := by decide +kernel
theorem dX4_find_53 : decode cX4_find 53 = .ok (.areturn, 1) := by decide +kernel
theorem dX4_keysBelow_0 : decode cX4_keysBelow 0 = .ok (.iconst 0, 1) := by decide +kernel
theorem dX4_keysBelow_1 : decode cX4_keysBelow 1 = .ok (.istore 4, 2) := by decide +kernel
theorem dX4_keysBelow_3 : decode cX4_keysBelow 3 = .ok (.aload_n 0, 1) := by decide +kernel
theorem dX4_keysBelow_4 : decode cX4_keysBelow 4 = .ok (.getfield 33, 3) := by decide +kernel
theorem dX4_keysBelow_7 : decode cX4_keysBelow 7 = .ok (.astore 5, 2) := by decide +kernel
theorem dX4_keysBelow_9 : decode cX4_keysBelow 9 = .ok (.aload 5, 2) := by decide +kernel
theorem dX4_keysBelow_11 : decode cX4_keysBelow 11 = .ok (.aload_n 0, 1) := by decide +kernel
theorem dX4_keysBelow_12 : decode cX4_keysBelow 12 = .ok (.getfield 20, 3) := by decide +kernel
theorem dX4_keysBelow_15 : decode cX4_keysBelow 15 = .ok (.if_acmp .eq 65, 3) := by decide +kernel
theorem dX4_keysBelow_18 : decode cX4_keysBelow 18 = .ok (.aload_n 0, 1) := by decide +kernel
theorem dX4_keysBelow_19 : decode cX4_keysBelow 19 = .ok (.getfield 9, 3) := by decide +kernel
theorem dX4_keysBelow_22 : decode cX4_keysBelow 22 = .ok (.aload_n 1, 1) := by decide +kernel
theorem dX4_keysBelow_23 : decode cX4_keysBelow 23 = .ok (.iload_n 2, 1) := by decide +kernel
theorem dX4_keysBelow_24 : decode cX4_keysBelow 24 = .ok (.aload 5, 2) := by decide +kernel
theorem dX4_keysBelow_26 : decode cX4_keysBelow 26 = .ok (.invokevirtual 40, 3) := by decide +kernel
theorem dX4_keysBelow_29 : decode cX4_keysBelow 29 = .ok (.istore 6, 2) := by decide +kernel
theorem dX4_keysBelow_31 : decode cX4_keysBelow 31 = .ok (.iload 6, 2) := by decide +kernel
theorem dX4_keysBelow_33 : decode cX4_keysBelow 33 = .ok (.ifCond .gt 12, 3) := by decide +kernel
theorem dX4_keysBelow_36 : decode cX4_keysBelow 36 = .ok (.iload_n 3, 1) := by decide +kernel
theorem dX4_keysBelow_37 : decode cX4_keysBelow 37 = .ok (.ifCond .eq 33, 3) := by decide +kernel
theorem dX4_keysBelow_40 : decode cX4_keysBelow 40 = .ok (.iload 6, 2) := by decide +kernel
theorem dX4_keysBelow_42 : decode cX4_keysBelow 42 = .ok (.ifCond .ne 28, 3) := by decide +kernel
theorem dX4_keysBelow_45 : decode cX4_keysBelow 45 = .ok (.iload 4, 2) := by decide +kernel
theorem dX4_keysBelow_47 : decode cX4_keysBelow 47 = .ok (.aload 5, 2) := by decide +kernel
theorem dX4_keysBelow_49 : decode cX4_keysBelow 49 = .ok (.getfield 24, 3) := by decide +kernel
theorem dX4_keysBelow_52 : decode cX4_keysBelow 52 = .ok (.getfield 36, 3) := by decide +kernel
theorem dX4_keysBelow_55 : decode cX4_keysBelow 55 = .ok (.iconst 1, 1) := by decide +kernel
theorem dX4_keysBelow_56 : decode cX4_keysBelow 56 = .ok (.iadd, 1) := by decide +kernel
theorem dX4_keysBelow_57 : decode cX4_keysBelow 57 = .ok (.iadd, 1) := by decide +kernel
theorem dX4_keysBelow_58 : decode cX4_keysBelow 58 = .ok (.istore 4, 2) := by decide +kernel
theorem dX4_keysBelow_60 : decode cX4_keysBelow 60 = .ok (.aload 5, 2) := by decide +kernel
theorem dX4_keysBelow_62 : decode cX4_keysBelow 62 = .ok (.getfield 27, 3) := by decide +kernel
theorem dX4_keysBelow_65 : decode cX4_keysBelow 65 = .ok (.astore 5, 2) := by decide +kernel
theorem dX4_keysBelow_67 : decode cX4_keysBelow 67 = .ok (.goto 10, 3) := by decide +kernel
theorem dX4_keysBelow_70 : decode cX4_keysBelow 70 = .ok (.aload 5, 2) := by decide +kernel
theorem dX4_keysBelow_72 : decode cX4_keysBelow 72 = .ok (.getfield 24, 3) := by decide +kernel
theorem dX4_keysBelow_75 : decode cX4_keysBelow 75 = .ok (.astore 5, 2) := by decide +kernel
theorem dX4_keysBelow_77 : decode cX4_keysBelow 77 = .ok (.goto (-68), 3) := by decide +kernel
theorem dX4_keysBelow_80 : decode cX4_keysBelow 80 = .ok (.iload 4, 2) := by decide +kernel
theorem dX4_keysBelow_82 : decode cX4_keysBelow 82 = .ok (.ireturn, 1) := by decide +kernel
theorem dX4_pick_0 : decode cX4_pick 0 = .ok (.iload_n 1, 1) := by decide +kernel
theorem dX4_pick_1 : decode cX4_pick 1 = .ok (.istore_n 2, 1) := by decide +kernel
theorem dX4_pick_2 : decode cX4_pick 2 = .ok (.iload_n 2, 1) := by decide +kernel
theorem dX4_pick_3 : decode cX4_pick 3 = .ok (.ifCond .ge 10, 3) := by decide +kernel
theorem dX4_pick_6 : decode cX4_pick 6 = .ok (.aload_n 0, 1) := by decide +kernel
theorem dX4_pick_7 : decode cX4_pick 7 = .ok (.getfield 20, 3) := by decide +kernel
theorem dX4_pick_10 : decode cX4_pick 10 = .ok (.goto 7, 3) := by decide +kernel
theorem dX4_pick_13 : decode cX4_pick 13 = .ok (.aload_n 0, 1) := by decide +kernel
theorem dX4_pick_14 : decode cX4_pick 14 = .ok (.getfield 33, 3) := by decide +kernel
theorem dX4_pick_17 : decode cX4_pick 17 = .ok (.astore_n 3, 1) := by decide +kernel
theorem dX4_pick_18 : decode cX4_pick 18 = .ok (.aload_n 3, 1) := by decide +kernel
theorem dX4_pick_19 : decode cX4_pick 19 = .ok (.aload_n 0, 1) := by decide +kernel
theorem dX4_pick_20 : decode cX4_pick 20 = .ok (.getfield 20, 3) := by decide +kernel
theorem dX4_pick_23 : decode cX4_pick 23 = .ok (.if_acmp .eq 53, 3) := by decide +kernel
theorem dX4_pick_26 : decode cX4_pick 26 = .ok (.iload_n 2, 1) := by decide +kernel
theorem dX4_pick_27 : decode cX4_pick 27 = .ok (.aload_n 3, 1) := by decide +kernel
theorem dX4_pick_28 : decode cX4_pick 28 = .ok (.getfield 24, 3) := by decide +kernel
theorem dX4_pick_31 : decode cX4_pick 31 = .ok (.getfield 36, 3) := by decide +kernel
theorem dX4_pick_34 : decode cX4_pick 34 = .ok (.if_icmp .eq 42, 3) := by decide +kernel
theorem dX4_pick_37 : decode cX4_pick 37 = .ok (.iload_n 2, 1) := by decide +kernel
theorem dX4_pick_38 : decode cX4_pick 38 = .ok (.aload_n 3, 1) := by decide +kernel
theorem dX4_pick_39 : decode cX4_pick 39 = .ok (.getfield 24, 3) := by decide +kernel
theorem dX4_pick_42 : decode cX4_pick 42 = .ok (.getfield 36, 3) := by decide +kernel
theorem dX4_pick_45 : decode cX4_pick 45 = .ok (.if_icmp .ge 11, 3) := by decide +kernel
theorem dX4_pick_48 : decode cX4_pick 48 = .ok (.aload_n 3, 1) := by decide +kernel
theorem dX4_pick_49 : decode cX4_pick 49 = .ok (.getfield 24, 3) := by decide +kernel
theorem dX4_pick_52 : decode cX4_pick 52 = .ok (.astore_n 3, 1) := by decide +kernel
theorem dX4_pick_53 : decode cX4_pick 53 = .ok (.goto (-35), 3) := by decide +kernel
theorem dX4_pick_56 : decode cX4_pick 56 = .ok (.iload_n 2, 1) := by decide +kernel
theorem dX4_pick_57 : decode cX4_pick 57 = .ok (.aload_n 3, 1) := by decide +kernel
theorem dX4_pick_58 : decode cX4_pick 58 = .ok (.getfield 24, 3) := by decide +kernel
theorem dX4_pick_61 : decode cX4_pick 61 = .ok (.getfield 36, 3) := by decide +kernel
theorem dX4_pick_64 : decode cX4_pick 64 = .ok (.iconst 1, 1) := by decide +kernel
theorem dX4_pick_65 : decode cX4_pick 65 = .ok (.iadd, 1) := by decide +kernel
theorem dX4_pick_66 : decode cX4_pick 66 = .ok (.isub, 1) := by decide +kernel
theorem dX4_pick_67 : decode cX4_pick 67 = .ok (.istore_n 2, 1) := by decide +kernel
theorem dX4_pick_68 : decode cX4_pick 68 = .ok (.aload_n 3, 1) := by decide +kernel
theorem dX4_pick_69 : decode cX4_pick 69 = .ok (.getfield 27, 3) := by decide +kernel
theorem dX4_pick_72 : decode cX4_pick 72 = .ok (.astore_n 3, 1) := by decide +kernel
theorem dX4_pick_73 : decode cX4_pick 73 = .ok (.goto (-55), 3) := by decide +kernel
theorem dX4_pick_76 : decode cX4_pick 76 = .ok (.aload_n 3, 1) := by decide +kernel
theorem dX4_pick_77 : decode cX4_pick 77 = .ok (.aload_n 0, 1) := by decide +kernel
theorem dX4_pick_78 : decode cX4_pick 78 = .ok (.getfield 20, 3) := by decide +kernel
theorem dX4_pick_81 : decode cX4_pick 81 = .ok (.if_acmp .ne 7, 3) := by decide +kernel
theorem dX4_pick_84 : decode cX4_pick 84 = .ok (.aconst_null, 1) := by decide +kernel
theorem dX4_pick_85 : decode cX4_pick 85 = .ok (.goto 4, 3) := by decide +kernel
theorem dX4_pick_88 : decode cX4_pick 88 = .ok (.aload_n 3, 1) := by decide +kernel
theorem dX4_pick_89 : decode cX4_pick 89 = .ok (.areturn, 1) := by decide +kernel
theorem dX4_placeOf_0 : decode cX4_placeOf 0 = .ok (.aload_n 1, 1) := by decide +kernel
theorem dX4_placeOf_1 : decode cX4_placeOf 1 = .ok (.getfield 24, 3) := by decide +kernel
theorem dX4_placeOf_4 : decode cX4_placeOf 4 = .ok (.getfield 36, 3) := by decide +kernel
theorem dX4_placeOf_7 : decode cX4_placeOf 7 = .ok (.istore_n 2, 1) := by decide +kernel
theorem dX4_placeOf_8 : decode cX4_placeOf 8 = .ok (.aload_n 1, 1) := by decide +kernel
theorem dX4_placeOf_9 : decode cX4_placeOf 9 = .ok (.astore_n 3, 1) := by decide +kernel
theorem dX4_placeOf_10 : decode cX4_placeOf 10 = .ok (.aload_n 3, 1) := by decide +kernel
theorem dX4_placeOf_11 : decode cX4_placeOf 11 = .ok (.getfield 30, 3) := by decide +kernel
theorem dX4_placeOf_14 : decode cX4_placeOf 14 = .ok (.aload_n 0, 1) := by decide +kernel
theorem dX4_placeOf_15 : decode cX4_placeOf 15 = .ok (.getfield 20, 3) := by decide +kernel
theorem dX4_placeOf_18 : decode cX4_placeOf 18 = .ok (.if_acmp .eq 37, 3) := by decide +kernel
theorem dX4_placeOf_21 : decode cX4_placeOf 21 = .ok (.aload_n 3, 1) := by decide +kernel
theorem dX4_placeOf_22 : decode cX4_placeOf 22 = .ok (.aload_n 3, 1) := by decide +kernel
theorem dX4_placeOf_23 : decode cX4_placeOf 23 = .ok (.getfield 30, 3) := by decide +kernel
theorem dX4_placeOf_26 : decode cX4_placeOf 26 = .ok (.getfield 27, 3) := by decide +kernel
theorem dX4_placeOf_29 : decode cX4_placeOf 29 = .ok (.if_acmp .ne 18, 3) := by decide +kernel
theorem dX4_placeOf_32 : decode cX4_placeOf 32 = .ok (.iload_n 2, 1) := by decide +kernel
theorem dX4_placeOf_33 : decode cX4_placeOf 33 = .ok (.aload_n 3, 1) := by decide +kernel
theorem dX4_placeOf_34 : decode cX4_placeOf 34 = .ok (.getfield 30, 3) := by decide +kernel
theorem dX4_placeOf_37 : decode cX4_placeOf 37 = .ok (.getfield 24, 3) := by decide +kernel
theorem dX4_placeOf_40 : decode cX4_placeOf 40 = .ok (.getfield 36, 3) := by decide +kernel
theorem dX4_placeOf_43 : decode cX4_placeOf 43 = .ok (.iconst 1, 1) := by decide +kernel
theorem dX4_placeOf_44 : decode cX4_placeOf 44 = .ok (.iadd, 1) := by decide +kernel
theorem dX4_placeOf_45 : decode cX4_placeOf 45 = .ok (.iadd, 1) := by decide +kernel
theorem dX4_placeOf_46 : decode cX4_placeOf 46 = .ok (.istore_n 2, 1) := by decide +kernel
theorem dX4_placeOf_47 : decode cX4_placeOf 47 = .ok (.aload_n 3, 1) := by decide +kernel
theorem dX4_placeOf_48 : decode cX4_placeOf 48 = .ok (.getfield 30, 3) := by decide +kernel
theorem dX4_placeOf_51 : decode cX4_placeOf 51 = .ok (.astore_n 3, 1) := by decide +kernel
theorem dX4_placeOf_52 : decode cX4_placeOf 52 = .ok (.goto (-42), 3) := by decide +kernel
theorem dX4_placeOf_55 : decode cX4_placeOf 55 = .ok (.iload_n 2, 1) := by decide +kernel
theorem dX4_placeOf_56 : decode cX4_placeOf 56 = .ok (.ireturn, 1) := by decide +kernel
theorem dX4_holds_0 : decode cX4_holds 0 = .ok (.aload_n 0, 1) := by decide +kernel
theorem dX4_holds_1 : decode cX4_holds 1 = .ok (.aload_n 0, 1) := by decide +kernel
theorem dX4_holds_2 : decode cX4_holds 2 = .ok (.aload_n 1, 1) := by decide +kernel
theorem dX4_holds_3 : decode cX4_holds 3 = .ok (.invokevirtual 46, 3) := by decide +kernel
theorem dX4_holds_6 : decode cX4_holds 6 = .ok (.invokevirtual 50, 3) := by decide +kernel
theorem dX4_holds_9 : decode cX4_holds 9 = .ok (.aload_n 1, 1) := by decide +kernel
theorem dX4_holds_10 : decode cX4_holds 10 = .ok (.if_acmp .ne 7, 3) := by decide +kernel
theorem dX4_holds_13 : decode cX4_holds 13 = .ok (.iconst 1, 1) := by decide +kernel
theorem dX4_holds_14 : decode cX4_holds 14 = .ok (.goto 4, 3) := by decide +kernel
theorem dX4_holds_17 : decode cX4_holds 17 = .ok (.iconst 0, 1) := by decide +kernel
theorem dX4_holds_18 : decode cX4_holds 18 = .ok (.ireturn, 1) := by decide +kernel
theorem dX4_link_0 : decode cX4_link 0 = .ok (.aload_n 0, 1) := by decide +kernel
theorem dX4_link_1 : decode cX4_link 1 = .ok (.getfield 20, 3) := by decide +kernel
theorem dX4_link_4 : decode cX4_link 4 = .ok (.astore_n 2, 1) := by decide +kernel
theorem dX4_link_5 : decode cX4_link 5 = .ok (.iconst 0, 1) := by decide +kernel
theorem dX4_link_6 : decode cX4_link 6 = .ok (.istore_n 3, 1) := by decide +kernel
theorem dX4_link_7 : decode cX4_link 7 = .ok (.aload_n 0, 1) := by decide +kernel
theorem dX4_link_8 : decode cX4_link 8 = .ok (.getfield 33, 3) := by decide +kernel
theorem dX4_link_11 : decode cX4_link 11 = .ok (.astore 4, 2) := by decide +kernel
theorem dX4_link_13 : decode cX4_link 13 = .ok (.aload 4, 2) := by decide +kernel
theorem dX4_link_15 : decode cX4_link 15 = .ok (.aload_n 0, 1) := by decide +kernel
theorem dX4_link_16 : decode cX4_link 16 = .ok (.getfield 20, 3) := by decide +kernel
theorem dX4_link_19 : decode cX4_link 19 = .ok (.if_acmp .eq 47, 3) := by decide +kernel
theorem dX4_link_22 : decode cX4_link 22 = .ok (.aload 4, 2) := by decide +kernel
theorem dX4_link_24 : decode cX4_link 24 = .ok (.dup, 1) := by decide +kernel
theorem dX4_link_25 : decode cX4_link 25 = .ok (.getfield 36, 3) := by decide +kernel
theorem dX4_link_28 : decode cX4_link 28 = .ok (.iconst 1, 1) := by decide +kernel
theorem dX4_link_29 : decode cX4_link 29 = .ok (.iadd, 1) := by decide +kernel
theorem dX4_link_30 : decode cX4_link 30 = .ok (.putfield 36, 3) := by decide +kernel
theorem dX4_link_33 : decode cX4_link 33 = .ok (.aload 4, 2) := by decide +kernel
theorem dX4_link_35 : decode cX4_link 35 = .ok (.astore_n 2, 1) := by decide +kernel
theorem dX4_link_36 : decode cX4_link 36 = .ok (.aload_n 0, 1) := by decide +kernel
theorem dX4_link_37 : decode cX4_link 37 = .ok (.getfield 9, 3) := by decide +kernel
theorem dX4_link_40 : decode cX4_link 40 = .ok (.aload_n 1, 1) := by decide +kernel
theorem dX4_link_41 : decode cX4_link 41 = .ok (.aload 4, 2) := by decide +kernel
theorem dX4_link_43 : decode cX4_link 43 = .ok (.invokevirtual 54, 3) := by decide +kernel
theorem dX4_link_46 : decode cX4_link 46 = .ok (.ifCond .ge 7, 3) := by decide +kernel
theorem dX4_link_49 : decode cX4_link 49 = .ok (.iconst 0, 1) := by decide +kernel
theorem dX4_link_50 : decode cX4_link 50 = .ok (.goto 4, 3) := by decide +kernel
theorem dX4_link_53 : decode cX4_link 53 = .ok (.iconst 1, 1) := by decide +kernel
theorem dX4_link_54 : decode cX4_link 54 = .ok (.istore_n 3, 1) := by decide +kernel
theorem dX4_link_55 : decode cX4_link 55 = .ok (.aload 4, 2) := by decide +kernel
theorem dX4_link_57 : decode cX4_link 57 = .ok (.iload_n 3, 1) := by decide +kernel
theorem dX4_link_58 : decode cX4_link 58 = .ok (.invokevirtual 58, 3) := by decide +kernel
theorem dX4_link_61 : decode cX4_link 61 = .ok (.astore 4, 2) := by decide +kernel
theorem dX4_link_63 : decode cX4_link 63 = .ok (.goto (-50), 3) := by decide +kernel
theorem dX4_link_66 : decode cX4_link 66 = .ok (.aload_n 1, 1) := by decide +kernel
theorem dX4_link_67 : decode cX4_link 67 = .ok (.aload_n 0, 1) := by decide +kernel
theorem dX4_link_68 : decode cX4_link 68 = .ok (.getfield 20, 3) := by decide +kernel
theorem dX4_link_71 : decode cX4_link 71 = .ok (.putfield 24, 3) := by decide +kernel
theorem dX4_link_74 : decode cX4_link 74 = .ok (.aload_n 1, 1) := by decide +kernel
theorem dX4_link_75 : decode cX4_link 75 = .ok (.aload_n 0, 1) := by decide +kernel
theorem dX4_link_76 : decode cX4_link 76 = .ok (.getfield 20, 3) := by decide +kernel
theorem dX4_link_79 : decode cX4_link 79 = .ok (.putfield 27, 3) := by decide +kernel
theorem dX4_link_82 : decode cX4_link 82 = .ok (.aload_n 1, 1) := by decide +kernel
theorem dX4_link_83 : decode cX4_link 83 = .ok (.aload_n 2, 1) := by decide +kernel
theorem dX4_link_84 : decode cX4_link 84 = .ok (.putfield 30, 3) := by decide +kernel
theorem dX4_link_87 : decode cX4_link 87 = .ok (.aload_n 1, 1) := by decide +kernel
theorem dX4_link_88 : decode cX4_link 88 = .ok (.iconst 1, 1) := by decide +kernel
theorem dX4_link_89 : decode cX4_link 89 = .ok (.putfield 61, 3) := by decide +kernel
theorem dX4_link_92 : decode cX4_link 92 = .ok (.aload_n 1, 1) := by decide +kernel
theorem dX4_link_93 : decode cX4_link 93 = .ok (.iconst 1, 1) := by decide +kernel
theorem dX4_link_94 : decode cX4_link 94 = .ok (.putfield 36, 3) := by decide +kernel
theorem dX4_link_97 : decode cX4_link 97 = .ok (.aload_n 2, 1) := by decide +kernel
theorem dX4_link_98 : decode cX4_link 98 = .ok (.aload_n 0, 1) := by decide +kernel
theorem dX4_link_99 : decode cX4_link 99 = .ok (.getfield 20, 3) := by decide +kernel
theorem dX4_link_102 : decode cX4_link 102 = .ok (.if_acmp .ne 11, 3) := by decide +kernel
theorem dX4_link_105 : decode cX4_link 105 = .ok (.aload_n 0, 1) := by decide +kernel
theorem dX4_link_106 : decode cX4_link 106 = .ok (.aload_n 1, 1) := by decide +kernel
theorem dX4_link_107 : decode cX4_link 107 = .ok (.putfield 33, 3) := by decide +kernel
theorem dX4_link_110 : decode cX4_link 110 = .ok (.goto 9, 3) := by decide +kernel
theorem dX4_link_113 : decode cX4_link 113 = .ok (.aload_n 2, 1) := by decide +kernel
theorem dX4_link_114 : decode cX4_link 114 = .ok (.iload_n 3, 1) := by decide +kernel
theorem dX4_link_115 : decode cX4_link 115 = .ok (.aload_n 1, 1) := by decide +kernel
theorem dX4_link_116 : decode cX4_link 116 = .ok (.invokevirtual 65, 3) := by decide +kernel
theorem dX4_link_119 : decode cX4_link 119 = .ok (.aload_n 0, 1) := by decide +kernel
theorem dX4_link_120 : decode cX4_link 120 = .ok (.aload_n 1, 1) := by decide +kernel
theorem dX4_link_121 : decode cX4_link 121 = .ok (.invokevirtual 69, 3) := by decide +kernel
theorem dX4_link_124 : decode cX4_link 124 = .ok (.aload_n 0, 1) := by decide +kernel
theorem dX4_link_125 : decode cX4_link 125 = .ok (.getfield 33, 3) := by decide +kernel
theorem dX4_link_128 : decode cX4_link 128 = .ok (.iconst 0, 1) := by decide +kernel
theorem dX4_link_129 : decode cX4_link 129 = .ok (.putfield 61, 3) := by decide +kernel
theorem dX4_link_132 : decode cX4_link 132 = .ok (.return_, 1) := by decide +kernel
theorem dX4_unlink_0 : decode cX4_unlink 0 = .ok (.aload_n 1, 1) := by decide +kernel
theorem dX4_unlink_1 : decode cX4_unlink 1 = .ok (.getfield 24, 3) := by decide +kernel
theorem dX4_unlink_4 : decode cX4_unlink 4 = .ok (.aload_n 0, 1) := by decide +kernel
theorem dX4_unlink_5 : decode cX4_unlink 5 = .ok (.getfield 20, 3) := by decide +kernel
theorem dX4_unlink_8 : decode cX4_unlink 8 = .ok (.if_acmp .eq 14, 3) := by decide +kernel
theorem dX4_unlink_11 : decode cX4_unlink 11 = .ok (.aload_n 1, 1) := by decide +kernel
theorem dX4_unlink_12 : decode cX4_unlink 12 = .ok (.getfield 27, 3) := by decide +kernel
theorem dX4_unlink_15 : decode cX4_unlink 15 = .ok (.aload_n 0, 1) := by decide +kernel
theorem dX4_unlink_16 : decode cX4_unlink 16 = .ok (.getfield 20, 3) := by decide +kernel
theorem dX4_unlink_19 : decode cX4_unlink 19 = .ok (.if_acmp .ne 7, 3) := by decide +kernel
theorem dX4_unlink_22 : decode cX4_unlink 22 = .ok (.aload_n 1, 1) := by decide +kernel
theorem dX4_unlink_23 : decode cX4_unlink 23 = .ok (.goto 11, 3) := by decide +kernel
theorem dX4_unlink_26 : decode cX4_unlink 26 = .ok (.aload_n 0, 1) := by decide +kernel
theorem dX4_unlink_27 : decode cX4_unlink 27 = .ok (.aload_n 1, 1) := by decide +kernel
theorem dX4_unlink_28 : decode cX4_unlink 28 = .ok (.getfield 27, 3) := by decide +kernel
theorem dX4_unlink_31 : decode cX4_unlink 31 = .ok (.invokevirtual 73, 3) := by decide +kernel
theorem dX4_unlink_34 : decode cX4_unlink 34 = .ok (.astore_n 2, 1) := by decide +kernel
theorem dX4_unlink_35 : decode cX4_unlink 35 = .ok (.aload_n 2, 1) := by decide +kernel
theorem dX4_unlink_36 : decode cX4_unlink 36 = .ok (.astore_n 3, 1) := by decide +kernel
theorem dX4_unlink_37 : decode cX4_unlink 37 = .ok (.aload_n 3, 1) := by decide +kernel
theorem dX4_unlink_38 : decode cX4_unlink 38 = .ok (.aload_n 0, 1) := by decide +kernel
theorem dX4_unlink_39 : decode cX4_unlink 39 = .ok (.getfield 20, 3) := by decide +kernel
theorem dX4_unlink_42 : decode cX4_unlink 42 = .ok (.if_acmp .eq 21, 3) := by decide +kernel
theorem dX4_unlink_45 : decode cX4_unlink 45 = .ok (.aload_n 3, 1) := by decide +kernel
theorem dX4_unlink_46 : decode cX4_unlink 46 = .ok (.dup, 1) := by decide +kernel
theorem dX4_unlink_47 : decode cX4_unlink 47 = .ok (.getfield 36, 3) := by decide +kernel
theorem dX4_unlink_50 : decode cX4_unlink 50 = .ok (.iconst 1, 1) := by decide +kernel
theorem dX4_unlink_51 : decode cX4_unlink 51 = .ok (.isub, 1) := by decide +kernel
theorem dX4_unlink_52 : decode cX4_unlink 52 = .ok (.putfield 36, 3) := by decide +kernel
theorem dX4_unlink_55 : decode cX4_unlink 55 = .ok (.aload_n 3, 1) := by decide +kernel
theorem dX4_unlink_56 : decode cX4_unlink 56 = .ok (.getfield 30, 3) := by decide +kernel
theorem dX4_unlink_59 : decode cX4_unlink 59 = .ok (.astore_n 3, 1) := by decide +kernel
theorem dX4_unlink_60 : decode cX4_unlink 60 = .ok (.goto (-23), 3) := by decide +kernel
theorem dX4_unlink_63 : decode cX4_unlink 63 = .ok (.aload_n 2, 1) := by decide +kernel
theorem dX4_unlink_64 : decode cX4_unlink 64 = .ok (.getfield 24, 3) := by decide +kernel
theorem dX4_unlink_67 : decode cX4_unlink 67 = .ok (.aload_n 0, 1) := by decide +kernel
theorem dX4_unlink_68 : decode cX4_unlink 68 = .ok (.getfield 20, 3) := by decide +kernel
theorem dX4_unlink_71 : decode cX4_unlink 71 = .ok (.if_acmp .ne 10, 3) := by decide +kernel
theorem dX4_unlink_74 : decode cX4_unlink 74 = .ok (.aload_n 2, 1) := by decide +kernel
theorem dX4_unlink_75 : decode cX4_unlink 75 = .ok (.getfield 27, 3) := by decide +kernel
theorem dX4_unlink_78 : decode cX4_unlink 78 = .ok (.goto 7, 3) := by decide +kernel
theorem dX4_unlink_81 : decode cX4_unlink 81 = .ok (.aload_n 2, 1) := by decide +kernel
theorem dX4_unlink_82 : decode cX4_unlink 82 = .ok (.getfield 24, 3) := by decide +kernel
theorem dX4_unlink_85 : decode cX4_unlink 85 = .ok (.astore_n 3, 1) := by decide +kernel
theorem dX4_unlink_86 : decode cX4_unlink 86 = .ok (.aload_n 2, 1) := by decide +kernel
theorem dX4_unlink_87 : decode cX4_unlink 87 = .ok (.getfield 61, 3) := by decide +kernel
theorem dX4_unlink_90 : decode cX4_unlink 90 = .ok (.ifCond .ne 7, 3) := by decide +kernel
theorem dX4_unlink_93 : decode cX4_unlink 93 = .ok (.iconst 1, 1) := by decide +kernel
theorem dX4_unlink_94 : decode cX4_unlink 94 = .ok (.goto 4, 3) := by decide +kernel
theorem dX4_unlink_97 : decode cX4_unlink 97 = .ok (.iconst 0, 1) := by decide +kernel
theorem dX4_unlink_98 : decode cX4_unlink 98 = .ok (.istore 4, 2) := by decide +kernel
theorem dX4_unlink_100 : decode cX4_unlink 100 = .ok (.aload_n 0, 1) := by decide +kernel
theorem dX4_unlink_101 : decode cX4_unlink 101 = .ok (.aload_n 2, 1) := by decide +kernel
theorem dX4_unlink_102 : decode cX4_unlink 102 = .ok (.aload_n 3, 1) := by decide +kernel
theorem dX4_unlink_103 : decode cX4_unlink 103 = .ok (.invokevirtual 77, 3) := by decide +kernel
theorem dX4_unlink_106 : decode cX4_unlink 106 = .ok (.aload_n 2, 1) := by decide +kernel
theorem dX4_unlink_107 : decode cX4_unlink 107 = .ok (.aload_n 1, 1) := by decide +kernel
theorem dX4_unlink_108 : decode cX4_unlink 108 = .ok (.if_acmp .eq 9, 3) := by decide +kernel
theorem dX4_unlink_111 : decode cX4_unlink 111 = .ok (.aload_n 0, 1) := by decide +kernel
theorem dX4_unlink_112 : decode cX4_unlink 112 = .ok (.aload_n 2, 1) := by decide +kernel
theorem dX4_unlink_113 : decode cX4_unlink 113 = .ok (.aload_n 1, 1) := by decide +kernel
theorem dX4_unlink_114 : decode cX4_unlink 114 = .ok (.invokevirtual 81, 3) := by decide +kernel
theorem dX4_unlink_117 : decode cX4_unlink 117 = .ok (.iload 4, 2) := by decide +kernel
theorem dX4_unlink_119 : decode cX4_unlink 119 = .ok (.ifCond .eq 8, 3) := by decide +kernel
theorem dX4_unlink_122 : decode cX4_unlink 122 = .ok (.aload_n 0, 1) := by decide +kernel
theorem dX4_unlink_123 : decode cX4_unlink 123 = .ok (.aload_n 3, 1) := by decide +kernel
theorem dX4_unlink_124 : decode cX4_unlink 124 = .ok (.invokevirtual 84, 3) := by decide +kernel
theorem dX4_unlink_127 : decode cX4_unlink 127 = .ok (.aload_n 0, 1) := by decide +kernel
theorem dX4_unlink_128 : decode cX4_unlink 128 = .ok (.getfield 20, 3) := by decide +kernel
theorem dX4_unlink_131 : decode cX4_unlink 131 = .ok (.aload_n 0, 1) := by decide +kernel
theorem dX4_unlink_132 : decode cX4_unlink 132 = .ok (.getfield 20, 3) := by decide +kernel
theorem dX4_unlink_135 : decode cX4_unlink 135 = .ok (.putfield 30, 3) := by decide +kernel
theorem dX4_unlink_138 : decode cX4_unlink 138 = .ok (.return_, 1) := by decide +kernel
theorem dX4_least_0 : decode cX4_least 0 = .ok (.aload_n 1, 1) := by decide +kernel
theorem dX4_least_1 : decode cX4_least 1 = .ok (.astore_n 2, 1) := by decide +kernel
theorem dX4_least_2 : decode cX4_least 2 = .ok (.aload_n 2, 1) := by decide +kernel
theorem dX4_least_3 : decode cX4_least 3 = .ok (.getfield 24, 3) := by decide +kernel
theorem dX4_least_6 : decode cX4_least 6 = .ok (.aload_n 0, 1) := by decide +kernel
theorem dX4_least_7 : decode cX4_least 7 = .ok (.getfield 20, 3) := by decide +kernel
theorem dX4_least_10 : decode cX4_least 10 = .ok (.if_acmp .eq 11, 3) := by decide +kernel
theorem dX4_least_13 : decode cX4_least 13 = .ok (.aload_n 2, 1) := by decide +kernel
theorem dX4_least_14 : decode cX4_least 14 = .ok (.getfield 24, 3) := by decide +kernel
theorem dX4_least_17 : decode cX4_least 17 = .ok (.astore_n 2, 1) := by decide +kernel
theorem dX4_least_18 : decode cX4_least 18 = .ok (.goto (-16), 3) := by decide +kernel
theorem dX4_least_21 : decode cX4_least 21 = .ok (.aload_n 2, 1) := by decide +kernel
theorem dX4_least_22 : decode cX4_least 22 = .ok (.areturn, 1) := by decide +kernel
theorem dX4_replace_0 : decode cX4_replace 0 = .ok (.aload_n 1, 1) := by decide +kernel
theorem dX4_replace_1 : decode cX4_replace 1 = .ok (.getfield 30, 3) := by decide +kernel
theorem dX4_replace_4 : decode cX4_replace 4 = .ok (.astore_n 3, 1) := by decide +kernel
theorem dX4_replace_5 : decode cX4_replace 5 = .ok (.aload_n 3, 1) := by decide +kernel
theorem dX4_replace_6 : decode cX4_replace 6 = .ok (.aload_n 0, 1) := by decide +kernel
theorem dX4_replace_7 : decode cX4_replace 7 = .ok (.getfield 20, 3) := by decide +kernel
theorem dX4_replace_10 : decode cX4_replace 10 = .ok (.if_acmp .ne 11, 3) := by decide +kernel
theorem dX4_replace_13 : decode cX4_replace 13 = .ok (.aload_n 0, 1) := by decide +kernel
theorem dX4_replace_14 : decode cX4_replace 14 = .ok (.aload_n 2, 1) := by decide +kernel
theorem dX4_replace_15 : decode cX4_replace 15 = .ok (.putfield 33, 3) := by decide +kernel
theorem dX4_replace_18 : decode cX4_replace 18 = .ok (.goto 13, 3) := by decide +kernel
theorem dX4_replace_21 : decode cX4_replace 21 = .ok (.aload_n 3, 1) := by decide +kernel
theorem dX4_replace_22 : decode cX4_replace 22 = .ok (.aload_n 3, 1) := by decide +kernel
theorem dX4_replace_23 : decode cX4_replace 23 = .ok (.aload_n 1, 1) := by decide +kernel
theorem dX4_replace_24 : decode cX4_replace 24 = .ok (.invokevirtual 87, 3) := by decide +kernel
theorem dX4_replace_27 : decode cX4_replace 27 = .ok (.aload_n 2, 1) := by decide +kernel
theorem dX4_replace_28 : decode cX4_replace 28 = .ok (.invokevirtual 65, 3) := by decide +kernel
theorem dX4_replace_31 : decode cX4_replace 31 = .ok (.aload_n 2, 1) := by decide +kernel
theorem dX4_replace_32 : decode cX4_replace 32 = .ok (.aload_n 3, 1) := by decide +kernel
theorem dX4_replace_33 : decode cX4_replace 33 = .ok (.putfield 30, 3) := by decide +kernel
theorem dX4_replace_36 : decode cX4_replace 36 = .ok (.return_, 1) := by decide +kernel
theorem dX4_takeOver_0 : decode cX4_takeOver 0 = .ok (.aload_n 0, 1) := by decide +kernel
theorem dX4_takeOver_1 : decode cX4_takeOver 1 = .ok (.aload_n 2, 1) := by decide +kernel
theorem dX4_takeOver_2 : decode cX4_takeOver 2 = .ok (.aload_n 1, 1) := by decide +kernel
theorem dX4_takeOver_3 : decode cX4_takeOver 3 = .ok (.invokevirtual 77, 3) := by decide +kernel
theorem dX4_takeOver_6 : decode cX4_takeOver 6 = .ok (.aload_n 1, 1) := by decide +kernel
theorem dX4_takeOver_7 : decode cX4_takeOver 7 = .ok (.aload_n 2, 1) := by decide +kernel
theorem dX4_takeOver_8 : decode cX4_takeOver 8 = .ok (.getfield 24, 3) := by decide +kernel
theorem dX4_takeOver_11 : decode cX4_takeOver 11 = .ok (.putfield 24, 3) := by decide +kernel
theorem dX4_takeOver_14 : decode cX4_takeOver 14 = .ok (.aload_n 1, 1) := by decide +kernel
theorem dX4_takeOver_15 : decode cX4_takeOver 15 = .ok (.getfield 24, 3) := by decide +kernel
theorem dX4_takeOver_18 : decode cX4_takeOver 18 = .ok (.aload_n 1, 1) := by decide +kernel
theorem dX4_takeOver_19 : decode cX4_takeOver 19 = .ok (.putfield 30, 3) := by decide +kernel
theorem dX4_takeOver_22 : decode cX4_takeOver 22 = .ok (.aload_n 1, 1) := by decide +kernel
theorem dX4_takeOver_23 : decode cX4_takeOver 23 = .ok (.aload_n 2, 1) := by decide +kernel
theorem dX4_takeOver_24 : decode cX4_takeOver 24 = .ok (.getfield 27, 3) := by decide +kernel
theorem dX4_takeOver_27 : decode cX4_takeOver 27 = .ok (.putfield 27, 3) := by decide +kernel
theorem dX4_takeOver_30 : decode cX4_takeOver 30 = .ok (.aload_n 1, 1) := by decide +kernel
theorem dX4_takeOver_31 : decode cX4_takeOver 31 = .ok (.getfield 27, 3) := by decide +kernel
theorem dX4_takeOver_34 : decode cX4_takeOver 34 = .ok (.aload_n 1, 1) := by decide +kernel
theorem dX4_takeOver_35 : decode cX4_takeOver 35 = .ok (.putfield 30, 3) := by decide +kernel
theorem dX4_takeOver_38 : decode cX4_takeOver 38 = .ok (.aload_n 1, 1) := by decide +kernel
theorem dX4_takeOver_39 : decode cX4_takeOver 39 = .ok (.aload_n 2, 1) := by decide +kernel
theorem dX4_takeOver_40 : decode cX4_takeOver 40 = .ok (.getfield 61, 3) := by decide +kernel
theorem dX4_takeOver_43 : decode cX4_takeOver 43 = .ok (.putfield 61, 3) := by decide +kernel
theorem dX4_takeOver_46 : decode cX4_takeOver 46 = .ok (.aload_n 1, 1) := by decide +kernel
theorem dX4_takeOver_47 : decode cX4_takeOver 47 = .ok (.aload_n 2, 1) := by decide +kernel
theorem dX4_takeOver_48 : decode cX4_takeOver 48 = .ok (.getfield 36, 3) := by decide +kernel
theorem dX4_takeOver_51 : decode cX4_takeOver 51 = .ok (.putfield 36, 3) := by decide +kernel
theorem dX4_takeOver_54 : decode cX4_takeOver 54 = .ok (.return_, 1) := by decide +kernel
theorem dX4_rotate_0 : decode cX4_rotate 0 = .ok (.aload_n 1, 1) := by decide +kernel
theorem dX4_rotate_1 : decode cX4_rotate 1 = .ok (.iconst 1, 1) := by decide +kernel
theorem dX4_rotate_2 : decode cX4_rotate 2 = .ok (.iload_n 2, 1) := by decide +kernel
theorem dX4_rotate_3 : decode cX4_rotate 3 = .ok (.isub, 1) := by decide +kernel
theorem dX4_rotate_4 : decode cX4_rotate 4 = .ok (.invokevirtual 58, 3) := by decide +kernel
theorem dX4_rotate_7 : decode cX4_rotate 7 = .ok (.astore_n 3, 1) := by decide +kernel
theorem dX4_rotate_8 : decode cX4_rotate 8 = .ok (.aload_n 3, 1) := by decide +kernel
theorem dX4_rotate_9 : decode cX4_rotate 9 = .ok (.iload_n 2, 1) := by decide +kernel
theorem dX4_rotate_10 : decode cX4_rotate 10 = .ok (.invokevirtual 58, 3) := by decide +kernel
theorem dX4_rotate_13 : decode cX4_rotate 13 = .ok (.astore 4, 2) := by decide +kernel
theorem dX4_rotate_15 : decode cX4_rotate 15 = .ok (.aload_n 1, 1) := by decide +kernel
theorem dX4_rotate_16 : decode cX4_rotate 16 = .ok (.iconst 1, 1) := by decide +kernel
theorem dX4_rotate_17 : decode cX4_rotate 17 = .ok (.iload_n 2, 1) := by decide +kernel
theorem dX4_rotate_18 : decode cX4_rotate 18 = .ok (.isub, 1) := by decide +kernel
theorem dX4_rotate_19 : decode cX4_rotate 19 = .ok (.aload 4, 2) := by decide +kernel
theorem dX4_rotate_21 : decode cX4_rotate 21 = .ok (.invokevirtual 65, 3) := by decide +kernel
theorem dX4_rotate_24 : decode cX4_rotate 24 = .ok (.aload 4, 2) := by decide +kernel
theorem dX4_rotate_26 : decode cX4_rotate 26 = .ok (.aload_n 0, 1) := by decide +kernel
theorem dX4_rotate_27 : decode cX4_rotate 27 = .ok (.getfield 20, 3) := by decide +kernel
theorem dX4_rotate_30 : decode cX4_rotate 30 = .ok (.if_acmp .eq 9, 3) := by decide +kernel
theorem dX4_rotate_33 : decode cX4_rotate 33 = .ok (.aload 4, 2) := by decide +kernel
theorem dX4_rotate_35 : decode cX4_rotate 35 = .ok (.aload_n 1, 1) := by decide +kernel
theorem dX4_rotate_36 : decode cX4_rotate 36 = .ok (.putfield 30, 3) := by decide +kernel
theorem dX4_rotate_39 : decode cX4_rotate 39 = .ok (.aload_n 0, 1) := by decide +kernel
theorem dX4_rotate_40 : decode cX4_rotate 40 = .ok (.aload_n 1, 1) := by decide +kernel
theorem dX4_rotate_41 : decode cX4_rotate 41 = .ok (.aload_n 3, 1) := by decide +kernel
theorem dX4_rotate_42 : decode cX4_rotate 42 = .ok (.invokevirtual 77, 3) := by decide +kernel
theorem dX4_rotate_45 : decode cX4_rotate 45 = .ok (.aload_n 3, 1) := by decide +kernel
theorem dX4_rotate_46 : decode cX4_rotate 46 = .ok (.iload_n 2, 1) := by decide +kernel
theorem dX4_rotate_47 : decode cX4_rotate 47 = .ok (.aload_n 1, 1) := by decide +kernel
theorem dX4_rotate_48 : decode cX4_rotate 48 = .ok (.invokevirtual 65, 3) := by decide +kernel
theorem dX4_rotate_51 : decode cX4_rotate 51 = .ok (.aload_n 1, 1) := by decide +kernel
theorem dX4_rotate_52 : decode cX4_rotate 52 = .ok (.aload_n 3, 1) := by decide +kernel
theorem dX4_rotate_53 : decode cX4_rotate 53 = .ok (.putfield 30, 3) := by decide +kernel
theorem dX4_rotate_56 : decode cX4_rotate 56 = .ok (.aload_n 3, 1) := by decide +kernel
theorem dX4_rotate_57 : decode cX4_rotate 57 = .ok (.aload_n 1, 1) := by decide +kernel
theorem dX4_rotate_58 : decode cX4_rotate 58 = .ok (.getfield 36, 3) := by decide +kernel
theorem dX4_rotate_61 : decode cX4_rotate 61 = .ok (.putfield 36, 3) := by decide +kernel
theorem dX4_rotate_64 : decode cX4_rotate 64 = .ok (.aload_n 1, 1) := by decide +kernel
theorem dX4_rotate_65 : decode cX4_rotate 65 = .ok (.aload_n 1, 1) := by decide +kernel
theorem dX4_rotate_66 : decode cX4_rotate 66 = .ok (.getfield 24, 3) := by decide +kernel
theorem dX4_rotate_69 : decode cX4_rotate 69 = .ok (.getfield 36, 3) := by decide +kernel
theorem dX4_rotate_72 : decode cX4_rotate 72 = .ok (.aload_n 1, 1) := by decide +kernel
theorem dX4_rotate_73 : decode cX4_rotate 73 = .ok (.getfield 27, 3) := by decide +kernel
theorem dX4_rotate_76 : decode cX4_rotate 76 = .ok (.getfield 36, 3) := by decide +kernel
theorem dX4_rotate_79 : decode cX4_rotate 79 = .ok (.iadd, 1) := by decide +kernel
theorem dX4_rotate_80 : decode cX4_rotate 80 = .ok (.iconst 1, 1) := by decide +kernel
theorem dX4_rotate_81 : decode cX4_rotate 81 = .ok (.iadd, 1) := by decide +kernel
theorem dX4_rotate_82 : decode cX4_rotate 82 = .ok (.putfield 36, 3) := by decide +kernel
theorem dX4_rotate_85 : decode cX4_rotate 85 = .ok (.return_, 1) := by decide +kernel
theorem dX4_mendRedBelowRed_0 : decode cX4_mendRedBelowRed 0 = .ok (.aload_n 1, 1) := by decide +kernel
theorem dX4_mendRedBelowRed_1 : decode cX4_mendRedBelowRed 1 = .ok (.astore_n 2, 1) := by decide +kernel
theorem dX4_mendRedBelowRed_2 : decode cX4_mendRedBelowRed 2 = .ok (.iconst 0, 1) := by decide +kernel
theorem dX4_mendRedBelowRed_3 : decode cX4_mendRedBelowRed 3 = .ok (.istore_n 3, 1) := by decide +kernel
theorem dX4_mendRedBelowRed_4 : decode cX4_mendRedBelowRed 4 = .ok (.iload_n 3, 1) := by decide +kernel
theorem dX4_mendRedBelowRed_5 : decode cX4_mendRedBelowRed 5 = .ok (.bipush 64, 2) := by decide +kernel
theorem dX4_mendRedBelowRed_7 : decode cX4_mendRedBelowRed 7 = .ok (.if_icmp .ge 123, 3) := by decide +kernel
theorem dX4_mendRedBelowRed_10 : decode cX4_mendRedBelowRed 10 = .ok (.aload_n 2, 1) := by decide +kernel
theorem dX4_mendRedBelowRed_11 : decode cX4_mendRedBelowRed 11 = .ok (.getfield 30, 3) := by decide +kernel
theorem dX4_mendRedBelowRed_14 : decode cX4_mendRedBelowRed 14 = .ok (.getfield 61, 3) := by decide +kernel
theorem dX4_mendRedBelowRed_17 : decode cX4_mendRedBelowRed 17 = .ok (.ifCond .eq 113, 3) := by decide +kernel
theorem dX4_mendRedBelowRed_20 : decode cX4_mendRedBelowRed 20 = .ok (.aload_n 2, 1) := by decide +kernel
theorem dX4_mendRedBelowRed_21 : decode cX4_mendRedBelowRed 21 = .ok (.getfield 30, 3) := by decide +kernel
theorem dX4_mendRedBelowRed_24 : decode cX4_mendRedBelowRed 24 = .ok (.astore 4, 2) := by decide +kernel
theorem dX4_mendRedBelowRed_26 : decode cX4_mendRedBelowRed 26 = .ok (.aload 4, 2) := by decide +kernel
theorem dX4_mendRedBelowRed_28 : decode cX4_mendRedBelowRed 28 = .ok (.getfield 30, 3) := by decide +kernel
theorem dX4_mendRedBelowRed_31 : decode cX4_mendRedBelowRed 31 = .ok (.astore 5, 2) := by decide +kernel
theorem dX4_mendRedBelowRed_33 : decode cX4_mendRedBelowRed 33 = .ok (.aload 5, 2) := by decide +kernel
theorem dX4_mendRedBelowRed_35 : decode cX4_mendRedBelowRed 35 = .ok (.aload 4, 2) := by decide +kernel
theorem dX4_mendRedBelowRed_37 : decode cX4_mendRedBelowRed 37 = .ok (.invokevirtual 87, 3) := by decide +kernel
theorem dX4_mendRedBelowRed_40 : decode cX4_mendRedBelowRed 40 = .ok (.istore 6, 2) := by decide +kernel
theorem dX4_mendRedBelowRed_42 : decode cX4_mendRedBelowRed 42 = .ok (.aload 5, 2) := by decide +kernel
theorem dX4_mendRedBelowRed_44 : decode cX4_mendRedBelowRed 44 = .ok (.iconst 1, 1) := by decide +kernel
theorem dX4_mendRedBelowRed_45 : decode cX4_mendRedBelowRed 45 = .ok (.iload 6, 2) := by decide +kernel
theorem dX4_mendRedBelowRed_47 : decode cX4_mendRedBelowRed 47 = .ok (.isub, 1) := by decide +kernel
theorem dX4_mendRedBelowRed_48 : decode cX4_mendRedBelowRed 48 = .ok (.invokevirtual 58, 3) := by decide +kernel
theorem dX4_mendRedBelowRed_51 : decode cX4_mendRedBelowRed 51 = .ok (.astore 7, 2) := by decide +kernel
theorem dX4_mendRedBelowRed_53 : decode cX4_mendRedBelowRed 53 = .ok (.aload 5, 2) := by decide +kernel
theorem dX4_mendRedBelowRed_55 : decode cX4_mendRedBelowRed 55 = .ok (.iconst 1, 1) := by decide +kernel
theorem dX4_mendRedBelowRed_56 : decode cX4_mendRedBelowRed 56 = .ok (.putfield 61, 3) := by decide +kernel
theorem dX4_mendRedBelowRed_59 : decode cX4_mendRedBelowRed 59 = .ok (.aload 7, 2) := by decide +kernel
theorem dX4_mendRedBelowRed_61 : decode cX4_mendRedBelowRed 61 = .ok (.getfield 61, 3) := by decide +kernel
theorem dX4_mendRedBelowRed_64 : decode cX4_mendRedBelowRed 64 = .ok (.ifCond .eq 21, 3) := by decide +kernel
theorem dX4_mendRedBelowRed_67 : decode cX4_mendRedBelowRed 67 = .ok (.aload 4, 2) := by decide +kernel
theorem dX4_mendRedBelowRed_69 : decode cX4_mendRedBelowRed 69 = .ok (.iconst 0, 1) := by decide +kernel
theorem dX4_mendRedBelowRed_70 : decode cX4_mendRedBelowRed 70 = .ok (.putfield 61, 3) := by decide +kernel
theorem dX4_mendRedBelowRed_73 : decode cX4_mendRedBelowRed 73 = .ok (.aload 7, 2) := by decide +kernel
theorem dX4_mendRedBelowRed_75 : decode cX4_mendRedBelowRed 75 = .ok (.iconst 0, 1) := by decide +kernel
theorem dX4_mendRedBelowRed_76 : decode cX4_mendRedBelowRed 76 = .ok (.putfield 61, 3) := by decide +kernel
theorem dX4_mendRedBelowRed_79 : decode cX4_mendRedBelowRed 79 = .ok (.aload 5, 2) := by decide +kernel
theorem dX4_mendRedBelowRed_81 : decode cX4_mendRedBelowRed 81 = .ok (.astore_n 2, 1) := by decide +kernel
theorem dX4_mendRedBelowRed_82 : decode cX4_mendRedBelowRed 82 = .ok (.goto 42, 3) := by decide +kernel
theorem dX4_mendRedBelowRed_85 : decode cX4_mendRedBelowRed 85 = .ok (.aload_n 2, 1) := by decide +kernel
theorem dX4_mendRedBelowRed_86 : decode cX4_mendRedBelowRed 86 = .ok (.aload 4, 2) := by decide +kernel
theorem dX4_mendRedBelowRed_88 : decode cX4_mendRedBelowRed 88 = .ok (.iload 6, 2) := by decide +kernel
theorem dX4_mendRedBelowRed_90 : decode cX4_mendRedBelowRed 90 = .ok (.invokevirtual 58, 3) := by decide +kernel
theorem dX4_mendRedBelowRed_93 : decode cX4_mendRedBelowRed 93 = .ok (.if_acmp .eq 14, 3) := by decide +kernel
theorem dX4_mendRedBelowRed_96 : decode cX4_mendRedBelowRed 96 = .ok (.aload_n 0, 1) := by decide +kernel
theorem dX4_mendRedBelowRed_97 : decode cX4_mendRedBelowRed 97 = .ok (.aload 4, 2) := by decide +kernel
theorem dX4_mendRedBelowRed_99 : decode cX4_mendRedBelowRed 99 = .ok (.iload 6, 2) := by decide +kernel
theorem dX4_mendRedBelowRed_101 : decode cX4_mendRedBelowRed 101 = .ok (.invokevirtual 90, 3) := by decide +kernel
theorem dX4_mendRedBelowRed_104 : decode cX4_mendRedBelowRed 104 = .ok (.aload_n 2, 1) := by decide +kernel
theorem dX4_mendRedBelowRed_105 : decode cX4_mendRedBelowRed 105 = .ok (.astore 4, 2) := by decide +kernel
theorem dX4_mendRedBelowRed_107 : decode cX4_mendRedBelowRed 107 = .ok (.aload 4, 2) := by decide +kernel
theorem dX4_mendRedBelowRed_109 : decode cX4_mendRedBelowRed 109 = .ok (.iconst 0, 1) := by decide +kernel
theorem dX4_mendRedBelowRed_110 : decode cX4_mendRedBelowRed 110 = .ok (.putfield 61, 3) := by decide +kernel
theorem dX4_mendRedBelowRed_113 : decode cX4_mendRedBelowRed 113 = .ok (.aload_n 0, 1) := by decide +kernel
theorem dX4_mendRedBelowRed_114 : decode cX4_mendRedBelowRed 114 = .ok (.aload 5, 2) := by decide +kernel
theorem dX4_mendRedBelowRed_116 : decode cX4_mendRedBelowRed 116 = .ok (.iconst 1, 1) := by decide +kernel
theorem dX4_mendRedBelowRed_117 : decode cX4_mendRedBelowRed 117 = .ok (.iload 6, 2) := by decide +kernel
theorem dX4_mendRedBelowRed_119 : decode cX4_mendRedBelowRed 119 = .ok (.isub, 1) := by decide +kernel
theorem dX4_mendRedBelowRed_120 : decode cX4_mendRedBelowRed 120 = .ok (.invokevirtual 90, 3) := by decide +kernel
theorem dX4_mendRedBelowRed_123 : decode cX4_mendRedBelowRed 123 = .ok (.return_, 1) := by decide +kernel
theorem dX4_mendRedBelowRed_124 : decode cX4_mendRedBelowRed 124 = .ok (.iinc 3 1, 3) := by decide +kernel
theorem dX4_mendRedBelowRed_127 : decode cX4_mendRedBelowRed 127 = .ok (.goto (-123), 3) := by decide +kernel
theorem dX4_mendRedBelowRed_130 : decode cX4_mendRedBelowRed 130 = .ok (.return_, 1) := by decide +kernel
theorem dX4_mendMissingBlack_0 : decode cX4_mendMissingBlack 0 = .ok (.aload_n 1, 1) := by decide +kernel
theorem dX4_mendMissingBlack_1 : decode cX4_mendMissingBlack 1 = .ok (.astore_n 2, 1) := by decide +kernel
theorem dX4_mendMissingBlack_2 : decode cX4_mendMissingBlack 2 = .ok (.iconst 0, 1) := by decide +kernel
theorem dX4_mendMissingBlack_3 : decode cX4_mendMissingBlack 3 = .ok (.istore_n 3, 1) := by decide +kernel
theorem dX4_mendMissingBlack_4 : decode cX4_mendMissingBlack 4 = .ok (.iload_n 3, 1) := by decide +kernel
theorem dX4_mendMissingBlack_5 : decode cX4_mendMissingBlack 5 = .ok (.bipush 64, 2) := by decide +kernel
theorem dX4_mendMissingBlack_7 : decode cX4_mendMissingBlack 7 = .ok (.if_icmp .ge 140, 3) := by decide +kernel
theorem dX4_mendMissingBlack_10 : decode cX4_mendMissingBlack 10 = .ok (.aload_n 2, 1) := by decide +kernel
theorem dX4_mendMissingBlack_11 : decode cX4_mendMissingBlack 11 = .ok (.aload_n 0, 1) := by decide +kernel
theorem dX4_mendMissingBlack_12 : decode cX4_mendMissingBlack 12 = .ok (.getfield 33, 3) := by decide +kernel
theorem dX4_mendMissingBlack_15 : decode cX4_mendMissingBlack 15 = .ok (.if_acmp .eq 132, 3) := by decide +kernel
theorem dX4_mendMissingBlack_18 : decode cX4_mendMissingBlack 18 = .ok (.aload_n 2, 1) := by decide +kernel
theorem dX4_mendMissingBlack_19 : decode cX4_mendMissingBlack 19 = .ok (.getfield 61, 3) := by decide +kernel
theorem dX4_mendMissingBlack_22 : decode cX4_mendMissingBlack 22 = .ok (.ifCond .ne 125, 3) := by decide +kernel
theorem dX4_mendMissingBlack_25 : decode cX4_mendMissingBlack 25 = .ok (.aload_n 2, 1) := by decide +kernel
theorem dX4_mendMissingBlack_26 : decode cX4_mendMissingBlack 26 = .ok (.getfield 30, 3) := by decide +kernel
theorem dX4_mendMissingBlack_29 : decode cX4_mendMissingBlack 29 = .ok (.astore 4, 2) := by decide +kernel
theorem dX4_mendMissingBlack_31 : decode cX4_mendMissingBlack 31 = .ok (.aload 4, 2) := by decide +kernel
theorem dX4_mendMissingBlack_33 : decode cX4_mendMissingBlack 33 = .ok (.aload_n 2, 1) := by decide +kernel
theorem dX4_mendMissingBlack_34 : decode cX4_mendMissingBlack 34 = .ok (.invokevirtual 87, 3) := by decide +kernel
theorem dX4_mendMissingBlack_37 : decode cX4_mendMissingBlack 37 = .ok (.istore 5, 2) := by decide +kernel
theorem dX4_mendMissingBlack_39 : decode cX4_mendMissingBlack 39 = .ok (.aload 4, 2) := by decide +kernel
theorem dX4_mendMissingBlack_41 : decode cX4_mendMissingBlack 41 = .ok (.iconst 1, 1) := by decide +kernel
theorem dX4_mendMissingBlack_42 : decode cX4_mendMissingBlack 42 = .ok (.iload 5, 2) := by decide +kernel
theorem dX4_mendMissingBlack_44 : decode cX4_mendMissingBlack 44 = .ok (.isub, 1) := by decide +kernel
theorem dX4_mendMissingBlack_45 : decode cX4_mendMissingBlack 45 = .ok (.invokevirtual 58, 3) := by decide +kernel
theorem dX4_mendMissingBlack_48 : decode cX4_mendMissingBlack 48 = .ok (.getfield 61, 3) := by decide +kernel
theorem dX4_mendMissingBlack_51 : decode cX4_mendMissingBlack 51 = .ok (.ifCond .eq 30, 3) := by decide +kernel
theorem dX4_mendMissingBlack_54 : decode cX4_mendMissingBlack 54 = .ok (.aload 4, 2) := by decide +kernel
theorem dX4_mendMissingBlack_56 : decode cX4_mendMissingBlack 56 = .ok (.iconst 1, 1) := by decide +kernel
theorem dX4_mendMissingBlack_57 : decode cX4_mendMissingBlack 57 = .ok (.iload 5, 2) := by decide +kernel
theorem dX4_mendMissingBlack_59 : decode cX4_mendMissingBlack 59 = .ok (.isub, 1) := by decide +kernel
theorem dX4_mendMissingBlack_60 : decode cX4_mendMissingBlack 60 = .ok (.invokevirtual 58, 3) := by decide +kernel
theorem dX4_mendMissingBlack_63 : decode cX4_mendMissingBlack 63 = .ok (.iconst 0, 1) := by decide +kernel
theorem dX4_mendMissingBlack_64 : decode cX4_mendMissingBlack 64 = .ok (.putfield 61, 3) := by decide +kernel
theorem dX4_mendMissingBlack_67 : decode cX4_mendMissingBlack 67 = .ok (.aload 4, 2) := by decide +kernel
theorem dX4_mendMissingBlack_69 : decode cX4_mendMissingBlack 69 = .ok (.iconst 1, 1) := by decide +kernel
theorem dX4_mendMissingBlack_70 : decode cX4_mendMissingBlack 70 = .ok (.putfield 61, 3) := by decide +kernel
theorem dX4_mendMissingBlack_73 : decode cX4_mendMissingBlack 73 = .ok (.aload_n 0, 1) := by decide +kernel
theorem dX4_mendMissingBlack_74 : decode cX4_mendMissingBlack 74 = .ok (.aload 4, 2) := by decide +kernel
theorem dX4_mendMissingBlack_76 : decode cX4_mendMissingBlack 76 = .ok (.iload 5, 2) := by decide +kernel
theorem dX4_mendMissingBlack_78 : decode cX4_mendMissingBlack 78 = .ok (.invokevirtual 90, 3) := by decide +kernel
theorem dX4_mendMissingBlack_81 : decode cX4_mendMissingBlack 81 = .ok (.aload 4, 2) := by decide +kernel
theorem dX4_mendMissingBlack_83 : decode cX4_mendMissingBlack 83 = .ok (.iconst 1, 1) := by decide +kernel
theorem dX4_mendMissingBlack_84 : decode cX4_mendMissingBlack 84 = .ok (.iload 5, 2) := by decide +kernel
theorem dX4_mendMissingBlack_86 : decode cX4_mendMissingBlack 86 = .ok (.isub, 1) := by decide +kernel
theorem dX4_mendMissingBlack_87 : decode cX4_mendMissingBlack 87 = .ok (.invokevirtual 58, 3) := by decide +kernel
theorem dX4_mendMissingBlack_90 : decode cX4_mendMissingBlack 90 = .ok (.astore 6, 2) := by decide +kernel
theorem dX4_mendMissingBlack_92 : decode cX4_mendMissingBlack 92 = .ok (.aload 6, 2) := by decide +kernel
theorem dX4_mendMissingBlack_94 : decode cX4_mendMissingBlack 94 = .ok (.getfield 24, 3) := by decide +kernel
theorem dX4_mendMissingBlack_97 : decode cX4_mendMissingBlack 97 = .ok (.getfield 61, 3) := by decide +kernel
theorem dX4_mendMissingBlack_100 : decode cX4_mendMissingBlack 100 = .ok (.ifCond .ne 14, 3) := by decide +kernel
theorem dX4_mendMissingBlack_103 : decode cX4_mendMissingBlack 103 = .ok (.aload 6, 2) := by decide +kernel
theorem dX4_mendMissingBlack_105 : decode cX4_mendMissingBlack 105 = .ok (.getfield 27, 3) := by decide +kernel
theorem dX4_mendMissingBlack_108 : decode cX4_mendMissingBlack 108 = .ok (.getfield 61, 3) := by decide +kernel
theorem dX4_mendMissingBlack_111 : decode cX4_mendMissingBlack 111 = .ok (.ifCond .eq 21, 3) := by decide +kernel
theorem dX4_mendMissingBlack_114 : decode cX4_mendMissingBlack 114 = .ok (.aload_n 0, 1) := by decide +kernel
theorem dX4_mendMissingBlack_115 : decode cX4_mendMissingBlack 115 = .ok (.aload 6, 2) := by decide +kernel
theorem dX4_mendMissingBlack_117 : decode cX4_mendMissingBlack 117 = .ok (.aload 4, 2) := by decide +kernel
theorem dX4_mendMissingBlack_119 : decode cX4_mendMissingBlack 119 = .ok (.iload 5, 2) := by decide +kernel
theorem dX4_mendMissingBlack_121 : decode cX4_mendMissingBlack 121 = .ok (.invokevirtual 94, 3) := by decide +kernel
theorem dX4_mendMissingBlack_124 : decode cX4_mendMissingBlack 124 = .ok (.aload_n 0, 1) := by decide +kernel
theorem dX4_mendMissingBlack_125 : decode cX4_mendMissingBlack 125 = .ok (.getfield 33, 3) := by decide +kernel
theorem dX4_mendMissingBlack_128 : decode cX4_mendMissingBlack 128 = .ok (.astore_n 2, 1) := by decide +kernel
theorem dX4_mendMissingBlack_129 : decode cX4_mendMissingBlack 129 = .ok (.goto 12, 3) := by decide +kernel
theorem dX4_mendMissingBlack_132 : decode cX4_mendMissingBlack 132 = .ok (.aload 6, 2) := by decide +kernel
theorem dX4_mendMissingBlack_134 : decode cX4_mendMissingBlack 134 = .ok (.iconst 1, 1) := by decide +kernel
theorem dX4_mendMissingBlack_135 : decode cX4_mendMissingBlack 135 = .ok (.putfield 61, 3) := by decide +kernel
theorem dX4_mendMissingBlack_138 : decode cX4_mendMissingBlack 138 = .ok (.aload 4, 2) := by decide +kernel
theorem dX4_mendMissingBlack_140 : decode cX4_mendMissingBlack 140 = .ok (.astore_n 2, 1) := by decide +kernel
theorem dX4_mendMissingBlack_141 : decode cX4_mendMissingBlack 141 = .ok (.iinc 3 1, 3) := by decide +kernel
theorem dX4_mendMissingBlack_144 : decode cX4_mendMissingBlack 144 = .ok (.goto (-140), 3) := by decide +kernel
theorem dX4_mendMissingBlack_147 : decode cX4_mendMissingBlack 147 = .ok (.aload_n 2, 1) := by decide +kernel
theorem dX4_mendMissingBlack_148 : decode cX4_mendMissingBlack 148 = .ok (.iconst 0, 1) := by decide +kernel
theorem dX4_mendMissingBlack_149 : decode cX4_mendMissingBlack 149 = .ok (.putfield 61, 3) := by decide +kernel
theorem dX4_mendMissingBlack_152 : decode cX4_mendMissingBlack 152 = .ok (.return_, 1) := by decide +kernel
theorem dX4_giveBlackFrom_0 : decode cX4_giveBlackFrom 0 = .ok (.aload_n 1, 1) := by decide +kernel
theorem dX4_giveBlackFrom_1 : decode cX4_giveBlackFrom 1 = .ok (.astore 4, 2) := by decide +kernel
theorem dX4_giveBlackFrom_3 : decode cX4_giveBlackFrom 3 = .ok (.aload_n 1, 1) := by decide +kernel
theorem dX4_giveBlackFrom_4 : decode cX4_giveBlackFrom 4 = .ok (.iconst 1, 1) := by decide +kernel
theorem dX4_giveBlackFrom_5 : decode cX4_giveBlackFrom 5 = .ok (.iload_n 3, 1) := by decide +kernel
theorem dX4_giveBlackFrom_6 : decode cX4_giveBlackFrom 6 = .ok (.isub, 1) := by decide +kernel
theorem dX4_giveBlackFrom_7 : decode cX4_giveBlackFrom 7 = .ok (.invokevirtual 58, 3) := by decide +kernel
theorem dX4_giveBlackFrom_10 : decode cX4_giveBlackFrom 10 = .ok (.getfield 61, 3) := by decide +kernel
theorem dX4_giveBlackFrom_13 : decode cX4_giveBlackFrom 13 = .ok (.ifCond .ne 18, 3) := by decide +kernel
theorem dX4_giveBlackFrom_16 : decode cX4_giveBlackFrom 16 = .ok (.aload_n 1, 1) := by decide +kernel
theorem dX4_giveBlackFrom_17 : decode cX4_giveBlackFrom 17 = .ok (.iload_n 3, 1) := by decide +kernel
theorem dX4_giveBlackFrom_18 : decode cX4_giveBlackFrom 18 = .ok (.invokevirtual 58, 3) := by decide +kernel
theorem dX4_giveBlackFrom_21 : decode cX4_giveBlackFrom 21 = .ok (.astore 4, 2) := by decide +kernel
theorem dX4_giveBlackFrom_23 : decode cX4_giveBlackFrom 23 = .ok (.aload_n 0, 1) := by decide +kernel
theorem dX4_giveBlackFrom_24 : decode cX4_giveBlackFrom 24 = .ok (.aload_n 1, 1) := by decide +kernel
theorem dX4_giveBlackFrom_25 : decode cX4_giveBlackFrom 25 = .ok (.iconst 1, 1) := by decide +kernel
theorem dX4_giveBlackFrom_26 : decode cX4_giveBlackFrom 26 = .ok (.iload_n 3, 1) := by decide +kernel
theorem dX4_giveBlackFrom_27 : decode cX4_giveBlackFrom 27 = .ok (.isub, 1) := by decide +kernel
theorem dX4_giveBlackFrom_28 : decode cX4_giveBlackFrom 28 = .ok (.invokevirtual 90, 3) := by decide +kernel
theorem dX4_giveBlackFrom_31 : decode cX4_giveBlackFrom 31 = .ok (.aload 4, 2) := by decide +kernel
theorem dX4_giveBlackFrom_33 : decode cX4_giveBlackFrom 33 = .ok (.aload_n 2, 1) := by decide +kernel
theorem dX4_giveBlackFrom_34 : decode cX4_giveBlackFrom 34 = .ok (.getfield 61, 3) := by decide +kernel
theorem dX4_giveBlackFrom_37 : decode cX4_giveBlackFrom 37 = .ok (.putfield 61, 3) := by decide +kernel
theorem dX4_giveBlackFrom_40 : decode cX4_giveBlackFrom 40 = .ok (.aload 4, 2) := by decide +kernel
theorem dX4_giveBlackFrom_42 : decode cX4_giveBlackFrom 42 = .ok (.iconst 1, 1) := by decide +kernel
theorem dX4_giveBlackFrom_43 : decode cX4_giveBlackFrom 43 = .ok (.iload_n 3, 1) := by decide +kernel
theorem dX4_giveBlackFrom_44 : decode cX4_giveBlackFrom 44 = .ok (.isub, 1) := by decide +kernel
theorem dX4_giveBlackFrom_45 : decode cX4_giveBlackFrom 45 = .ok (.invokevirtual 58, 3) := by decide +kernel
theorem dX4_giveBlackFrom_48 : decode cX4_giveBlackFrom 48 = .ok (.iconst 0, 1) := by decide +kernel
theorem dX4_giveBlackFrom_49 : decode cX4_giveBlackFrom 49 = .ok (.putfield 61, 3) := by decide +kernel
theorem dX4_giveBlackFrom_52 : decode cX4_giveBlackFrom 52 = .ok (.aload_n 2, 1) := by decide +kernel
theorem dX4_giveBlackFrom_53 : decode cX4_giveBlackFrom 53 = .ok (.iconst 0, 1) := by decide +kernel
theorem dX4_giveBlackFrom_54 : decode cX4_giveBlackFrom 54 = .ok (.putfield 61, 3) := by decide +kernel
theorem dX4_giveBlackFrom_57 : decode cX4_giveBlackFrom 57 = .ok (.aload_n 0, 1) := by decide +kernel
theorem dX4_giveBlackFrom_58 : decode cX4_giveBlackFrom 58 = .ok (.aload_n 2, 1) := by decide +kernel
theorem dX4_giveBlackFrom_59 : decode cX4_giveBlackFrom 59 = .ok (.iload_n 3, 1) := by decide +kernel
theorem dX4_giveBlackFrom_60 : decode cX4_giveBlackFrom 60 = .ok (.invokevirtual 90, 3) := by decide +kernel
theorem dX4_giveBlackFrom_63 : decode cX4_giveBlackFrom 63 = .ok (.return_, 1) := by decide +kernel
theorem dX4_isSound_0 : decode cX4_isSound 0 = .ok (.aload_n 0, 1) := by decide +kernel
theorem dX4_isSound_1 : decode cX4_isSound 1 = .ok (.getfield 33, 3) := by decide +kernel
theorem dX4_isSound_4 : decode cX4_isSound 4 = .ok (.getfield 61, 3) := by decide +kernel
theorem dX4_isSound_7 : decode cX4_isSound 7 = .ok (.ifCond .ne 37, 3) := by decide +kernel
theorem dX4_isSound_10 : decode cX4_isSound 10 = .ok (.aload_n 0, 1) := by decide +kernel
theorem dX4_isSound_11 : decode cX4_isSound 11 = .ok (.getfield 33, 3) := by decide +kernel
theorem dX4_isSound_14 : decode cX4_isSound 14 = .ok (.getfield 30, 3) := by decide +kernel
theorem dX4_isSound_17 : decode cX4_isSound 17 = .ok (.aload_n 0, 1) := by decide +kernel
theorem dX4_isSound_18 : decode cX4_isSound 18 = .ok (.getfield 20, 3) := by decide +kernel
theorem dX4_isSound_21 : decode cX4_isSound 21 = .ok (.if_acmp .ne 23, 3) := by decide +kernel
theorem dX4_isSound_24 : decode cX4_isSound 24 = .ok (.aload_n 0, 1) := by decide +kernel
theorem dX4_isSound_25 : decode cX4_isSound 25 = .ok (.getfield 20, 3) := by decide +kernel
theorem dX4_isSound_28 : decode cX4_isSound 28 = .ok (.getfield 61, 3) := by decide +kernel
theorem dX4_isSound_31 : decode cX4_isSound 31 = .ok (.ifCond .ne 13, 3) := by decide +kernel
theorem dX4_isSound_34 : decode cX4_isSound 34 = .ok (.aload_n 0, 1) := by decide +kernel
theorem dX4_isSound_35 : decode cX4_isSound 35 = .ok (.getfield 20, 3) := by decide +kernel
theorem dX4_isSound_38 : decode cX4_isSound 38 = .ok (.getfield 36, 3) := by decide +kernel
theorem dX4_isSound_41 : decode cX4_isSound 41 = .ok (.ifCond .eq 5, 3) := by decide +kernel
theorem dX4_isSound_44 : decode cX4_isSound 44 = .ok (.iconst 0, 1) := by decide +kernel
theorem dX4_isSound_45 : decode cX4_isSound 45 = .ok (.ireturn, 1) := by decide +kernel
theorem dX4_isSound_46 : decode cX4_isSound 46 = .ok (.bipush 32, 2) := by decide +kernel
theorem dX4_isSound_48 : decode cX4_isSound 48 = .ok (.aload_n 0, 1) := by decide +kernel
theorem dX4_isSound_49 : decode cX4_isSound 49 = .ok (.getfield 33, 3) := by decide +kernel
theorem dX4_isSound_52 : decode cX4_isSound 52 = .ok (.getfield 36, 3) := by decide +kernel
theorem dX4_isSound_55 : decode cX4_isSound 55 = .ok (.iconst 1, 1) := by decide +kernel
theorem dX4_isSound_56 : decode cX4_isSound 56 = .ok (.iadd, 1) := by decide +kernel
theorem dX4_isSound_57 : decode cX4_isSound 57 = .ok (.invokestatic 98, 3) := by decide +kernel
theorem dX4_isSound_60 : decode cX4_isSound 60 = .ok (.isub, 1) := by decide +kernel
theorem dX4_isSound_61 : decode cX4_isSound 61 = .ok (.istore_n 1, 1) := by decide +kernel
theorem dX4_isSound_62 : decode cX4_isSound 62 = .ok (.bipush 64, 2) := by decide +kernel
theorem dX4_isSound_64 : decode cX4_isSound 64 = .ok (.iconst 2, 1) := by decide +kernel
theorem dX4_isSound_65 : decode cX4_isSound 65 = .ok (.iload_n 1, 1) := by decide +kernel
theorem dX4_isSound_66 : decode cX4_isSound 66 = .ok (.imul, 1) := by decide +kernel
theorem dX4_isSound_67 : decode cX4_isSound 67 = .ok (.invokestatic 104, 3) := by decide +kernel
theorem dX4_isSound_70 : decode cX4_isSound 70 = .ok (.istore_n 2, 1) := by decide +kernel
theorem dX4_isSound_71 : decode cX4_isSound 71 = .ok (.aload_n 0, 1) := by decide +kernel
theorem dX4_isSound_72 : decode cX4_isSound 72 = .ok (.aload_n 0, 1) := by decide +kernel
theorem dX4_isSound_73 : decode cX4_isSound 73 = .ok (.getfield 33, 3) := by decide +kernel
theorem dX4_isSound_76 : decode cX4_isSound 76 = .ok (.aload_n 0, 1) := by decide +kernel
theorem dX4_isSound_77 : decode cX4_isSound 77 = .ok (.getfield 20, 3) := by decide +kernel
theorem dX4_isSound_80 : decode cX4_isSound 80 = .ok (.aload_n 0, 1) := by decide +kernel
theorem dX4_isSound_81 : decode cX4_isSound 81 = .ok (.getfield 20, 3) := by decide +kernel
theorem dX4_isSound_84 : decode cX4_isSound 84 = .ok (.iload_n 2, 1) := by decide +kernel
theorem dX4_isSound_85 : decode cX4_isSound 85 = .ok (.invokestatic 110, 3) := by decide +kernel
theorem dX4_isSound_88 : decode cX4_isSound 88 = .ok (.iconst (-1), 1) := by decide +kernel
theorem dX4_isSound_89 : decode cX4_isSound 89 = .ok (.if_icmp .eq 7, 3) := by decide +kernel
theorem dX4_isSound_92 : decode cX4_isSound 92 = .ok (.iconst 1, 1) := by decide +kernel
theorem dX4_isSound_93 : decode cX4_isSound 93 = .ok (.goto 4, 3) := by decide +kernel
theorem dX4_isSound_96 : decode cX4_isSound 96 = .ok (.iconst 0, 1) := by decide +kernel
theorem dX4_isSound_97 : decode cX4_isSound 97 = .ok (.ireturn, 1) := by decide +kernel
theorem dX4_blackOnes_0 : decode cX4_blackOnes 0 = .ok (.aload_n 1, 1) := by decide +kernel
theorem dX4_blackOnes_1 : decode cX4_blackOnes 1 = .ok (.aload_n 0, 1) := by decide +kernel
theorem dX4_blackOnes_2 : decode cX4_blackOnes 2 = .ok (.getfield 20, 3) := by decide +kernel
theorem dX4_blackOnes_5 : decode cX4_blackOnes 5 = .ok (.if_acmp .ne 5, 3) := by decide +kernel
theorem dX4_blackOnes_8 : decode cX4_blackOnes 8 = .ok (.iconst 0, 1) := by decide +kernel
theorem dX4_blackOnes_9 : decode cX4_blackOnes 9 = .ok (.ireturn, 1) := by decide +kernel
theorem dX4_blackOnes_10 : decode cX4_blackOnes 10 = .ok (.iload 4, 2) := by decide +kernel
theorem dX4_blackOnes_12 : decode cX4_blackOnes 12 = .ok (.ifCond .eq 21, 3) := by decide +kernel
theorem dX4_blackOnes_15 : decode cX4_blackOnes 15 = .ok (.aload_n 0, 1) := by decide +kernel
theorem dX4_blackOnes_16 : decode cX4_blackOnes 16 = .ok (.aload_n 1, 1) := by decide +kernel
theorem dX4_blackOnes_17 : decode cX4_blackOnes 17 = .ok (.invokevirtual 114, 3) := by decide +kernel
theorem dX4_blackOnes_20 : decode cX4_blackOnes 20 = .ok (.ifCond .eq 13, 3) := by decide +kernel
theorem dX4_blackOnes_23 : decode cX4_blackOnes 23 = .ok (.aload_n 0, 1) := by decide +kernel
theorem dX4_blackOnes_24 : decode cX4_blackOnes 24 = .ok (.aload_n 1, 1) := by decide +kernel
theorem dX4_blackOnes_25 : decode cX4_blackOnes 25 = .ok (.aload_n 2, 1) := by decide +kernel
theorem dX4_blackOnes_26 : decode cX4_blackOnes 26 = .ok (.aload_n 3, 1) := by decide +kernel
theorem dX4_blackOnes_27 : decode cX4_blackOnes 27 = .ok (.invokevirtual 118, 3) := by decide +kernel
theorem dX4_blackOnes_30 : decode cX4_blackOnes 30 = .ok (.ifCond .ne 5, 3) := by decide +kernel
theorem dX4_blackOnes_33 : decode cX4_blackOnes 33 = .ok (.iconst (-1), 1) := by decide +kernel
theorem dX4_blackOnes_34 : decode cX4_blackOnes 34 = .ok (.ireturn, 1) := by decide +kernel
theorem dX4_blackOnes_35 : decode cX4_blackOnes 35 = .ok (.aload_n 0, 1) := by decide +kernel
theorem dX4_blackOnes_36 : decode cX4_blackOnes 36 = .ok (.aload_n 1, 1) := by decide +kernel
theorem dX4_blackOnes_37 : decode cX4_blackOnes 37 = .ok (.getfield 24, 3) := by decide +kernel
theorem dX4_blackOnes_40 : decode cX4_blackOnes 40 = .ok (.aload_n 2, 1) := by decide +kernel
theorem dX4_blackOnes_41 : decode cX4_blackOnes 41 = .ok (.aload_n 1, 1) := by decide +kernel
theorem dX4_blackOnes_42 : decode cX4_blackOnes 42 = .ok (.iload 4, 2) := by decide +kernel
theorem dX4_blackOnes_44 : decode cX4_blackOnes 44 = .ok (.iconst 1, 1) := by decide +kernel
theorem dX4_blackOnes_45 : decode cX4_blackOnes 45 = .ok (.isub, 1) := by decide +kernel
theorem dX4_blackOnes_46 : decode cX4_blackOnes 46 = .ok (.invokestatic 110, 3) := by decide +kernel
theorem dX4_blackOnes_49 : decode cX4_blackOnes 49 = .ok (.istore 5, 2) := by decide +kernel
theorem dX4_blackOnes_51 : decode cX4_blackOnes 51 = .ok (.aload_n 0, 1) := by decide +kernel
theorem dX4_blackOnes_52 : decode cX4_blackOnes 52 = .ok (.aload_n 1, 1) := by decide +kernel
theorem dX4_blackOnes_53 : decode cX4_blackOnes 53 = .ok (.getfield 27, 3) := by decide +kernel
theorem dX4_blackOnes_56 : decode cX4_blackOnes 56 = .ok (.aload_n 1, 1) := by decide +kernel
theorem dX4_blackOnes_57 : decode cX4_blackOnes 57 = .ok (.aload_n 3, 1) := by decide +kernel
theorem dX4_blackOnes_58 : decode cX4_blackOnes 58 = .ok (.iload 4, 2) := by decide +kernel
theorem dX4_blackOnes_60 : decode cX4_blackOnes 60 = .ok (.iconst 1, 1) := by decide +kernel
theorem dX4_blackOnes_61 : decode cX4_blackOnes 61 = .ok (.isub, 1) := by decide +kernel
theorem dX4_blackOnes_62 : decode cX4_blackOnes 62 = .ok (.invokestatic 110, 3) := by decide +kernel
theorem dX4_blackOnes_65 : decode cX4_blackOnes 65 = .ok (.istore 6, 2) := by decide +kernel
theorem dX4_blackOnes_67 : decode cX4_blackOnes 67 = .ok (.iload 5, 2) := by decide +kernel
theorem dX4_blackOnes_69 : decode cX4_blackOnes 69 = .ok (.iconst (-1), 1) := by decide +kernel
theorem dX4_blackOnes_70 : decode cX4_blackOnes 70 = .ok (.if_icmp .eq 10, 3) := by decide +kernel
theorem dX4_blackOnes_73 : decode cX4_blackOnes 73 = .ok (.iload 5, 2) := by decide +kernel
theorem dX4_blackOnes_75 : decode cX4_blackOnes 75 = .ok (.iload 6, 2) := by decide +kernel
theorem dX4_blackOnes_77 : decode cX4_blackOnes 77 = .ok (.if_icmp .eq 5, 3) := by decide +kernel
theorem dX4_blackOnes_80 : decode cX4_blackOnes 80 = .ok (.iconst (-1), 1) := by decide +kernel
theorem dX4_blackOnes_81 : decode cX4_blackOnes 81 = .ok (.ireturn, 1) := by decide +kernel
theorem dX4_blackOnes_82 : decode cX4_blackOnes 82 = .ok (.aload_n 1, 1) := by decide +kernel
theorem dX4_blackOnes_83 : decode cX4_blackOnes 83 = .ok (.getfield 61, 3) := by decide +kernel
theorem dX4_blackOnes_86 : decode cX4_blackOnes 86 = .ok (.ifCond .eq 8, 3) := by decide +kernel
theorem dX4_blackOnes_89 : decode cX4_blackOnes 89 = .ok (.iload 5, 2) := by decide +kernel
theorem dX4_blackOnes_91 : decode cX4_blackOnes 91 = .ok (.goto 7, 3) := by decide +kernel
theorem dX4_blackOnes_94 : decode cX4_blackOnes 94 = .ok (.iload 5, 2) := by decide +kernel
theorem dX4_blackOnes_96 : decode cX4_blackOnes 96 = .ok (.iconst 1, 1) := by decide +kernel
theorem dX4_blackOnes_97 : decode cX4_blackOnes 97 = .ok (.iadd, 1) := by decide +kernel
theorem dX4_blackOnes_98 : decode cX4_blackOnes 98 = .ok (.ireturn, 1) := by decide +kernel
theorem dX4_isLinkedWell_0 : decode cX4_isLinkedWell 0 = .ok (.aload_n 1, 1) := by decide +kernel
theorem dX4_isLinkedWell_1 : decode cX4_isLinkedWell 1 = .ok (.getfield 24, 3) := by decide +kernel
theorem dX4_isLinkedWell_4 : decode cX4_isLinkedWell 4 = .ok (.aload_n 0, 1) := by decide +kernel
theorem dX4_isLinkedWell_5 : decode cX4_isLinkedWell 5 = .ok (.getfield 20, 3) := by decide +kernel
theorem dX4_isLinkedWell_8 : decode cX4_isLinkedWell 8 = .ok (.if_acmp .eq 14, 3) := by decide +kernel
theorem dX4_isLinkedWell_11 : decode cX4_isLinkedWell 11 = .ok (.aload_n 1, 1) := by decide +kernel
theorem dX4_isLinkedWell_12 : decode cX4_isLinkedWell 12 = .ok (.getfield 24, 3) := by decide +kernel
theorem dX4_isLinkedWell_15 : decode cX4_isLinkedWell 15 = .ok (.getfield 30, 3) := by decide +kernel
theorem dX4_isLinkedWell_18 : decode cX4_isLinkedWell 18 = .ok (.aload_n 1, 1) := by decide +kernel
theorem dX4_isLinkedWell_19 : decode cX4_isLinkedWell 19 = .ok (.if_acmp .ne 7, 3) := by decide +kernel
theorem dX4_isLinkedWell_22 : decode cX4_isLinkedWell 22 = .ok (.iconst 1, 1) := by decide +kernel
theorem dX4_isLinkedWell_23 : decode cX4_isLinkedWell 23 = .ok (.goto 4, 3) := by decide +kernel
theorem dX4_isLinkedWell_26 : decode cX4_isLinkedWell 26 = .ok (.iconst 0, 1) := by decide +kernel
theorem dX4_isLinkedWell_27 : decode cX4_isLinkedWell 27 = .ok (.istore_n 2, 1) := by decide +kernel
theorem dX4_isLinkedWell_28 : decode cX4_isLinkedWell 28 = .ok (.aload_n 1, 1) := by decide +kernel
theorem dX4_isLinkedWell_29 : decode cX4_isLinkedWell 29 = .ok (.getfield 27, 3) := by decide +kernel
theorem dX4_isLinkedWell_32 : decode cX4_isLinkedWell 32 = .ok (.aload_n 0, 1) := by decide +kernel
theorem dX4_isLinkedWell_33 : decode cX4_isLinkedWell 33 = .ok (.getfield 20, 3) := by decide +kernel
theorem dX4_isLinkedWell_36 : decode cX4_isLinkedWell 36 = .ok (.if_acmp .eq 14, 3) := by decide +kernel
theorem dX4_isLinkedWell_39 : decode cX4_isLinkedWell 39 = .ok (.aload_n 1, 1) := by decide +kernel
theorem dX4_isLinkedWell_40 : decode cX4_isLinkedWell 40 = .ok (.getfield 27, 3) := by decide +kernel
theorem dX4_isLinkedWell_43 : decode cX4_isLinkedWell 43 = .ok (.getfield 30, 3) := by decide +kernel
theorem dX4_isLinkedWell_46 : decode cX4_isLinkedWell 46 = .ok (.aload_n 1, 1) := by decide +kernel
theorem dX4_isLinkedWell_47 : decode cX4_isLinkedWell 47 = .ok (.if_acmp .ne 7, 3) := by decide +kernel
theorem dX4_isLinkedWell_50 : decode cX4_isLinkedWell 50 = .ok (.iconst 1, 1) := by decide +kernel
theorem dX4_isLinkedWell_51 : decode cX4_isLinkedWell 51 = .ok (.goto 4, 3) := by decide +kernel
theorem dX4_isLinkedWell_54 : decode cX4_isLinkedWell 54 = .ok (.iconst 0, 1) := by decide +kernel
theorem dX4_isLinkedWell_55 : decode cX4_isLinkedWell 55 = .ok (.istore_n 3, 1) := by decide +kernel
theorem dX4_isLinkedWell_56 : decode cX4_isLinkedWell 56 = .ok (.aload_n 1, 1) := by decide +kernel
theorem dX4_isLinkedWell_57 : decode cX4_isLinkedWell 57 = .ok (.getfield 61, 3) := by decide +kernel
theorem dX4_isLinkedWell_60 : decode cX4_isLinkedWell 60 = .ok (.ifCond .eq 27, 3) := by decide +kernel
theorem dX4_isLinkedWell_63 : decode cX4_isLinkedWell 63 = .ok (.aload_n 1, 1) := by decide +kernel
theorem dX4_isLinkedWell_64 : decode cX4_isLinkedWell 64 = .ok (.getfield 24, 3) := by decide +kernel
theorem dX4_isLinkedWell_67 : decode cX4_isLinkedWell 67 = .ok (.getfield 61, 3) := by decide +kernel
theorem dX4_isLinkedWell_70 : decode cX4_isLinkedWell 70 = .ok (.ifCond .ne 13, 3) := by decide +kernel
theorem dX4_isLinkedWell_73 : decode cX4_isLinkedWell 73 = .ok (.aload_n 1, 1) := by decide +kernel
theorem dX4_isLinkedWell_74 : decode cX4_isLinkedWell 74 = .ok (.getfield 27, 3) := by decide +kernel
theorem dX4_isLinkedWell_77 : decode cX4_isLinkedWell 77 = .ok (.getfield 61, 3) := by decide +kernel
theorem dX4_isLinkedWell_80 : decode cX4_isLinkedWell 80 = .ok (.ifCond .eq 7, 3) := by decide +kernel
theorem dX4_isLinkedWell_83 : decode cX4_isLinkedWell 83 = .ok (.iconst 1, 1) := by decide +kernel
theorem dX4_isLinkedWell_84 : decode cX4_isLinkedWell 84 = .ok (.goto 4, 3) := by decide +kernel
theorem dX4_isLinkedWell_87 : decode cX4_isLinkedWell 87 = .ok (.iconst 0, 1) := by decide +kernel
theorem dX4_isLinkedWell_88 : decode cX4_isLinkedWell 88 = .ok (.istore 4, 2) := by decide +kernel
theorem dX4_isLinkedWell_90 : decode cX4_isLinkedWell 90 = .ok (.iload_n 2, 1) := by decide +kernel
theorem dX4_isLinkedWell_91 : decode cX4_isLinkedWell 91 = .ok (.ifCond .eq 40, 3) := by decide +kernel
theorem dX4_isLinkedWell_94 : decode cX4_isLinkedWell 94 = .ok (.iload_n 3, 1) := by decide +kernel
theorem dX4_isLinkedWell_95 : decode cX4_isLinkedWell 95 = .ok (.ifCond .eq 36, 3) := by decide +kernel
theorem dX4_isLinkedWell_98 : decode cX4_isLinkedWell 98 = .ok (.iload 4, 2) := by decide +kernel
theorem dX4_isLinkedWell_100 : decode cX4_isLinkedWell 100 = .ok (.ifCond .ne 31, 3) := by decide +kernel
theorem dX4_isLinkedWell_103 : decode cX4_isLinkedWell 103 = .ok (.aload_n 1, 1) := by decide +kernel
theorem dX4_isLinkedWell_104 : decode cX4_isLinkedWell 104 = .ok (.getfield 36, 3) := by decide +kernel
theorem dX4_isLinkedWell_107 : decode cX4_isLinkedWell 107 = .ok (.aload_n 1, 1) := by decide +kernel
theorem dX4_isLinkedWell_108 : decode cX4_isLinkedWell 108 = .ok (.getfield 24, 3) := by decide +kernel
theorem dX4_isLinkedWell_111 : decode cX4_isLinkedWell 111 = .ok (.getfield 36, 3) := by decide +kernel
theorem dX4_isLinkedWell_114 : decode cX4_isLinkedWell 114 = .ok (.aload_n 1, 1) := by decide +kernel
theorem dX4_isLinkedWell_115 : decode cX4_isLinkedWell 115 = .ok (.getfield 27, 3) := by decide +kernel
theorem dX4_isLinkedWell_118 : decode cX4_isLinkedWell 118 = .ok (.getfield 36, 3) := by decide +kernel
theorem dX4_isLinkedWell_121 : decode cX4_isLinkedWell 121 = .ok (.iadd, 1) := by decide +kernel
theorem dX4_isLinkedWell_122 : decode cX4_isLinkedWell 122 = .ok (.iconst 1, 1) := by decide +kernel
theorem dX4_isLinkedWell_123 : decode cX4_isLinkedWell 123 = .ok (.iadd, 1) := by decide +kernel
theorem dX4_isLinkedWell_124 : decode cX4_isLinkedWell 124 = .ok (.if_icmp .ne 7, 3) := by decide +kernel
theorem dX4_isLinkedWell_127 : decode cX4_isLinkedWell 127 = .ok (.iconst 1, 1) := by decide +kernel
theorem dX4_isLinkedWell_128 : decode cX4_isLinkedWell 128 = .ok (.goto 4, 3) := by decide +kernel
theorem dX4_isLinkedWell_131 : decode cX4_isLinkedWell 131 = .ok (.iconst 0, 1) := by decide +kernel
theorem dX4_isLinkedWell_132 : decode cX4_isLinkedWell 132 = .ok (.ireturn, 1) := by decide +kernel
theorem dX4_isBetween_0 : decode cX4_isBetween 0 = .ok (.aload_n 2, 1) := by decide +kernel
theorem dX4_isBetween_1 : decode cX4_isBetween 1 = .ok (.aload_n 0, 1) := by decide +kernel
theorem dX4_isBetween_2 : decode cX4_isBetween 2 = .ok (.getfield 20, 3) := by decide +kernel
theorem dX4_isBetween_5 : decode cX4_isBetween 5 = .ok (.if_acmp .eq 15, 3) := by decide +kernel
theorem dX4_isBetween_8 : decode cX4_isBetween 8 = .ok (.aload_n 0, 1) := by decide +kernel
theorem dX4_isBetween_9 : decode cX4_isBetween 9 = .ok (.getfield 9, 3) := by decide +kernel
theorem dX4_isBetween_12 : decode cX4_isBetween 12 = .ok (.aload_n 2, 1) := by decide +kernel
theorem dX4_isBetween_13 : decode cX4_isBetween 13 = .ok (.aload_n 1, 1) := by decide +kernel
theorem dX4_isBetween_14 : decode cX4_isBetween 14 = .ok (.invokevirtual 54, 3) := by decide +kernel
theorem dX4_isBetween_17 : decode cX4_isBetween 17 = .ok (.ifCond .ge 27, 3) := by decide +kernel
theorem dX4_isBetween_20 : decode cX4_isBetween 20 = .ok (.aload_n 3, 1) := by decide +kernel
theorem dX4_isBetween_21 : decode cX4_isBetween 21 = .ok (.aload_n 0, 1) := by decide +kernel
theorem dX4_isBetween_22 : decode cX4_isBetween 22 = .ok (.getfield 20, 3) := by decide +kernel
theorem dX4_isBetween_25 : decode cX4_isBetween 25 = .ok (.if_acmp .eq 15, 3) := by decide +kernel
theorem dX4_isBetween_28 : decode cX4_isBetween 28 = .ok (.aload_n 0, 1) := by decide +kernel
theorem dX4_isBetween_29 : decode cX4_isBetween 29 = .ok (.getfield 9, 3) := by decide +kernel
theorem dX4_isBetween_32 : decode cX4_isBetween 32 = .ok (.aload_n 1, 1) := by decide +kernel
theorem dX4_isBetween_33 : decode cX4_isBetween 33 = .ok (.aload_n 3, 1) := by decide +kernel
theorem dX4_isBetween_34 : decode cX4_isBetween 34 = .ok (.invokevirtual 54, 3) := by decide +kernel
theorem dX4_isBetween_37 : decode cX4_isBetween 37 = .ok (.ifCond .ge 7, 3) := by decide +kernel
theorem dX4_isBetween_40 : decode cX4_isBetween 40 = .ok (.iconst 1, 1) := by decide +kernel
theorem dX4_isBetween_41 : decode cX4_isBetween 41 = .ok (.goto 4, 3) := by decide +kernel
theorem dX4_isBetween_44 : decode cX4_isBetween 44 = .ok (.iconst 0, 1) := by decide +kernel
theorem dX4_isBetween_45 : decode cX4_isBetween 45 = .ok (.ireturn, 1) := by decide +kernel
end
section
/-! decode rows, by program -/
theorem dX5_init_0 : decode cX5_init 0 = .ok (.aload_n 0, 1) := by decide +kernel
theorem dX5_init_1 : decode cX5_init 1 = .ok (.invokespecial 1, 3) := by decide +kernel
theorem dX5_init_4 : decode cX5_init 4 = .ok (.aload_n 0, 1) := by decide +kernel
theorem dX5_init_5 : decode cX5_init 5 = .ok (.iload_n 1, 1) := by decide +kernel
theorem dX5_init_6 : decode cX5_init 6 = .ok (.sipush 1024, 3) := by decide +kernel
theorem dX5_init_9 : decode cX5_init 9 = .ok (.invokestatic 9, 3) := by decide +kernel
theorem dX5_init_12 : decode cX5_init 12 = .ok (.putfield 13, 3) := by decide +kernel
theorem dX5_init_15 : decode cX5_init 15 = .ok (.aload_n 0, 1) := by decide +kernel
theorem dX5_init_16 : decode cX5_init 16 = .ok (.new 17, 3) := by decide +kernel
theorem dX5_init_19 : decode cX5_init 19 = .ok (.dup, 1) := by decide +kernel
theorem dX5_init_20 : decode cX5_init 20 = .ok (.iload_n 2, 1) := by decide +kernel
theorem dX5_init_21 : decode cX5_init 21 = .ok (.sipush 4096, 3) := by decide +kernel
theorem dX5_init_24 : decode cX5_init 24 = .ok (.invokestatic 9, 3) := by decide +kernel
theorem dX5_init_27 : decode cX5_init 27 = .ok (.invokespecial 19, 3) := by decide +kernel
theorem dX5_init_30 : decode cX5_init 30 = .ok (.putfield 22, 3) := by decide +kernel
theorem dX5_init_33 : decode cX5_init 33 = .ok (.aload_n 0, 1) := by decide +kernel
theorem dX5_init_34 : decode cX5_init 34 = .ok (.new 26, 3) := by decide +kernel
theorem dX5_init_37 : decode cX5_init 37 = .ok (.dup, 1) := by decide +kernel
theorem dX5_init_38 : decode cX5_init 38 = .ok (.aload_n 0, 1) := by decide +kernel
theorem dX5_init_39 : decode cX5_init 39 = .ok (.getfield 22, 3) := by decide +kernel
theorem dX5_init_42 : decode cX5_init 42 = .ok (.invokespecial 28, 3) := by decide +kernel
theorem dX5_init_45 : decode cX5_init 45 = .ok (.putfield 31, 3) := by decide +kernel
theorem dX5_init_48 : decode cX5_init 48 = .ok (.aload_n 0, 1) := by decide +kernel
theorem dX5_init_49 : decode cX5_init 49 = .ok (.new 35, 3) := by decide +kernel
theorem dX5_init_52 : decode cX5_init 52 = .ok (.dup, 1) := by decide +kernel
theorem dX5_init_53 : decode cX5_init 53 = .ok (.sipush 600, 3) := by decide +kernel
theorem dX5_init_56 : decode cX5_init 56 = .ok (.invokespecial 37, 3) := by decide +kernel
theorem dX5_init_59 : decode cX5_init 59 = .ok (.putfield 38, 3) := by decide +kernel
theorem dX5_init_62 : decode cX5_init 62 = .ok (.aload_n 0, 1) := by decide +kernel
theorem dX5_init_63 : decode cX5_init 63 = .ok (.new 35, 3) := by decide +kernel
theorem dX5_init_66 : decode cX5_init 66 = .ok (.dup, 1) := by decide +kernel
theorem dX5_init_67 : decode cX5_init 67 = .ok (.sipush 512, 3) := by decide +kernel
theorem dX5_init_70 : decode cX5_init 70 = .ok (.invokespecial 37, 3) := by decide +kernel
theorem dX5_init_73 : decode cX5_init 73 = .ok (.putfield 42, 3) := by decide +kernel
theorem dX5_init_76 : decode cX5_init 76 = .ok (.return_, 1) := by decide +kernel
theorem dX5_feed_0 : decode cX5_feed 0 = .ok (.iload_n 3, 1) := by decide +kernel
theorem dX5_feed_1 : decode cX5_feed 1 = .ok (.iconst 1, 1) := by decide +kernel
theorem dX5_feed_2 : decode cX5_feed 2 = .ok (.if_icmp .lt 9, 3) := by decide +kernel
theorem dX5_feed_5 : decode cX5_feed 5 = .ok (.iload_n 3, 1) := by decide +kernel
theorem dX5_feed_6 : decode cX5_feed 6 = .ok (.bipush 8, 2) := by decide +kernel
theorem dX5_feed_8 : decode cX5_feed 8 = .ok (.if_icmp .le 13, 3) := by decide +kernel
theorem dX5_feed_11 : decode cX5_feed 11 = .ok (.new 45, 3) := by decide +kernel
theorem dX5_feed_14 : decode cX5_feed 14 = .ok (.dup, 1) := by decide +kernel
theorem dX5_feed_15 : decode cX5_feed 15 = .ok (.ldc 47, 2) := by decide +kernel
theorem dX5_feed_17 : decode cX5_feed 17 = .ok (.invokespecial 49, 3) := by decide +kernel
theorem dX5_feed_20 : decode cX5_feed 20 = .ok (.athrow, 1) := by decide +kernel
theorem dX5_feed_21 : decode cX5_feed 21 = .ok (.iload_n 3, 1) := by decide +kernel
theorem dX5_feed_22 : decode cX5_feed 22 = .ok (.sipush 600, 3) := by decide +kernel
theorem dX5_feed_25 : decode cX5_feed 25 = .ok (.aload_n 0, 1) := by decide +kernel
theorem dX5_feed_26 : decode cX5_feed 26 = .ok (.getfield 38, 3) := by decide +kernel
theorem dX5_feed_29 : decode cX5_feed 29 = .ok (.getfield 52, 3) := by decide +kernel
theorem dX5_feed_32 : decode cX5_feed 32 = .ok (.isub, 1) := by decide +kernel
theorem dX5_feed_33 : decode cX5_feed 33 = .ok (.if_icmp .le 13, 3) := by decide +kernel
theorem dX5_feed_36 : decode cX5_feed 36 = .ok (.new 55, 3) := by decide +kernel
theorem dX5_feed_39 : decode cX5_feed 39 = .ok (.dup, 1) := by decide +kernel
theorem dX5_feed_40 : decode cX5_feed 40 = .ok (.ldc 57, 2) := by decide +kernel
theorem dX5_feed_42 : decode cX5_feed 42 = .ok (.invokespecial 59, 3) := by decide +kernel
theorem dX5_feed_45 : decode cX5_feed 45 = .ok (.athrow, 1) := by decide +kernel
theorem dX5_feed_46 : decode cX5_feed 46 = .ok (.iconst 0, 1) := by decide +kernel
theorem dX5_feed_47 : decode cX5_feed 47 = .ok (.istore 4, 2) := by decide +kernel
theorem dX5_feed_49 : decode cX5_feed 49 = .ok (.iload 4, 2) := by decide +kernel
theorem dX5_feed_51 : decode cX5_feed 51 = .ok (.iload_n 3, 1) := by decide +kernel
theorem dX5_feed_52 : decode cX5_feed 52 = .ok (.if_icmp .ge 25, 3) := by decide +kernel
theorem dX5_feed_55 : decode cX5_feed 55 = .ok (.aload_n 0, 1) := by decide +kernel
theorem dX5_feed_56 : decode cX5_feed 56 = .ok (.getfield 38, 3) := by decide +kernel
theorem dX5_feed_59 : decode cX5_feed 59 = .ok (.lload_n 1, 1) := by decide +kernel
theorem dX5_feed_60 : decode cX5_feed 60 = .ok (.bipush 8, 2) := by decide +kernel
theorem dX5_feed_62 : decode cX5_feed 62 = .ok (.iload 4, 2) := by decide +kernel
theorem dX5_feed_64 : decode cX5_feed 64 = .ok (.imul, 1) := by decide +kernel
theorem dX5_feed_65 : decode cX5_feed 65 = .ok (.lushr, 1) := by decide +kernel
theorem dX5_feed_66 : decode cX5_feed 66 = .ok (.l2i, 1) := by decide +kernel
theorem dX5_feed_67 : decode cX5_feed 67 = .ok (.i2b, 1) := by decide +kernel
theorem dX5_feed_68 : decode cX5_feed 68 = .ok (.invokevirtual 60, 3) := by decide +kernel
theorem dX5_feed_71 : decode cX5_feed 71 = .ok (.iinc 4 1, 3) := by decide +kernel
theorem dX5_feed_74 : decode cX5_feed 74 = .ok (.goto (-25), 3) := by decide +kernel
theorem dX5_feed_77 : decode cX5_feed 77 = .ok (.aload_n 0, 1) := by decide +kernel
theorem dX5_feed_78 : decode cX5_feed 78 = .ok (.getfield 38, 3) := by decide +kernel
theorem dX5_feed_81 : decode cX5_feed 81 = .ok (.getfield 52, 3) := by decide +kernel
theorem dX5_feed_84 : decode cX5_feed 84 = .ok (.ireturn, 1) := by decide +kernel
theorem dX5_put_0 : decode cX5_put 0 = .ok (.aload_n 0, 1) := by decide +kernel
theorem dX5_put_1 : decode cX5_put 1 = .ok (.invokevirtual 64, 3) := by decide +kernel
theorem dX5_put_4 : decode cX5_put 4 = .ok (.istore_n 2, 1) := by decide +kernel
theorem dX5_put_5 : decode cX5_put 5 = .ok (.iload_n 1, 1) := by decide +kernel
theorem dX5_put_6 : decode cX5_put 6 = .ok (.invokestatic 68, 3) := by decide +kernel
theorem dX5_put_9 : decode cX5_put 9 = .ok (.ifCond .eq 17, 3) := by decide +kernel
theorem dX5_put_12 : decode cX5_put 12 = .ok (.iload_n 1, 1) := by decide +kernel
theorem dX5_put_13 : decode cX5_put 13 = .ok (.iload_n 2, 1) := by decide +kernel
theorem dX5_put_14 : decode cX5_put 14 = .ok (.if_icmp .gt 12, 3) := by decide +kernel
theorem dX5_put_17 : decode cX5_put 17 = .ok (.iload_n 2, 1) := by decide +kernel
theorem dX5_put_18 : decode cX5_put 18 = .ok (.iload_n 1, 1) := by decide +kernel
theorem dX5_put_19 : decode cX5_put 19 = .ok (.isub, 1) := by decide +kernel
theorem dX5_put_20 : decode cX5_put 20 = .ok (.sipush 512, 3) := by decide +kernel
theorem dX5_put_23 : decode cX5_put 23 = .ok (.if_icmp .le 13, 3) := by decide +kernel
theorem dX5_put_26 : decode cX5_put 26 = .ok (.new 45, 3) := by decide +kernel
theorem dX5_put_29 : decode cX5_put 29 = .ok (.dup, 1) := by decide +kernel
theorem dX5_put_30 : decode cX5_put 30 = .ok (.ldc 72, 2) := by decide +kernel
theorem dX5_put_32 : decode cX5_put 32 = .ok (.invokespecial 49, 3) := by decide +kernel
theorem dX5_put_35 : decode cX5_put 35 = .ok (.athrow, 1) := by decide +kernel
theorem dX5_put_36 : decode cX5_put 36 = .ok (.aload_n 0, 1) := by decide +kernel
theorem dX5_put_37 : decode cX5_put 37 = .ok (.getfield 31, 3) := by decide +kernel
theorem dX5_put_40 : decode cX5_put 40 = .ok (.aload_n 0, 1) := by decide +kernel
theorem dX5_put_41 : decode cX5_put 41 = .ok (.getfield 38, 3) := by decide +kernel
theorem dX5_put_44 : decode cX5_put 44 = .ok (.iload_n 1, 1) := by decide +kernel
theorem dX5_put_45 : decode cX5_put 45 = .ok (.invokevirtual 74, 3) := by decide +kernel
theorem dX5_put_48 : decode cX5_put 48 = .ok (.astore_n 3, 1) := by decide +kernel
theorem dX5_put_49 : decode cX5_put 49 = .ok (.aload_n 0, 1) := by decide +kernel
theorem dX5_put_50 : decode cX5_put 50 = .ok (.aload_n 3, 1) := by decide +kernel
theorem dX5_put_51 : decode cX5_put 51 = .ok (.iload_n 2, 1) := by decide +kernel
theorem dX5_put_52 : decode cX5_put 52 = .ok (.invokestatic 78, 3) := by decide +kernel
theorem dX5_put_55 : decode cX5_put 55 = .ok (.invokevirtual 82, 3) := by decide +kernel
theorem dX5_put_58 : decode cX5_put 58 = .ok (.ifCond .eq 13, 3) := by decide +kernel
theorem dX5_put_61 : decode cX5_put 61 = .ok (.new 55, 3) := by decide +kernel
theorem dX5_put_64 : decode cX5_put 64 = .ok (.dup, 1) := by decide +kernel
theorem dX5_put_65 : decode cX5_put 65 = .ok (.ldc 86, 2) := by decide +kernel
theorem dX5_put_67 : decode cX5_put 67 = .ok (.invokespecial 59, 3) := by decide +kernel
theorem dX5_put_70 : decode cX5_put 70 = .ok (.athrow, 1) := by decide +kernel
theorem dX5_put_71 : decode cX5_put 71 = .ok (.aload_n 3, 1) := by decide +kernel
theorem dX5_put_72 : decode cX5_put 72 = .ok (.ifnonnull 15, 3) := by decide +kernel
theorem dX5_put_75 : decode cX5_put 75 = .ok (.aload_n 0, 1) := by decide +kernel
theorem dX5_put_76 : decode cX5_put 76 = .ok (.aload_n 0, 1) := by decide +kernel
theorem dX5_put_77 : decode cX5_put 77 = .ok (.iload_n 1, 1) := by decide +kernel
theorem dX5_put_78 : decode cX5_put 78 = .ok (.iload_n 2, 1) := by decide +kernel
theorem dX5_put_79 : decode cX5_put 79 = .ok (.invokevirtual 88, 3) := by decide +kernel
theorem dX5_put_82 : decode cX5_put 82 = .ok (.putfield 92, 3) := by decide +kernel
theorem dX5_put_85 : decode cX5_put 85 = .ok (.iconst 1, 1) := by decide +kernel
theorem dX5_put_86 : decode cX5_put 86 = .ok (.ireturn, 1) := by decide +kernel
theorem dX5_put_87 : decode cX5_put 87 = .ok (.aload_n 0, 1) := by decide +kernel
theorem dX5_put_88 : decode cX5_put 88 = .ok (.aload_n 3, 1) := by decide +kernel
theorem dX5_put_89 : decode cX5_put 89 = .ok (.iload_n 2, 1) := by decide +kernel
theorem dX5_put_90 : decode cX5_put 90 = .ok (.invokevirtual 96, 3) := by decide +kernel
theorem dX5_put_93 : decode cX5_put 93 = .ok (.aload_n 0, 1) := by decide +kernel
theorem dX5_put_94 : decode cX5_put 94 = .ok (.aload_n 3, 1) := by decide +kernel
theorem dX5_put_95 : decode cX5_put 95 = .ok (.putfield 92, 3) := by decide +kernel
theorem dX5_put_98 : decode cX5_put 98 = .ok (.iconst 0, 1) := by decide +kernel
theorem dX5_put_99 : decode cX5_put 99 = .ok (.ireturn, 1) := by decide +kernel
theorem dX5_get_0 : decode cX5_get 0 = .ok (.aload_n 0, 1) := by decide +kernel
theorem dX5_get_1 : decode cX5_get 1 = .ok (.getfield 31, 3) := by decide +kernel
theorem dX5_get_4 : decode cX5_get 4 = .ok (.aload_n 0, 1) := by decide +kernel
theorem dX5_get_5 : decode cX5_get 5 = .ok (.getfield 38, 3) := by decide +kernel
theorem dX5_get_8 : decode cX5_get 8 = .ok (.aload_n 0, 1) := by decide +kernel
theorem dX5_get_9 : decode cX5_get 9 = .ok (.invokevirtual 100, 3) := by decide +kernel
theorem dX5_get_12 : decode cX5_get 12 = .ok (.invokevirtual 74, 3) := by decide +kernel
theorem dX5_get_15 : decode cX5_get 15 = .ok (.astore_n 1, 1) := by decide +kernel
theorem dX5_get_16 : decode cX5_get 16 = .ok (.aload_n 1, 1) := by decide +kernel
theorem dX5_get_17 : decode cX5_get 17 = .ok (.ifnonnull 13, 3) := by decide +kernel
theorem dX5_get_20 : decode cX5_get 20 = .ok (.new 103, 3) := by decide +kernel
theorem dX5_get_23 : decode cX5_get 23 = .ok (.dup, 1) := by decide +kernel
theorem dX5_get_24 : decode cX5_get 24 = .ok (.ldc 105, 2) := by decide +kernel
theorem dX5_get_26 : decode cX5_get 26 = .ok (.invokespecial 107, 3) := by decide +kernel
theorem dX5_get_29 : decode cX5_get 29 = .ok (.athrow, 1) := by decide +kernel
theorem dX5_get_30 : decode cX5_get 30 = .ok (.aload_n 0, 1) := by decide +kernel
theorem dX5_get_31 : decode cX5_get 31 = .ok (.aload_n 1, 1) := by decide +kernel
theorem dX5_get_32 : decode cX5_get 32 = .ok (.putfield 92, 3) := by decide +kernel
theorem dX5_get_35 : decode cX5_get 35 = .ok (.aload_n 0, 1) := by decide +kernel
theorem dX5_get_36 : decode cX5_get 36 = .ok (.aload_n 1, 1) := by decide +kernel
theorem dX5_get_37 : decode cX5_get 37 = .ok (.invokevirtual 108, 3) := by decide +kernel
theorem dX5_get_40 : decode cX5_get 40 = .ok (.ireturn, 1) := by decide +kernel
theorem dX5_remove_0 : decode cX5_remove 0 = .ok (.aload_n 0, 1) := by decide +kernel
theorem dX5_remove_1 : decode cX5_remove 1 = .ok (.getfield 31, 3) := by decide +kernel
theorem dX5_remove_4 : decode cX5_remove 4 = .ok (.aload_n 0, 1) := by decide +kernel
theorem dX5_remove_5 : decode cX5_remove 5 = .ok (.getfield 38, 3) := by decide +kernel
theorem dX5_remove_8 : decode cX5_remove 8 = .ok (.aload_n 0, 1) := by decide +kernel
theorem dX5_remove_9 : decode cX5_remove 9 = .ok (.invokevirtual 100, 3) := by decide +kernel
theorem dX5_remove_12 : decode cX5_remove 12 = .ok (.invokevirtual 74, 3) := by decide +kernel
theorem dX5_remove_15 : decode cX5_remove 15 = .ok (.astore_n 1, 1) := by decide +kernel
theorem dX5_remove_16 : decode cX5_remove 16 = .ok (.aload_n 1, 1) := by decide +kernel
theorem dX5_remove_17 : decode cX5_remove 17 = .ok (.ifnull 8, 3) := by decide +kernel
theorem dX5_remove_20 : decode cX5_remove 20 = .ok (.aload_n 0, 1) := by decide +kernel
theorem dX5_remove_21 : decode cX5_remove 21 = .ok (.aload_n 1, 1) := by decide +kernel
theorem dX5_remove_22 : decode cX5_remove 22 = .ok (.invokevirtual 112, 3) := by decide +kernel
theorem dX5_remove_25 : decode cX5_remove 25 = .ok (.aload_n 1, 1) := by decide +kernel
theorem dX5_remove_26 : decode cX5_remove 26 = .ok (.ifnull 7, 3) := by decide +kernel
theorem dX5_remove_29 : decode cX5_remove 29 = .ok (.iconst 1, 1) := by decide +kernel
theorem dX5_remove_30 : decode cX5_remove 30 = .ok (.goto 4, 3) := by decide +kernel
theorem dX5_remove_33 : decode cX5_remove 33 = .ok (.iconst 0, 1) := by decide +kernel
theorem dX5_remove_34 : decode cX5_remove 34 = .ok (.ireturn, 1) := by decide +kernel
theorem dX5_seek_0 : decode cX5_seek 0 = .ok (.aload_n 0, 1) := by decide +kernel
theorem dX5_seek_1 : decode cX5_seek 1 = .ok (.invokevirtual 100, 3) := by decide +kernel
theorem dX5_seek_4 : decode cX5_seek 4 = .ok (.istore_n 2, 1) := by decide +kernel
theorem dX5_seek_5 : decode cX5_seek 5 = .ok (.iload_n 1, 1) := by decide +kernel
theorem dX5_seek_6 : decode cX5_seek 6 = .ok (.ifCond .lt 8, 3) := by decide +kernel
theorem dX5_seek_9 : decode cX5_seek 9 = .ok (.iload_n 1, 1) := by decide +kernel
theorem dX5_seek_10 : decode cX5_seek 10 = .ok (.iconst 3, 1) := by decide +kernel
theorem dX5_seek_11 : decode cX5_seek 11 = .ok (.if_icmp .le 13, 3) := by decide +kernel
theorem dX5_seek_14 : decode cX5_seek 14 = .ok (.new 45, 3) := by decide +kernel
theorem dX5_seek_17 : decode cX5_seek 17 = .ok (.dup, 1) := by decide +kernel
theorem dX5_seek_18 : decode cX5_seek 18 = .ok (.ldc 116, 2) := by decide +kernel
theorem dX5_seek_20 : decode cX5_seek 20 = .ok (.invokespecial 49, 3) := by decide +kernel
theorem dX5_seek_23 : decode cX5_seek 23 = .ok (.athrow, 1) := by decide +kernel
theorem dX5_seek_24 : decode cX5_seek 24 = .ok (.iload_n 1, 1) := by decide +kernel
theorem dX5_seek_25 : decode cX5_seek 25 = .ok (.iconst 1, 1) := by decide +kernel
theorem dX5_seek_26 : decode cX5_seek 26 = .ok (.if_icmp .eq 8, 3) := by decide +kernel
theorem dX5_seek_29 : decode cX5_seek 29 = .ok (.iload_n 1, 1) := by decide +kernel
theorem dX5_seek_30 : decode cX5_seek 30 = .ok (.iconst 2, 1) := by decide +kernel
theorem dX5_seek_31 : decode cX5_seek 31 = .ok (.if_icmp .ne 7, 3) := by decide +kernel
theorem dX5_seek_34 : decode cX5_seek 34 = .ok (.iconst 1, 1) := by decide +kernel
theorem dX5_seek_35 : decode cX5_seek 35 = .ok (.goto 4, 3) := by decide +kernel
theorem dX5_seek_38 : decode cX5_seek 38 = .ok (.iconst 0, 1) := by decide +kernel
theorem dX5_seek_39 : decode cX5_seek 39 = .ok (.istore_n 3, 1) := by decide +kernel
theorem dX5_seek_40 : decode cX5_seek 40 = .ok (.aload_n 0, 1) := by decide +kernel
theorem dX5_seek_41 : decode cX5_seek 41 = .ok (.getfield 31, 3) := by decide +kernel
theorem dX5_seek_44 : decode cX5_seek 44 = .ok (.aload_n 0, 1) := by decide +kernel
theorem dX5_seek_45 : decode cX5_seek 45 = .ok (.getfield 38, 3) := by decide +kernel
theorem dX5_seek_48 : decode cX5_seek 48 = .ok (.iload_n 2, 1) := by decide +kernel
theorem dX5_seek_49 : decode cX5_seek 49 = .ok (.iload_n 3, 1) := by decide +kernel
theorem dX5_seek_50 : decode cX5_seek 50 = .ok (.invokevirtual 118, 3) := by decide +kernel
theorem dX5_seek_53 : decode cX5_seek 53 = .ok (.istore 4, 2) := by decide +kernel
theorem dX5_seek_55 : decode cX5_seek 55 = .ok (.aload_n 0, 1) := by decide +kernel
theorem dX5_seek_56 : decode cX5_seek 56 = .ok (.getfield 31, 3) := by decide +kernel
theorem dX5_seek_59 : decode cX5_seek 59 = .ok (.iload_n 1, 1) := by decide +kernel
theorem dX5_seek_60 : decode cX5_seek 60 = .ok (.iconst 2, 1) := by decide +kernel
theorem dX5_seek_61 : decode cX5_seek 61 = .ok (.if_icmp .ge 8, 3) := by decide +kernel
theorem dX5_seek_64 : decode cX5_seek 64 = .ok (.iload 4, 2) := by decide +kernel
theorem dX5_seek_66 : decode cX5_seek 66 = .ok (.goto 7, 3) := by decide +kernel
theorem dX5_seek_69 : decode cX5_seek 69 = .ok (.iload 4, 2) := by decide +kernel
theorem dX5_seek_71 : decode cX5_seek 71 = .ok (.iconst 1, 1) := by decide +kernel
theorem dX5_seek_72 : decode cX5_seek 72 = .ok (.isub, 1) := by decide +kernel
theorem dX5_seek_73 : decode cX5_seek 73 = .ok (.invokevirtual 122, 3) := by decide +kernel
theorem dX5_seek_76 : decode cX5_seek 76 = .ok (.astore 5, 2) := by decide +kernel
theorem dX5_seek_78 : decode cX5_seek 78 = .ok (.aload 5, 2) := by decide +kernel
theorem dX5_seek_80 : decode cX5_seek 80 = .ok (.ifnonnull 13, 3) := by decide +kernel
theorem dX5_seek_83 : decode cX5_seek 83 = .ok (.new 103, 3) := by decide +kernel
theorem dX5_seek_86 : decode cX5_seek 86 = .ok (.dup, 1) := by decide +kernel
theorem dX5_seek_87 : decode cX5_seek 87 = .ok (.ldc 105, 2) := by decide +kernel
theorem dX5_seek_89 : decode cX5_seek 89 = .ok (.invokespecial 107, 3) := by decide +kernel
theorem dX5_seek_92 : decode cX5_seek 92 = .ok (.athrow, 1) := by decide +kernel
theorem dX5_seek_93 : decode cX5_seek 93 = .ok (.aload_n 0, 1) := by decide +kernel
theorem dX5_seek_94 : decode cX5_seek 94 = .ok (.aload 5, 2) := by decide +kernel
theorem dX5_seek_96 : decode cX5_seek 96 = .ok (.invokevirtual 126, 3) := by decide +kernel
theorem dX5_seek_99 : decode cX5_seek 99 = .ok (.ireturn, 1) := by decide +kernel
theorem dX5_at_0 : decode cX5_at 0 = .ok (.aload_n 0, 1) := by decide +kernel
theorem dX5_at_1 : decode cX5_at 1 = .ok (.getfield 31, 3) := by decide +kernel
theorem dX5_at_4 : decode cX5_at 4 = .ok (.iload_n 1, 1) := by decide +kernel
theorem dX5_at_5 : decode cX5_at 5 = .ok (.invokevirtual 122, 3) := by decide +kernel
theorem dX5_at_8 : decode cX5_at 8 = .ok (.astore_n 2, 1) := by decide +kernel
theorem dX5_at_9 : decode cX5_at 9 = .ok (.aload_n 2, 1) := by decide +kernel
theorem dX5_at_10 : decode cX5_at 10 = .ok (.ifnonnull 13, 3) := by decide +kernel
theorem dX5_at_13 : decode cX5_at 13 = .ok (.new 129, 3) := by decide +kernel
theorem dX5_at_16 : decode cX5_at 16 = .ok (.dup, 1) := by decide +kernel
theorem dX5_at_17 : decode cX5_at 17 = .ok (.ldc 131, 2) := by decide +kernel
theorem dX5_at_19 : decode cX5_at 19 = .ok (.invokespecial 133, 3) := by decide +kernel
theorem dX5_at_22 : decode cX5_at 22 = .ok (.athrow, 1) := by decide +kernel
theorem dX5_at_23 : decode cX5_at 23 = .ok (.aload_n 0, 1) := by decide +kernel
theorem dX5_at_24 : decode cX5_at 24 = .ok (.aload_n 2, 1) := by decide +kernel
theorem dX5_at_25 : decode cX5_at 25 = .ok (.invokevirtual 126, 3) := by decide +kernel
theorem dX5_at_28 : decode cX5_at 28 = .ok (.ireturn, 1) := by decide +kernel
theorem dX5_step_0 : decode cX5_step 0 = .ok (.aload_n 0, 1) := by decide +kernel
theorem dX5_step_1 : decode cX5_step 1 = .ok (.invokevirtual 134, 3) := by decide +kernel
theorem dX5_step_4 : decode cX5_step 4 = .ok (.istore_n 2, 1) := by decide +kernel
theorem dX5_step_5 : decode cX5_step 5 = .ok (.aload_n 0, 1) := by decide +kernel
theorem dX5_step_6 : decode cX5_step 6 = .ok (.getfield 31, 3) := by decide +kernel
theorem dX5_step_9 : decode cX5_step 9 = .ok (.iload_n 1, 1) := by decide +kernel
theorem dX5_step_10 : decode cX5_step 10 = .ok (.ifCond .eq 9, 3) := by decide +kernel
theorem dX5_step_13 : decode cX5_step 13 = .ok (.iload_n 2, 1) := by decide +kernel
theorem dX5_step_14 : decode cX5_step 14 = .ok (.iconst 1, 1) := by decide +kernel
theorem dX5_step_15 : decode cX5_step 15 = .ok (.isub, 1) := by decide +kernel
theorem dX5_step_16 : decode cX5_step 16 = .ok (.goto 6, 3) := by decide +kernel
theorem dX5_step_19 : decode cX5_step 19 = .ok (.iload_n 2, 1) := by decide +kernel
theorem dX5_step_20 : decode cX5_step 20 = .ok (.iconst 1, 1) := by decide +kernel
theorem dX5_step_21 : decode cX5_step 21 = .ok (.iadd, 1) := by decide +kernel
theorem dX5_step_22 : decode cX5_step 22 = .ok (.invokevirtual 122, 3) := by decide +kernel
theorem dX5_step_25 : decode cX5_step 25 = .ok (.astore_n 3, 1) := by decide +kernel
theorem dX5_step_26 : decode cX5_step 26 = .ok (.aload_n 3, 1) := by decide +kernel
theorem dX5_step_27 : decode cX5_step 27 = .ok (.ifnull 9, 3) := by decide +kernel
theorem dX5_step_30 : decode cX5_step 30 = .ok (.aload_n 0, 1) := by decide +kernel
theorem dX5_step_31 : decode cX5_step 31 = .ok (.aload_n 3, 1) := by decide +kernel
theorem dX5_step_32 : decode cX5_step 32 = .ok (.invokevirtual 126, 3) := by decide +kernel
theorem dX5_step_35 : decode cX5_step 35 = .ok (.pop, 1) := by decide +kernel
theorem dX5_step_36 : decode cX5_step 36 = .ok (.aload_n 3, 1) := by decide +kernel
theorem dX5_step_37 : decode cX5_step 37 = .ok (.ifnull 7, 3) := by decide +kernel
theorem dX5_step_40 : decode cX5_step 40 = .ok (.iconst 1, 1) := by decide +kernel
theorem dX5_step_41 : decode cX5_step 41 = .ok (.goto 4, 3) := by decide +kernel
theorem dX5_step_44 : decode cX5_step 44 = .ok (.iconst 0, 1) := by decide +kernel
theorem dX5_step_45 : decode cX5_step 45 = .ok (.ireturn, 1) := by decide +kernel
theorem dX5_value_0 : decode cX5_value 0 = .ok (.aload_n 0, 1) := by decide +kernel
theorem dX5_value_1 : decode cX5_value 1 = .ok (.getfield 92, 3) := by decide +kernel
theorem dX5_value_4 : decode cX5_value 4 = .ok (.ifnonnull 13, 3) := by decide +kernel
theorem dX5_value_7 : decode cX5_value 7 = .ok (.new 55, 3) := by decide +kernel
theorem dX5_value_10 : decode cX5_value 10 = .ok (.dup, 1) := by decide +kernel
theorem dX5_value_11 : decode cX5_value 11 = .ok (.ldc 137, 2) := by decide +kernel
theorem dX5_value_13 : decode cX5_value 13 = .ok (.invokespecial 59, 3) := by decide +kernel
theorem dX5_value_16 : decode cX5_value 16 = .ok (.athrow, 1) := by decide +kernel
theorem dX5_value_17 : decode cX5_value 17 = .ok (.aload_n 0, 1) := by decide +kernel
theorem dX5_value_18 : decode cX5_value 18 = .ok (.aload_n 0, 1) := by decide +kernel
theorem dX5_value_19 : decode cX5_value 19 = .ok (.getfield 92, 3) := by decide +kernel
theorem dX5_value_22 : decode cX5_value 22 = .ok (.invokevirtual 108, 3) := by decide +kernel
theorem dX5_value_25 : decode cX5_value 25 = .ok (.ireturn, 1) := by decide +kernel
theorem dX5_place_0 : decode cX5_place 0 = .ok (.aload_n 0, 1) := by decide +kernel
theorem dX5_place_1 : decode cX5_place 1 = .ok (.invokevirtual 134, 3) := by decide +kernel
theorem dX5_place_4 : decode cX5_place 4 = .ok (.ireturn, 1) := by decide +kernel
theorem dX5_range_0 : decode cX5_range 0 = .ok (.aload_n 0, 1) := by decide +kernel
theorem dX5_range_1 : decode cX5_range 1 = .ok (.invokevirtual 64, 3) := by decide +kernel
theorem dX5_range_4 : decode cX5_range 4 = .ok (.istore_n 1, 1) := by decide +kernel
theorem dX5_range_5 : decode cX5_range 5 = .ok (.iload_n 1, 1) := by decide +kernel
theorem dX5_range_6 : decode cX5_range 6 = .ok (.bipush 64, 2) := by decide +kernel
theorem dX5_range_8 : decode cX5_range 8 = .ok (.if_icmp .le 13, 3) := by decide +kernel
theorem dX5_range_11 : decode cX5_range 11 = .ok (.new 45, 3) := by decide +kernel
theorem dX5_range_14 : decode cX5_range 14 = .ok (.dup, 1) := by decide +kernel
theorem dX5_range_15 : decode cX5_range 15 = .ok (.ldc 139, 2) := by decide +kernel
theorem dX5_range_17 : decode cX5_range 17 = .ok (.invokespecial 49, 3) := by decide +kernel
theorem dX5_range_20 : decode cX5_range 20 = .ok (.athrow, 1) := by decide +kernel
theorem dX5_range_21 : decode cX5_range 21 = .ok (.aload_n 0, 1) := by decide +kernel
theorem dX5_range_22 : decode cX5_range 22 = .ok (.invokevirtual 134, 3) := by decide +kernel
theorem dX5_range_25 : decode cX5_range 25 = .ok (.istore_n 2, 1) := by decide +kernel
theorem dX5_range_26 : decode cX5_range 26 = .ok (.iload_n 1, 1) := by decide +kernel
theorem dX5_range_27 : decode cX5_range 27 = .ok (.ifCond .ne 13, 3) := by decide +kernel
theorem dX5_range_30 : decode cX5_range 30 = .ok (.aload_n 0, 1) := by decide +kernel
theorem dX5_range_31 : decode cX5_range 31 = .ok (.getfield 31, 3) := by decide +kernel
theorem dX5_range_34 : decode cX5_range 34 = .ok (.invokevirtual 141, 3) := by decide +kernel
theorem dX5_range_37 : decode cX5_range 37 = .ok (.goto 16, 3) := by decide +kernel
theorem dX5_range_40 : decode cX5_range 40 = .ok (.aload_n 0, 1) := by decide +kernel
theorem dX5_range_41 : decode cX5_range 41 = .ok (.getfield 31, 3) := by decide +kernel
theorem dX5_range_44 : decode cX5_range 44 = .ok (.aload_n 0, 1) := by decide +kernel
theorem dX5_range_45 : decode cX5_range 45 = .ok (.getfield 38, 3) := by decide +kernel
theorem dX5_range_48 : decode cX5_range 48 = .ok (.iload_n 1, 1) := by decide +kernel
theorem dX5_range_49 : decode cX5_range 49 = .ok (.iconst 0, 1) := by decide +kernel
theorem dX5_range_50 : decode cX5_range 50 = .ok (.invokevirtual 118, 3) := by decide +kernel
theorem dX5_range_53 : decode cX5_range 53 = .ok (.istore_n 3, 1) := by decide +kernel
theorem dX5_range_54 : decode cX5_range 54 = .ok (.iconst 0, 1) := by decide +kernel
theorem dX5_range_55 : decode cX5_range 55 = .ok (.iload_n 3, 1) := by decide +kernel
theorem dX5_range_56 : decode cX5_range 56 = .ok (.iload_n 2, 1) := by decide +kernel
theorem dX5_range_57 : decode cX5_range 57 = .ok (.isub, 1) := by decide +kernel
theorem dX5_range_58 : decode cX5_range 58 = .ok (.invokestatic 144, 3) := by decide +kernel
theorem dX5_range_61 : decode cX5_range 61 = .ok (.ireturn, 1) := by decide +kernel
theorem dX5_removeFrom_0 : decode cX5_removeFrom 0 = .ok (.iload_n 1, 1) := by decide +kernel
theorem dX5_removeFrom_1 : decode cX5_removeFrom 1 = .ok (.ifCond .ge 13, 3) := by decide +kernel
theorem dX5_removeFrom_4 : decode cX5_removeFrom 4 = .ok (.new 45, 3) := by decide +kernel
theorem dX5_removeFrom_7 : decode cX5_removeFrom 7 = .ok (.dup, 1) := by decide +kernel
theorem dX5_removeFrom_8 : decode cX5_removeFrom 8 = .ok (.ldc 149, 2) := by decide +kernel
theorem dX5_removeFrom_10 : decode cX5_removeFrom 10 = .ok (.invokespecial 49, 3) := by decide +kernel
theorem dX5_removeFrom_13 : decode cX5_removeFrom 13 = .ok (.athrow, 1) := by decide +kernel
theorem dX5_removeFrom_14 : decode cX5_removeFrom 14 = .ok (.aload_n 0, 1) := by decide +kernel
theorem dX5_removeFrom_15 : decode cX5_removeFrom 15 = .ok (.invokevirtual 134, 3) := by decide +kernel
theorem dX5_removeFrom_18 : decode cX5_removeFrom 18 = .ok (.istore_n 2, 1) := by decide +kernel
theorem dX5_removeFrom_19 : decode cX5_removeFrom 19 = .ok (.iload_n 1, 1) := by decide +kernel
theorem dX5_removeFrom_20 : decode cX5_removeFrom 20 = .ok (.aload_n 0, 1) := by decide +kernel
theorem dX5_removeFrom_21 : decode cX5_removeFrom 21 = .ok (.getfield 31, 3) := by decide +kernel
theorem dX5_removeFrom_24 : decode cX5_removeFrom 24 = .ok (.invokevirtual 141, 3) := by decide +kernel
theorem dX5_removeFrom_27 : decode cX5_removeFrom 27 = .ok (.iload_n 2, 1) := by decide +kernel
theorem dX5_removeFrom_28 : decode cX5_removeFrom 28 = .ok (.isub, 1) := by decide +kernel
theorem dX5_removeFrom_29 : decode cX5_removeFrom 29 = .ok (.iconst 1, 1) := by decide +kernel
theorem dX5_removeFrom_30 : decode cX5_removeFrom 30 = .ok (.isub, 1) := by decide +kernel
theorem dX5_removeFrom_31 : decode cX5_removeFrom 31 = .ok (.invokestatic 151, 3) := by decide +kernel
theorem dX5_removeFrom_34 : decode cX5_removeFrom 34 = .ok (.iconst 1, 1) := by decide +kernel
theorem dX5_removeFrom_35 : decode cX5_removeFrom 35 = .ok (.iadd, 1) := by decide +kernel
theorem dX5_removeFrom_36 : decode cX5_removeFrom 36 = .ok (.istore_n 3, 1) := by decide +kernel
theorem dX5_removeFrom_37 : decode cX5_removeFrom 37 = .ok (.iconst 0, 1) := by decide +kernel
theorem dX5_removeFrom_38 : decode cX5_removeFrom 38 = .ok (.istore 4, 2) := by decide +kernel
theorem dX5_removeFrom_40 : decode cX5_removeFrom 40 = .ok (.iload 4, 2) := by decide +kernel
theorem dX5_removeFrom_42 : decode cX5_removeFrom 42 = .ok (.iload_n 3, 1) := by decide +kernel
theorem dX5_removeFrom_43 : decode cX5_removeFrom 43 = .ok (.if_icmp .ge 30, 3) := by decide +kernel
theorem dX5_removeFrom_46 : decode cX5_removeFrom 46 = .ok (.aload_n 0, 1) := by decide +kernel
theorem dX5_removeFrom_47 : decode cX5_removeFrom 47 = .ok (.getfield 31, 3) := by decide +kernel
theorem dX5_removeFrom_50 : decode cX5_removeFrom 50 = .ok (.iload_n 2, 1) := by decide +kernel
theorem dX5_removeFrom_51 : decode cX5_removeFrom 51 = .ok (.invokevirtual 122, 3) := by decide +kernel
theorem dX5_removeFrom_54 : decode cX5_removeFrom 54 = .ok (.astore 5, 2) := by decide +kernel
theorem dX5_removeFrom_56 : decode cX5_removeFrom 56 = .ok (.aload 5, 2) := by decide +kernel
theorem dX5_removeFrom_58 : decode cX5_removeFrom 58 = .ok (.ifnull 9, 3) := by decide +kernel
theorem dX5_removeFrom_61 : decode cX5_removeFrom 61 = .ok (.aload_n 0, 1) := by decide +kernel
theorem dX5_removeFrom_62 : decode cX5_removeFrom 62 = .ok (.aload 5, 2) := by decide +kernel
theorem dX5_removeFrom_64 : decode cX5_removeFrom 64 = .ok (.invokevirtual 112, 3) := by decide +kernel
theorem dX5_removeFrom_67 : decode cX5_removeFrom 67 = .ok (.iinc 4 1, 3) := by decide +kernel
theorem dX5_removeFrom_70 : decode cX5_removeFrom 70 = .ok (.goto (-30), 3) := by decide +kernel
theorem dX5_removeFrom_73 : decode cX5_removeFrom 73 = .ok (.iload_n 3, 1) := by decide +kernel
theorem dX5_removeFrom_74 : decode cX5_removeFrom 74 = .ok (.ireturn, 1) := by decide +kernel
theorem dX5_clear_0 : decode cX5_clear 0 = .ok (.aload_n 0, 1) := by decide +kernel
theorem dX5_clear_1 : decode cX5_clear 1 = .ok (.getfield 31, 3) := by decide +kernel
theorem dX5_clear_4 : decode cX5_clear 4 = .ok (.invokevirtual 141, 3) := by decide +kernel
theorem dX5_clear_7 : decode cX5_clear 7 = .ok (.istore_n 1, 1) := by decide +kernel
theorem dX5_clear_8 : decode cX5_clear 8 = .ok (.aload_n 0, 1) := by decide +kernel
theorem dX5_clear_9 : decode cX5_clear 9 = .ok (.getfield 31, 3) := by decide +kernel
theorem dX5_clear_12 : decode cX5_clear 12 = .ok (.invokevirtual 154, 3) := by decide +kernel
theorem dX5_clear_15 : decode cX5_clear 15 = .ok (.aload_n 0, 1) := by decide +kernel
theorem dX5_clear_16 : decode cX5_clear 16 = .ok (.getfield 22, 3) := by decide +kernel
theorem dX5_clear_19 : decode cX5_clear 19 = .ok (.invokevirtual 157, 3) := by decide +kernel
theorem dX5_clear_22 : decode cX5_clear 22 = .ok (.aload_n 0, 1) := by decide +kernel
theorem dX5_clear_23 : decode cX5_clear 23 = .ok (.aconst_null, 1) := by decide +kernel
theorem dX5_clear_24 : decode cX5_clear 24 = .ok (.putfield 92, 3) := by decide +kernel
theorem dX5_clear_27 : decode cX5_clear 27 = .ok (.aload_n 0, 1) := by decide +kernel
theorem dX5_clear_28 : decode cX5_clear 28 = .ok (.iconst 0, 1) := by decide +kernel
theorem dX5_clear_29 : decode cX5_clear 29 = .ok (.putfield 158, 3) := by decide +kernel
theorem dX5_clear_32 : decode cX5_clear 32 = .ok (.aload_n 0, 1) := by decide +kernel
theorem dX5_clear_33 : decode cX5_clear 33 = .ok (.iconst 0, 1) := by decide +kernel
theorem dX5_clear_34 : decode cX5_clear 34 = .ok (.putfield 161, 3) := by decide +kernel
theorem dX5_clear_37 : decode cX5_clear 37 = .ok (.iload_n 1, 1) := by decide +kernel
theorem dX5_clear_38 : decode cX5_clear 38 = .ok (.ireturn, 1) := by decide +kernel
theorem dX5_byteAt_0 : decode cX5_byteAt 0 = .ok (.iload_n 1, 1) := by decide +kernel
theorem dX5_byteAt_1 : decode cX5_byteAt 1 = .ok (.ifCond .lt 14, 3) := by decide +kernel
theorem dX5_byteAt_4 : decode cX5_byteAt 4 = .ok (.iload_n 1, 1) := by decide +kernel
theorem dX5_byteAt_5 : decode cX5_byteAt 5 = .ok (.aload_n 0, 1) := by decide +kernel
theorem dX5_byteAt_6 : decode cX5_byteAt 6 = .ok (.getfield 42, 3) := by decide +kernel
theorem dX5_byteAt_9 : decode cX5_byteAt 9 = .ok (.getfield 52, 3) := by decide +kernel
theorem dX5_byteAt_12 : decode cX5_byteAt 12 = .ok (.if_icmp .lt 13, 3) := by decide +kernel
theorem dX5_byteAt_15 : decode cX5_byteAt 15 = .ok (.new 129, 3) := by decide +kernel
theorem dX5_byteAt_18 : decode cX5_byteAt 18 = .ok (.dup, 1) := by decide +kernel
theorem dX5_byteAt_19 : decode cX5_byteAt 19 = .ok (.ldc 164, 2) := by decide +kernel
theorem dX5_byteAt_21 : decode cX5_byteAt 21 = .ok (.invokespecial 133, 3) := by decide +kernel
theorem dX5_byteAt_24 : decode cX5_byteAt 24 = .ok (.athrow, 1) := by decide +kernel
theorem dX5_byteAt_25 : decode cX5_byteAt 25 = .ok (.aload_n 0, 1) := by decide +kernel
theorem dX5_byteAt_26 : decode cX5_byteAt 26 = .ok (.getfield 42, 3) := by decide +kernel
theorem dX5_byteAt_29 : decode cX5_byteAt 29 = .ok (.getfield 166, 3) := by decide +kernel
theorem dX5_byteAt_32 : decode cX5_byteAt 32 = .ok (.iload_n 1, 1) := by decide +kernel
theorem dX5_byteAt_33 : decode cX5_byteAt 33 = .ok (.baload, 1) := by decide +kernel
theorem dX5_byteAt_34 : decode cX5_byteAt 34 = .ok (.sipush 255, 3) := by decide +kernel
theorem dX5_byteAt_37 : decode cX5_byteAt 37 = .ok (.iand, 1) := by decide +kernel
theorem dX5_byteAt_38 : decode cX5_byteAt 38 = .ok (.ireturn, 1) := by decide +kernel
theorem dX5_count_0 : decode cX5_count 0 = .ok (.iload_n 1, 1) := by decide +kernel
theorem dX5_count_1 : decode cX5_count 1 = .ok (.tableswitch 81 0 5 #[39, 47, 55, 60, 65, 73], 39) := by decide +kernel
theorem dX5_count_40 : decode cX5_count 40 = .ok (.aload_n 0, 1) := by decide +kernel
theorem dX5_count_41 : decode cX5_count 41 = .ok (.getfield 31, 3) := by decide +kernel
theorem dX5_count_44 : decode cX5_count 44 = .ok (.invokevirtual 141, 3) := by decide +kernel
theorem dX5_count_47 : decode cX5_count 47 = .ok (.ireturn, 1) := by decide +kernel
theorem dX5_count_48 : decode cX5_count 48 = .ok (.aload_n 0, 1) := by decide +kernel
theorem dX5_count_49 : decode cX5_count 49 = .ok (.getfield 22, 3) := by decide +kernel
theorem dX5_count_52 : decode cX5_count 52 = .ok (.getfield 170, 3) := by decide +kernel
theorem dX5_count_55 : decode cX5_count 55 = .ok (.ireturn, 1) := by decide +kernel
theorem dX5_count_56 : decode cX5_count 56 = .ok (.aload_n 0, 1) := by decide +kernel
theorem dX5_count_57 : decode cX5_count 57 = .ok (.getfield 158, 3) := by decide +kernel
theorem dX5_count_60 : decode cX5_count 60 = .ok (.ireturn, 1) := by decide +kernel
theorem dX5_count_61 : decode cX5_count 61 = .ok (.aload_n 0, 1) := by decide +kernel
theorem dX5_count_62 : decode cX5_count 62 = .ok (.getfield 161, 3) := by decide +kernel
theorem dX5_count_65 : decode cX5_count 65 = .ok (.ireturn, 1) := by decide +kernel
theorem dX5_count_66 : decode cX5_count 66 = .ok (.aload_n 0, 1) := by decide +kernel
theorem dX5_count_67 : decode cX5_count 67 = .ok (.getfield 38, 3) := by decide +kernel
theorem dX5_count_70 : decode cX5_count 70 = .ok (.getfield 52, 3) := by decide +kernel
theorem dX5_count_73 : decode cX5_count 73 = .ok (.ireturn, 1) := by decide +kernel
theorem dX5_count_74 : decode cX5_count 74 = .ok (.aload_n 0, 1) := by decide +kernel
theorem dX5_count_75 : decode cX5_count 75 = .ok (.getfield 42, 3) := by decide +kernel
theorem dX5_count_78 : decode cX5_count 78 = .ok (.getfield 52, 3) := by decide +kernel
theorem dX5_count_81 : decode cX5_count 81 = .ok (.ireturn, 1) := by decide +kernel
theorem dX5_count_82 : decode cX5_count 82 = .ok (.iconst (-1), 1) := by decide +kernel
theorem dX5_count_83 : decode cX5_count 83 = .ok (.ireturn, 1) := by decide +kernel
theorem dX5_sound_0 : decode cX5_sound 0 = .ok (.aload_n 0, 1) := by decide +kernel
theorem dX5_sound_1 : decode cX5_sound 1 = .ok (.getfield 22, 3) := by decide +kernel
theorem dX5_sound_4 : decode cX5_sound 4 = .ok (.invokevirtual 173, 3) := by decide +kernel
theorem dX5_sound_7 : decode cX5_sound 7 = .ok (.ifCond .eq 24, 3) := by decide +kernel
theorem dX5_sound_10 : decode cX5_sound 10 = .ok (.aload_n 0, 1) := by decide +kernel
theorem dX5_sound_11 : decode cX5_sound 11 = .ok (.invokevirtual 177, 3) := by decide +kernel
theorem dX5_sound_14 : decode cX5_sound 14 = .ok (.ifCond .eq 17, 3) := by decide +kernel
theorem dX5_sound_17 : decode cX5_sound 17 = .ok (.aload_n 0, 1) := by decide +kernel
theorem dX5_sound_18 : decode cX5_sound 18 = .ok (.getfield 31, 3) := by decide +kernel
theorem dX5_sound_21 : decode cX5_sound 21 = .ok (.invokevirtual 180, 3) := by decide +kernel
theorem dX5_sound_24 : decode cX5_sound 24 = .ok (.ifCond .eq 7, 3) := by decide +kernel
theorem dX5_sound_27 : decode cX5_sound 27 = .ok (.iconst 1, 1) := by decide +kernel
theorem dX5_sound_28 : decode cX5_sound 28 = .ok (.goto 4, 3) := by decide +kernel
theorem dX5_sound_31 : decode cX5_sound 31 = .ok (.iconst 0, 1) := by decide +kernel
theorem dX5_sound_32 : decode cX5_sound 32 = .ok (.ireturn, 1) := by decide +kernel
theorem dX5_nearest_0 : decode cX5_nearest 0 = .ok (.iconst 1, 1) := by decide +kernel
theorem dX5_nearest_1 : decode cX5_nearest 1 = .ok (.iload_n 1, 1) := by decide +kernel
theorem dX5_nearest_2 : decode cX5_nearest 2 = .ok (.iload_n 0, 1) := by decide +kernel
theorem dX5_nearest_3 : decode cX5_nearest 3 = .ok (.invokestatic 151, 3) := by decide +kernel
theorem dX5_nearest_6 : decode cX5_nearest 6 = .ok (.invokestatic 144, 3) := by decide +kernel
theorem dX5_nearest_9 : decode cX5_nearest 9 = .ok (.ireturn, 1) := by decide +kernel
theorem dX5_unitsOf_0 : decode cX5_unitsOf 0 = .ok (.iload_n 0, 1) := by decide +kernel
theorem dX5_unitsOf_1 : decode cX5_unitsOf 1 = .ok (.bipush 16, 2) := by decide +kernel
theorem dX5_unitsOf_3 : decode cX5_unitsOf 3 = .ok (.iadd, 1) := by decide +kernel
theorem dX5_unitsOf_4 : decode cX5_unitsOf 4 = .ok (.iconst 1, 1) := by decide +kernel
theorem dX5_unitsOf_5 : decode cX5_unitsOf 5 = .ok (.isub, 1) := by decide +kernel
theorem dX5_unitsOf_6 : decode cX5_unitsOf 6 = .ok (.bipush 16, 2) := by decide +kernel
theorem dX5_unitsOf_8 : decode cX5_unitsOf 8 = .ok (.idiv, 1) := by decide +kernel
theorem dX5_unitsOf_9 : decode cX5_unitsOf 9 = .ok (.ireturn, 1) := by decide +kernel
theorem dX5_isKeyLength_0 : decode cX5_isKeyLength 0 = .ok (.iload_n 0, 1) := by decide +kernel
theorem dX5_isKeyLength_1 : decode cX5_isKeyLength 1 = .ok (.iconst 1, 1) := by decide +kernel
theorem dX5_isKeyLength_2 : decode cX5_isKeyLength 2 = .ok (.if_icmp .lt 13, 3) := by decide +kernel
theorem dX5_isKeyLength_5 : decode cX5_isKeyLength 5 = .ok (.iload_n 0, 1) := by decide +kernel
theorem dX5_isKeyLength_6 : decode cX5_isKeyLength 6 = .ok (.bipush 64, 2) := by decide +kernel
theorem dX5_isKeyLength_8 : decode cX5_isKeyLength 8 = .ok (.if_icmp .gt 7, 3) := by decide +kernel
theorem dX5_isKeyLength_11 : decode cX5_isKeyLength 11 = .ok (.iconst 1, 1) := by decide +kernel
theorem dX5_isKeyLength_12 : decode cX5_isKeyLength 12 = .ok (.goto 4, 3) := by decide +kernel
theorem dX5_isKeyLength_15 : decode cX5_isKeyLength 15 = .ok (.iconst 0, 1) := by decide +kernel
theorem dX5_isKeyLength_16 : decode cX5_isKeyLength 16 = .ok (.ireturn, 1) := by decide +kernel
theorem dX5_readTape_0 : decode cX5_readTape 0 = .ok (.aload_n 0, 1) := by decide +kernel
theorem dX5_readTape_1 : decode cX5_readTape 1 = .ok (.getfield 38, 3) := by decide +kernel
theorem dX5_readTape_4 : decode cX5_readTape 4 = .ok (.getfield 52, 3) := by decide +kernel
theorem dX5_readTape_7 : decode cX5_readTape 7 = .ok (.istore_n 1, 1) := by decide +kernel
theorem dX5_readTape_8 : decode cX5_readTape 8 = .ok (.aload_n 0, 1) := by decide +kernel
theorem dX5_readTape_9 : decode cX5_readTape 9 = .ok (.getfield 38, 3) := by decide +kernel
theorem dX5_readTape_12 : decode cX5_readTape 12 = .ok (.iconst 0, 1) := by decide +kernel
theorem dX5_readTape_13 : decode cX5_readTape 13 = .ok (.putfield 52, 3) := by decide +kernel
theorem dX5_readTape_16 : decode cX5_readTape 16 = .ok (.iload_n 1, 1) := by decide +kernel
theorem dX5_readTape_17 : decode cX5_readTape 17 = .ok (.ireturn, 1) := by decide +kernel
theorem dX5_readKey_0 : decode cX5_readKey 0 = .ok (.aload_n 0, 1) := by decide +kernel
theorem dX5_readKey_1 : decode cX5_readKey 1 = .ok (.invokevirtual 64, 3) := by decide +kernel
theorem dX5_readKey_4 : decode cX5_readKey 4 = .ok (.istore_n 1, 1) := by decide +kernel
theorem dX5_readKey_5 : decode cX5_readKey 5 = .ok (.iload_n 1, 1) := by decide +kernel
theorem dX5_readKey_6 : decode cX5_readKey 6 = .ok (.invokestatic 68, 3) := by decide +kernel
theorem dX5_readKey_9 : decode cX5_readKey 9 = .ok (.ifCond .ne 13, 3) := by decide +kernel
theorem dX5_readKey_12 : decode cX5_readKey 12 = .ok (.new 45, 3) := by decide +kernel
theorem dX5_readKey_15 : decode cX5_readKey 15 = .ok (.dup, 1) := by decide +kernel
theorem dX5_readKey_16 : decode cX5_readKey 16 = .ok (.ldc 181, 2) := by decide +kernel
theorem dX5_readKey_18 : decode cX5_readKey 18 = .ok (.invokespecial 49, 3) := by decide +kernel
theorem dX5_readKey_21 : decode cX5_readKey 21 = .ok (.athrow, 1) := by decide +kernel
theorem dX5_readKey_22 : decode cX5_readKey 22 = .ok (.iload_n 1, 1) := by decide +kernel
theorem dX5_readKey_23 : decode cX5_readKey 23 = .ok (.ireturn, 1) := by decide +kernel
theorem dX5_currentPlace_0 : decode cX5_currentPlace 0 = .ok (.aload_n 0, 1) := by decide +kernel
theorem dX5_currentPlace_1 : decode cX5_currentPlace 1 = .ok (.getfield 92, 3) := by decide +kernel
theorem dX5_currentPlace_4 : decode cX5_currentPlace 4 = .ok (.ifnonnull 13, 3) := by decide +kernel
theorem dX5_currentPlace_7 : decode cX5_currentPlace 7 = .ok (.new 55, 3) := by decide +kernel
theorem dX5_currentPlace_10 : decode cX5_currentPlace 10 = .ok (.dup, 1) := by decide +kernel
theorem dX5_currentPlace_11 : decode cX5_currentPlace 11 = .ok (.ldc 137, 2) := by decide +kernel
theorem dX5_currentPlace_13 : decode cX5_currentPlace 13 = .ok (.invokespecial 59, 3) := by decide +kernel
theorem dX5_currentPlace_16 : decode cX5_currentPlace 16 = .ok (.athrow, 1) := by decide +kernel
theorem dX5_currentPlace_17 : decode cX5_currentPlace 17 = .ok (.aload_n 0, 1) := by decide +kernel
theorem dX5_currentPlace_18 : decode cX5_currentPlace 18 = .ok (.getfield 31, 3) := by decide +kernel
theorem dX5_currentPlace_21 : decode cX5_currentPlace 21 = .ok (.aload_n 0, 1) := by decide +kernel
theorem dX5_currentPlace_22 : decode cX5_currentPlace 22 = .ok (.getfield 92, 3) := by decide +kernel
theorem dX5_currentPlace_25 : decode cX5_currentPlace 25 = .ok (.invokevirtual 183, 3) := by decide +kernel
theorem dX5_currentPlace_28 : decode cX5_currentPlace 28 = .ok (.ireturn, 1) := by decide +kernel
theorem dX5_isFull_0 : decode cX5_isFull 0 = .ok (.aload_n 1, 1) := by decide +kernel
theorem dX5_isFull_1 : decode cX5_isFull 1 = .ok (.ifnonnull 21, 3) := by decide +kernel
theorem dX5_isFull_4 : decode cX5_isFull 4 = .ok (.aload_n 0, 1) := by decide +kernel
theorem dX5_isFull_5 : decode cX5_isFull 5 = .ok (.getfield 31, 3) := by decide +kernel
theorem dX5_isFull_8 : decode cX5_isFull 8 = .ok (.invokevirtual 141, 3) := by decide +kernel
theorem dX5_isFull_11 : decode cX5_isFull 11 = .ok (.aload_n 0, 1) := by decide +kernel
theorem dX5_isFull_12 : decode cX5_isFull 12 = .ok (.getfield 13, 3) := by decide +kernel
theorem dX5_isFull_15 : decode cX5_isFull 15 = .ok (.if_icmp .lt 7, 3) := by decide +kernel
theorem dX5_isFull_18 : decode cX5_isFull 18 = .ok (.iconst 1, 1) := by decide +kernel
theorem dX5_isFull_19 : decode cX5_isFull 19 = .ok (.goto 4, 3) := by decide +kernel
theorem dX5_isFull_22 : decode cX5_isFull 22 = .ok (.iconst 0, 1) := by decide +kernel
theorem dX5_isFull_23 : decode cX5_isFull 23 = .ok (.istore_n 3, 1) := by decide +kernel
theorem dX5_isFull_24 : decode cX5_isFull 24 = .ok (.aload_n 1, 1) := by decide +kernel
theorem dX5_isFull_25 : decode cX5_isFull 25 = .ok (.ifnonnull 7, 3) := by decide +kernel
theorem dX5_isFull_28 : decode cX5_isFull 28 = .ok (.iconst 0, 1) := by decide +kernel
theorem dX5_isFull_29 : decode cX5_isFull 29 = .ok (.goto 10, 3) := by decide +kernel
theorem dX5_isFull_32 : decode cX5_isFull 32 = .ok (.aload_n 1, 1) := by decide +kernel
theorem dX5_isFull_33 : decode cX5_isFull 33 = .ok (.getfield 186, 3) := by decide +kernel
theorem dX5_isFull_36 : decode cX5_isFull 36 = .ok (.getfield 192, 3) := by decide +kernel
theorem dX5_isFull_39 : decode cX5_isFull 39 = .ok (.istore 4, 2) := by decide +kernel
theorem dX5_isFull_41 : decode cX5_isFull 41 = .ok (.iload_n 3, 1) := by decide +kernel
theorem dX5_isFull_42 : decode cX5_isFull 42 = .ok (.ifCond .ne 25, 3) := by decide +kernel
theorem dX5_isFull_45 : decode cX5_isFull 45 = .ok (.aload_n 0, 1) := by decide +kernel
theorem dX5_isFull_46 : decode cX5_isFull 46 = .ok (.getfield 22, 3) := by decide +kernel
theorem dX5_isFull_49 : decode cX5_isFull 49 = .ok (.getfield 170, 3) := by decide +kernel
theorem dX5_isFull_52 : decode cX5_isFull 52 = .ok (.iload 4, 2) := by decide +kernel
theorem dX5_isFull_54 : decode cX5_isFull 54 = .ok (.isub, 1) := by decide +kernel
theorem dX5_isFull_55 : decode cX5_isFull 55 = .ok (.iload_n 2, 1) := by decide +kernel
theorem dX5_isFull_56 : decode cX5_isFull 56 = .ok (.iadd, 1) := by decide +kernel
theorem dX5_isFull_57 : decode cX5_isFull 57 = .ok (.aload_n 0, 1) := by decide +kernel
theorem dX5_isFull_58 : decode cX5_isFull 58 = .ok (.getfield 22, 3) := by decide +kernel
theorem dX5_isFull_61 : decode cX5_isFull 61 = .ok (.getfield 197, 3) := by decide +kernel
theorem dX5_isFull_64 : decode cX5_isFull 64 = .ok (.if_icmp .le 7, 3) := by decide +kernel
theorem dX5_isFull_67 : decode cX5_isFull 67 = .ok (.iconst 1, 1) := by decide +kernel
theorem dX5_isFull_68 : decode cX5_isFull 68 = .ok (.goto 4, 3) := by decide +kernel
theorem dX5_isFull_71 : decode cX5_isFull 71 = .ok (.iconst 0, 1) := by decide +kernel
theorem dX5_isFull_72 : decode cX5_isFull 72 = .ok (.ireturn, 1) := by decide +kernel
theorem dX5_newEntry_0 : decode cX5_newEntry 0 = .ok (.new 187, 3) := by decide +kernel
theorem dX5_newEntry_3 : decode cX5_newEntry 3 = .ok (.dup, 1) := by decide +kernel
theorem dX5_newEntry_4 : decode cX5_newEntry 4 = .ok (.iload_n 1, 1) := by decide +kernel
theorem dX5_newEntry_5 : decode cX5_newEntry 5 = .ok (.invokespecial 200, 3) := by decide +kernel
theorem dX5_newEntry_8 : decode cX5_newEntry 8 = .ok (.astore_n 3, 1) := by decide +kernel
theorem dX5_newEntry_9 : decode cX5_newEntry 9 = .ok (.aload_n 3, 1) := by decide +kernel
theorem dX5_newEntry_10 : decode cX5_newEntry 10 = .ok (.aload_n 0, 1) := by decide +kernel
theorem dX5_newEntry_11 : decode cX5_newEntry 11 = .ok (.getfield 22, 3) := by decide +kernel
theorem dX5_newEntry_14 : decode cX5_newEntry 14 = .ok (.aload_n 3, 1) := by decide +kernel
theorem dX5_newEntry_15 : decode cX5_newEntry 15 = .ok (.iload_n 2, 1) := by decide +kernel
theorem dX5_newEntry_16 : decode cX5_newEntry 16 = .ok (.invokestatic 78, 3) := by decide +kernel
theorem dX5_newEntry_19 : decode cX5_newEntry 19 = .ok (.invokevirtual 201, 3) := by decide +kernel
theorem dX5_newEntry_22 : decode cX5_newEntry 22 = .ok (.putfield 186, 3) := by decide +kernel
theorem dX5_newEntry_25 : decode cX5_newEntry 25 = .ok (.aload_n 0, 1) := by decide +kernel
theorem dX5_newEntry_26 : decode cX5_newEntry 26 = .ok (.dup, 1) := by decide +kernel
theorem dX5_newEntry_27 : decode cX5_newEntry 27 = .ok (.getfield 158, 3) := by decide +kernel
theorem dX5_newEntry_30 : decode cX5_newEntry 30 = .ok (.iload_n 1, 1) := by decide +kernel
theorem dX5_newEntry_31 : decode cX5_newEntry 31 = .ok (.iadd, 1) := by decide +kernel
theorem dX5_newEntry_32 : decode cX5_newEntry 32 = .ok (.putfield 158, 3) := by decide +kernel
theorem dX5_newEntry_35 : decode cX5_newEntry 35 = .ok (.aload_n 0, 1) := by decide +kernel
theorem dX5_newEntry_36 : decode cX5_newEntry 36 = .ok (.aload_n 3, 1) := by decide +kernel
theorem dX5_newEntry_37 : decode cX5_newEntry 37 = .ok (.iload_n 2, 1) := by decide +kernel
theorem dX5_newEntry_38 : decode cX5_newEntry 38 = .ok (.invokevirtual 205, 3) := by decide +kernel
theorem dX5_newEntry_41 : decode cX5_newEntry 41 = .ok (.aload_n 0, 1) := by decide +kernel
theorem dX5_newEntry_42 : decode cX5_newEntry 42 = .ok (.getfield 31, 3) := by decide +kernel
theorem dX5_newEntry_45 : decode cX5_newEntry 45 = .ok (.aload_n 3, 1) := by decide +kernel
theorem dX5_newEntry_46 : decode cX5_newEntry 46 = .ok (.invokevirtual 208, 3) := by decide +kernel
theorem dX5_newEntry_49 : decode cX5_newEntry 49 = .ok (.aload_n 3, 1) := by decide +kernel
theorem dX5_newEntry_50 : decode cX5_newEntry 50 = .ok (.areturn, 1) := by decide +kernel
theorem dX5_changeValue_0 : decode cX5_changeValue 0 = .ok (.aload_n 1, 1) := by decide +kernel
theorem dX5_changeValue_1 : decode cX5_changeValue 1 = .ok (.getfield 186, 3) := by decide +kernel
theorem dX5_changeValue_4 : decode cX5_changeValue 4 = .ok (.getfield 192, 3) := by decide +kernel
theorem dX5_changeValue_7 : decode cX5_changeValue 7 = .ok (.iload_n 2, 1) := by decide +kernel
theorem dX5_changeValue_8 : decode cX5_changeValue 8 = .ok (.invokestatic 78, 3) := by decide +kernel
theorem dX5_changeValue_11 : decode cX5_changeValue 11 = .ok (.if_icmp .eq 30, 3) := by decide +kernel
theorem dX5_changeValue_14 : decode cX5_changeValue 14 = .ok (.aload_n 0, 1) := by decide +kernel
theorem dX5_changeValue_15 : decode cX5_changeValue 15 = .ok (.getfield 22, 3) := by decide +kernel
theorem dX5_changeValue_18 : decode cX5_changeValue 18 = .ok (.aload_n 1, 1) := by decide +kernel
theorem dX5_changeValue_19 : decode cX5_changeValue 19 = .ok (.getfield 186, 3) := by decide +kernel
theorem dX5_changeValue_22 : decode cX5_changeValue 22 = .ok (.invokevirtual 211, 3) := by decide +kernel
theorem dX5_changeValue_25 : decode cX5_changeValue 25 = .ok (.aload_n 1, 1) := by decide +kernel
theorem dX5_changeValue_26 : decode cX5_changeValue 26 = .ok (.aload_n 0, 1) := by decide +kernel
theorem dX5_changeValue_27 : decode cX5_changeValue 27 = .ok (.getfield 22, 3) := by decide +kernel
theorem dX5_changeValue_30 : decode cX5_changeValue 30 = .ok (.aload_n 1, 1) := by decide +kernel
theorem dX5_changeValue_31 : decode cX5_changeValue 31 = .ok (.iload_n 2, 1) := by decide +kernel
theorem dX5_changeValue_32 : decode cX5_changeValue 32 = .ok (.invokestatic 78, 3) := by decide +kernel
theorem dX5_changeValue_35 : decode cX5_changeValue 35 = .ok (.invokevirtual 201, 3) := by decide +kernel
theorem dX5_changeValue_38 : decode cX5_changeValue 38 = .ok (.putfield 186, 3) := by decide +kernel
theorem dX5_changeValue_41 : decode cX5_changeValue 41 = .ok (.aload_n 0, 1) := by decide +kernel
theorem dX5_changeValue_42 : decode cX5_changeValue 42 = .ok (.dup, 1) := by decide +kernel
theorem dX5_changeValue_43 : decode cX5_changeValue 43 = .ok (.getfield 161, 3) := by decide +kernel
theorem dX5_changeValue_46 : decode cX5_changeValue 46 = .ok (.aload_n 1, 1) := by decide +kernel
theorem dX5_changeValue_47 : decode cX5_changeValue 47 = .ok (.getfield 215, 3) := by decide +kernel
theorem dX5_changeValue_50 : decode cX5_changeValue 50 = .ok (.isub, 1) := by decide +kernel
theorem dX5_changeValue_51 : decode cX5_changeValue 51 = .ok (.putfield 161, 3) := by decide +kernel
theorem dX5_changeValue_54 : decode cX5_changeValue 54 = .ok (.aload_n 0, 1) := by decide +kernel
theorem dX5_changeValue_55 : decode cX5_changeValue 55 = .ok (.aload_n 1, 1) := by decide +kernel
theorem dX5_changeValue_56 : decode cX5_changeValue 56 = .ok (.iload_n 2, 1) := by decide +kernel
theorem dX5_changeValue_57 : decode cX5_changeValue 57 = .ok (.invokevirtual 205, 3) := by decide +kernel
theorem dX5_changeValue_60 : decode cX5_changeValue 60 = .ok (.return_, 1) := by decide +kernel
theorem dX5_fill_0 : decode cX5_fill 0 = .ok (.aload_n 0, 1) := by decide +kernel
theorem dX5_fill_1 : decode cX5_fill 1 = .ok (.getfield 22, 3) := by decide +kernel
theorem dX5_fill_4 : decode cX5_fill 4 = .ok (.aload_n 1, 1) := by decide +kernel
theorem dX5_fill_5 : decode cX5_fill 5 = .ok (.getfield 186, 3) := by decide +kernel
theorem dX5_fill_8 : decode cX5_fill 8 = .ok (.aload_n 0, 1) := by decide +kernel
theorem dX5_fill_9 : decode cX5_fill 9 = .ok (.getfield 38, 3) := by decide +kernel
theorem dX5_fill_12 : decode cX5_fill 12 = .ok (.iload_n 2, 1) := by decide +kernel
theorem dX5_fill_13 : decode cX5_fill 13 = .ok (.invokevirtual 216, 3) := by decide +kernel
theorem dX5_fill_16 : decode cX5_fill 16 = .ok (.aload_n 1, 1) := by decide +kernel
theorem dX5_fill_17 : decode cX5_fill 17 = .ok (.iload_n 2, 1) := by decide +kernel
theorem dX5_fill_18 : decode cX5_fill 18 = .ok (.aload_n 1, 1) := by decide +kernel
theorem dX5_fill_19 : decode cX5_fill 19 = .ok (.getfield 220, 3) := by decide +kernel
theorem dX5_fill_22 : decode cX5_fill 22 = .ok (.isub, 1) := by decide +kernel
theorem dX5_fill_23 : decode cX5_fill 23 = .ok (.putfield 215, 3) := by decide +kernel
theorem dX5_fill_26 : decode cX5_fill 26 = .ok (.aload_n 0, 1) := by decide +kernel
theorem dX5_fill_27 : decode cX5_fill 27 = .ok (.dup, 1) := by decide +kernel
theorem dX5_fill_28 : decode cX5_fill 28 = .ok (.getfield 161, 3) := by decide +kernel
theorem dX5_fill_31 : decode cX5_fill 31 = .ok (.aload_n 1, 1) := by decide +kernel
theorem dX5_fill_32 : decode cX5_fill 32 = .ok (.getfield 215, 3) := by decide +kernel
theorem dX5_fill_35 : decode cX5_fill 35 = .ok (.iadd, 1) := by decide +kernel
theorem dX5_fill_36 : decode cX5_fill 36 = .ok (.putfield 161, 3) := by decide +kernel
theorem dX5_fill_39 : decode cX5_fill 39 = .ok (.return_, 1) := by decide +kernel
theorem dX5_drop_0 : decode cX5_drop 0 = .ok (.aload_n 0, 1) := by decide +kernel
theorem dX5_drop_1 : decode cX5_drop 1 = .ok (.getfield 31, 3) := by decide +kernel
theorem dX5_drop_4 : decode cX5_drop 4 = .ok (.aload_n 1, 1) := by decide +kernel
theorem dX5_drop_5 : decode cX5_drop 5 = .ok (.invokevirtual 221, 3) := by decide +kernel
theorem dX5_drop_8 : decode cX5_drop 8 = .ok (.aload_n 0, 1) := by decide +kernel
theorem dX5_drop_9 : decode cX5_drop 9 = .ok (.getfield 22, 3) := by decide +kernel
theorem dX5_drop_12 : decode cX5_drop 12 = .ok (.aload_n 1, 1) := by decide +kernel
theorem dX5_drop_13 : decode cX5_drop 13 = .ok (.getfield 186, 3) := by decide +kernel
theorem dX5_drop_16 : decode cX5_drop 16 = .ok (.invokevirtual 211, 3) := by decide +kernel
theorem dX5_drop_19 : decode cX5_drop 19 = .ok (.aload_n 0, 1) := by decide +kernel
theorem dX5_drop_20 : decode cX5_drop 20 = .ok (.dup, 1) := by decide +kernel
theorem dX5_drop_21 : decode cX5_drop 21 = .ok (.getfield 158, 3) := by decide +kernel
theorem dX5_drop_24 : decode cX5_drop 24 = .ok (.aload_n 1, 1) := by decide +kernel
theorem dX5_drop_25 : decode cX5_drop 25 = .ok (.getfield 220, 3) := by decide +kernel
theorem dX5_drop_28 : decode cX5_drop 28 = .ok (.isub, 1) := by decide +kernel
theorem dX5_drop_29 : decode cX5_drop 29 = .ok (.putfield 158, 3) := by decide +kernel
theorem dX5_drop_32 : decode cX5_drop 32 = .ok (.aload_n 0, 1) := by decide +kernel
theorem dX5_drop_33 : decode cX5_drop 33 = .ok (.dup, 1) := by decide +kernel
theorem dX5_drop_34 : decode cX5_drop 34 = .ok (.getfield 161, 3) := by decide +kernel
theorem dX5_drop_37 : decode cX5_drop 37 = .ok (.aload_n 1, 1) := by decide +kernel
theorem dX5_drop_38 : decode cX5_drop 38 = .ok (.getfield 215, 3) := by decide +kernel
theorem dX5_drop_41 : decode cX5_drop 41 = .ok (.isub, 1) := by decide +kernel
theorem dX5_drop_42 : decode cX5_drop 42 = .ok (.putfield 161, 3) := by decide +kernel
theorem dX5_drop_45 : decode cX5_drop 45 = .ok (.aload_n 0, 1) := by decide +kernel
theorem dX5_drop_46 : decode cX5_drop 46 = .ok (.getfield 92, 3) := by decide +kernel
theorem dX5_drop_49 : decode cX5_drop 49 = .ok (.aload_n 1, 1) := by decide +kernel
theorem dX5_drop_50 : decode cX5_drop 50 = .ok (.if_acmp .ne 8, 3) := by decide +kernel
theorem dX5_drop_53 : decode cX5_drop 53 = .ok (.aload_n 0, 1) := by decide +kernel
theorem dX5_drop_54 : decode cX5_drop 54 = .ok (.aconst_null, 1) := by decide +kernel
theorem dX5_drop_55 : decode cX5_drop 55 = .ok (.putfield 92, 3) := by decide +kernel
theorem dX5_drop_58 : decode cX5_drop 58 = .ok (.return_, 1) := by decide +kernel
theorem dX5_goTo_0 : decode cX5_goTo 0 = .ok (.aload_n 0, 1) := by decide +kernel
theorem dX5_goTo_1 : decode cX5_goTo 1 = .ok (.aload_n 1, 1) := by decide +kernel
theorem dX5_goTo_2 : decode cX5_goTo 2 = .ok (.putfield 92, 3) := by decide +kernel
theorem dX5_goTo_5 : decode cX5_goTo 5 = .ok (.aload_n 0, 1) := by decide +kernel
theorem dX5_goTo_6 : decode cX5_goTo 6 = .ok (.getfield 22, 3) := by decide +kernel
theorem dX5_goTo_9 : decode cX5_goTo 9 = .ok (.aload_n 1, 1) := by decide +kernel
theorem dX5_goTo_10 : decode cX5_goTo 10 = .ok (.getfield 186, 3) := by decide +kernel
theorem dX5_goTo_13 : decode cX5_goTo 13 = .ok (.iconst 0, 1) := by decide +kernel
theorem dX5_goTo_14 : decode cX5_goTo 14 = .ok (.aload_n 1, 1) := by decide +kernel
theorem dX5_goTo_15 : decode cX5_goTo 15 = .ok (.getfield 220, 3) := by decide +kernel
theorem dX5_goTo_18 : decode cX5_goTo 18 = .ok (.aload_n 0, 1) := by decide +kernel
theorem dX5_goTo_19 : decode cX5_goTo 19 = .ok (.getfield 42, 3) := by decide +kernel
theorem dX5_goTo_22 : decode cX5_goTo 22 = .ok (.invokevirtual 224, 3) := by decide +kernel
theorem dX5_goTo_25 : decode cX5_goTo 25 = .ok (.aload_n 0, 1) := by decide +kernel
theorem dX5_goTo_26 : decode cX5_goTo 26 = .ok (.getfield 42, 3) := by decide +kernel
theorem dX5_goTo_29 : decode cX5_goTo 29 = .ok (.getfield 52, 3) := by decide +kernel
theorem dX5_goTo_32 : decode cX5_goTo 32 = .ok (.ireturn, 1) := by decide +kernel
theorem dX5_showValue_0 : decode cX5_showValue 0 = .ok (.aload_n 0, 1) := by decide +kernel
theorem dX5_showValue_1 : decode cX5_showValue 1 = .ok (.getfield 22, 3) := by decide +kernel
theorem dX5_showValue_4 : decode cX5_showValue 4 = .ok (.aload_n 1, 1) := by decide +kernel
theorem dX5_showValue_5 : decode cX5_showValue 5 = .ok (.getfield 186, 3) := by decide +kernel
theorem dX5_showValue_8 : decode cX5_showValue 8 = .ok (.aload_n 1, 1) := by decide +kernel
theorem dX5_showValue_9 : decode cX5_showValue 9 = .ok (.getfield 220, 3) := by decide +kernel
theorem dX5_showValue_12 : decode cX5_showValue 12 = .ok (.aload_n 1, 1) := by decide +kernel
theorem dX5_showValue_13 : decode cX5_showValue 13 = .ok (.getfield 215, 3) := by decide +kernel
theorem dX5_showValue_16 : decode cX5_showValue 16 = .ok (.aload_n 0, 1) := by decide +kernel
theorem dX5_showValue_17 : decode cX5_showValue 17 = .ok (.getfield 42, 3) := by decide +kernel
theorem dX5_showValue_20 : decode cX5_showValue 20 = .ok (.invokevirtual 224, 3) := by decide +kernel
theorem dX5_showValue_23 : decode cX5_showValue 23 = .ok (.aload_n 0, 1) := by decide +kernel
theorem dX5_showValue_24 : decode cX5_showValue 24 = .ok (.getfield 42, 3) := by decide +kernel
theorem dX5_showValue_27 : decode cX5_showValue 27 = .ok (.getfield 52, 3) := by decide +kernel
theorem dX5_showValue_30 : decode cX5_showValue 30 = .ok (.ireturn, 1) := by decide +kernel
theorem dX5_blocksMatchEntries_0 : decode cX5_blocksMatchEntries 0 = .ok (.iconst 0, 1) := by decide +kernel
theorem dX5_blocksMatchEntries_1 : decode cX5_blocksMatchEntries 1 = .ok (.istore_n 1, 1) := by decide +kernel
theorem dX5_blocksMatchEntries_2 : decode cX5_blocksMatchEntries 2 = .ok (.aload_n 0, 1) := by decide +kernel
theorem dX5_blocksMatchEntries_3 : decode cX5_blocksMatchEntries 3 = .ok (.getfield 22, 3) := by decide +kernel
theorem dX5_blocksMatchEntries_6 : decode cX5_blocksMatchEntries 6 = .ok (.getfield 228, 3) := by decide +kernel
theorem dX5_blocksMatchEntries_9 : decode cX5_blocksMatchEntries 9 = .ok (.getfield 231, 3) := by decide +kernel
theorem dX5_blocksMatchEntries_12 : decode cX5_blocksMatchEntries 12 = .ok (.astore_n 2, 1) := by decide +kernel
theorem dX5_blocksMatchEntries_13 : decode cX5_blocksMatchEntries 13 = .ok (.aload_n 2, 1) := by decide +kernel
theorem dX5_blocksMatchEntries_14 : decode cX5_blocksMatchEntries 14 = .ok (.ifnull 63, 3) := by decide +kernel
theorem dX5_blocksMatchEntries_17 : decode cX5_blocksMatchEntries 17 = .ok (.aload_n 2, 1) := by decide +kernel
theorem dX5_blocksMatchEntries_18 : decode cX5_blocksMatchEntries 18 = .ok (.getfield 234, 3) := by decide +kernel
theorem dX5_blocksMatchEntries_21 : decode cX5_blocksMatchEntries 21 = .ok (.astore_n 3, 1) := by decide +kernel
theorem dX5_blocksMatchEntries_22 : decode cX5_blocksMatchEntries 22 = .ok (.aload_n 3, 1) := by decide +kernel
theorem dX5_blocksMatchEntries_23 : decode cX5_blocksMatchEntries 23 = .ok (.ifnull 46, 3) := by decide +kernel
theorem dX5_blocksMatchEntries_26 : decode cX5_blocksMatchEntries 26 = .ok (.iinc 1 1, 3) := by decide +kernel
theorem dX5_blocksMatchEntries_29 : decode cX5_blocksMatchEntries 29 = .ok (.aload_n 3, 1) := by decide +kernel
theorem dX5_blocksMatchEntries_30 : decode cX5_blocksMatchEntries 30 = .ok (.getfield 186, 3) := by decide +kernel
theorem dX5_blocksMatchEntries_33 : decode cX5_blocksMatchEntries 33 = .ok (.aload_n 2, 1) := by decide +kernel
theorem dX5_blocksMatchEntries_34 : decode cX5_blocksMatchEntries 34 = .ok (.if_acmp .ne 33, 3) := by decide +kernel
theorem dX5_blocksMatchEntries_37 : decode cX5_blocksMatchEntries 37 = .ok (.aload_n 0, 1) := by decide +kernel
theorem dX5_blocksMatchEntries_38 : decode cX5_blocksMatchEntries 38 = .ok (.getfield 31, 3) := by decide +kernel
theorem dX5_blocksMatchEntries_41 : decode cX5_blocksMatchEntries 41 = .ok (.aload_n 3, 1) := by decide +kernel
theorem dX5_blocksMatchEntries_42 : decode cX5_blocksMatchEntries 42 = .ok (.invokevirtual 237, 3) := by decide +kernel
theorem dX5_blocksMatchEntries_45 : decode cX5_blocksMatchEntries 45 = .ok (.ifCond .eq 22, 3) := by decide +kernel
theorem dX5_blocksMatchEntries_48 : decode cX5_blocksMatchEntries 48 = .ok (.aload_n 2, 1) := by decide +kernel
theorem dX5_blocksMatchEntries_49 : decode cX5_blocksMatchEntries 49 = .ok (.getfield 192, 3) := by decide +kernel
theorem dX5_blocksMatchEntries_52 : decode cX5_blocksMatchEntries 52 = .ok (.aload_n 3, 1) := by decide +kernel
theorem dX5_blocksMatchEntries_53 : decode cX5_blocksMatchEntries 53 = .ok (.getfield 220, 3) := by decide +kernel
theorem dX5_blocksMatchEntries_56 : decode cX5_blocksMatchEntries 56 = .ok (.aload_n 3, 1) := by decide +kernel
theorem dX5_blocksMatchEntries_57 : decode cX5_blocksMatchEntries 57 = .ok (.getfield 215, 3) := by decide +kernel
theorem dX5_blocksMatchEntries_60 : decode cX5_blocksMatchEntries 60 = .ok (.iadd, 1) := by decide +kernel
theorem dX5_blocksMatchEntries_61 : decode cX5_blocksMatchEntries 61 = .ok (.invokestatic 78, 3) := by decide +kernel
theorem dX5_blocksMatchEntries_64 : decode cX5_blocksMatchEntries 64 = .ok (.if_icmp .eq 5, 3) := by decide +kernel
theorem dX5_blocksMatchEntries_67 : decode cX5_blocksMatchEntries 67 = .ok (.iconst 0, 1) := by decide +kernel
theorem dX5_blocksMatchEntries_68 : decode cX5_blocksMatchEntries 68 = .ok (.ireturn, 1) := by decide +kernel
theorem dX5_blocksMatchEntries_69 : decode cX5_blocksMatchEntries 69 = .ok (.aload_n 2, 1) := by decide +kernel
theorem dX5_blocksMatchEntries_70 : decode cX5_blocksMatchEntries 70 = .ok (.getfield 231, 3) := by decide +kernel
theorem dX5_blocksMatchEntries_73 : decode cX5_blocksMatchEntries 73 = .ok (.astore_n 2, 1) := by decide +kernel
theorem dX5_blocksMatchEntries_74 : decode cX5_blocksMatchEntries 74 = .ok (.goto (-61), 3) := by decide +kernel
theorem dX5_blocksMatchEntries_77 : decode cX5_blocksMatchEntries 77 = .ok (.iload_n 1, 1) := by decide +kernel
theorem dX5_blocksMatchEntries_78 : decode cX5_blocksMatchEntries 78 = .ok (.aload_n 0, 1) := by decide +kernel
theorem dX5_blocksMatchEntries_79 : decode cX5_blocksMatchEntries 79 = .ok (.getfield 31, 3) := by decide +kernel
theorem dX5_blocksMatchEntries_82 : decode cX5_blocksMatchEntries 82 = .ok (.invokevirtual 141, 3) := by decide +kernel
theorem dX5_blocksMatchEntries_85 : decode cX5_blocksMatchEntries 85 = .ok (.if_icmp .ne 7, 3) := by decide +kernel
theorem dX5_blocksMatchEntries_88 : decode cX5_blocksMatchEntries 88 = .ok (.iconst 1, 1) := by decide +kernel
theorem dX5_blocksMatchEntries_89 : decode cX5_blocksMatchEntries 89 = .ok (.goto 4, 3) := by decide +kernel
theorem dX5_blocksMatchEntries_92 : decode cX5_blocksMatchEntries 92 = .ok (.iconst 0, 1) := by decide +kernel
theorem dX5_blocksMatchEntries_93 : decode cX5_blocksMatchEntries 93 = .ok (.ireturn, 1) := by decide +kernel
end
section
/-! decode rows, by program -/
theorem dX6_init_0 : decode cX6_init 0 = .ok (.aload_n 0, 1) := by decide +kernel
theorem dX6_init_1 : decode cX6_init 1 = .ok (.invokespecial 1, 3) := by decide +kernel
theorem dX6_init_4 : decode cX6_init 4 = .ok (.aload_n 0, 1) := by decide +kernel
theorem dX6_init_5 : decode cX6_init 5 = .ok (.sipush 600, 3) := by decide +kernel
theorem dX6_init_8 : decode cX6_init 8 = .ok (.newarray .int, 2) := by decide +kernel
theorem dX6_init_10 : decode cX6_init 10 = .ok (.putfield 7, 3) := by decide +kernel
theorem dX6_init_13 : decode cX6_init 13 = .ok (.aload_n 0, 1) := by decide +kernel
theorem dX6_init_14 : decode cX6_init 14 = .ok (.sipush 512, 3) := by decide +kernel
theorem dX6_init_17 : decode cX6_init 17 = .ok (.newarray .int, 2) := by decide +kernel
theorem dX6_init_19 : decode cX6_init 19 = .ok (.putfield 13, 3) := by decide +kernel
theorem dX6_init_22 : decode cX6_init 22 = .ok (.aload_n 0, 1) := by decide +kernel
theorem dX6_init_23 : decode cX6_init 23 = .ok (.ldc 16, 2) := by decide +kernel
theorem dX6_init_25 : decode cX6_init 25 = .ok (.newarray .int, 2) := by decide +kernel
theorem dX6_init_27 : decode cX6_init 27 = .ok (.putfield 17, 3) := by decide +kernel
theorem dX6_init_30 : decode cX6_init 30 = .ok (.aload_n 0, 1) := by decide +kernel
theorem dX6_init_31 : decode cX6_init 31 = .ok (.sipush 1025, 3) := by decide +kernel
theorem dX6_init_34 : decode cX6_init 34 = .ok (.newarray .int, 2) := by decide +kernel
theorem dX6_init_36 : decode cX6_init 36 = .ok (.putfield 20, 3) := by decide +kernel
theorem dX6_init_39 : decode cX6_init 39 = .ok (.aload_n 0, 1) := by decide +kernel
theorem dX6_init_40 : decode cX6_init 40 = .ok (.sipush 1025, 3) := by decide +kernel
theorem dX6_init_43 : decode cX6_init 43 = .ok (.newarray .int, 2) := by decide +kernel
theorem dX6_init_45 : decode cX6_init 45 = .ok (.putfield 23, 3) := by decide +kernel
theorem dX6_init_48 : decode cX6_init 48 = .ok (.aload_n 0, 1) := by decide +kernel
theorem dX6_init_49 : decode cX6_init 49 = .ok (.iconst (-1), 1) := by decide +kernel
theorem dX6_init_50 : decode cX6_init 50 = .ok (.putfield 26, 3) := by decide +kernel
theorem dX6_init_53 : decode cX6_init 53 = .ok (.aload_n 0, 1) := by decide +kernel
theorem dX6_init_54 : decode cX6_init 54 = .ok (.iload_n 1, 1) := by decide +kernel
theorem dX6_init_55 : decode cX6_init 55 = .ok (.iconst 1, 1) := by decide +kernel
theorem dX6_init_56 : decode cX6_init 56 = .ok (.if_icmp .ge 7, 3) := by decide +kernel
theorem dX6_init_59 : decode cX6_init 59 = .ok (.iconst 1, 1) := by decide +kernel
theorem dX6_init_60 : decode cX6_init 60 = .ok (.goto 17, 3) := by decide +kernel
theorem dX6_init_63 : decode cX6_init 63 = .ok (.iload_n 1, 1) := by decide +kernel
theorem dX6_init_64 : decode cX6_init 64 = .ok (.sipush 1024, 3) := by decide +kernel
theorem dX6_init_67 : decode cX6_init 67 = .ok (.if_icmp .le 9, 3) := by decide +kernel
theorem dX6_init_70 : decode cX6_init 70 = .ok (.sipush 1024, 3) := by decide +kernel
theorem dX6_init_73 : decode cX6_init 73 = .ok (.goto 4, 3) := by decide +kernel
theorem dX6_init_76 : decode cX6_init 76 = .ok (.iload_n 1, 1) := by decide +kernel
theorem dX6_init_77 : decode cX6_init 77 = .ok (.putfield 30, 3) := by decide +kernel
theorem dX6_init_80 : decode cX6_init 80 = .ok (.aload_n 0, 1) := by decide +kernel
theorem dX6_init_81 : decode cX6_init 81 = .ok (.iload_n 2, 1) := by decide +kernel
theorem dX6_init_82 : decode cX6_init 82 = .ok (.iconst 1, 1) := by decide +kernel
theorem dX6_init_83 : decode cX6_init 83 = .ok (.if_icmp .ge 7, 3) := by decide +kernel
theorem dX6_init_86 : decode cX6_init 86 = .ok (.iconst 1, 1) := by decide +kernel
theorem dX6_init_87 : decode cX6_init 87 = .ok (.goto 17, 3) := by decide +kernel
theorem dX6_init_90 : decode cX6_init 90 = .ok (.iload_n 2, 1) := by decide +kernel
theorem dX6_init_91 : decode cX6_init 91 = .ok (.sipush 4096, 3) := by decide +kernel
theorem dX6_init_94 : decode cX6_init 94 = .ok (.if_icmp .le 9, 3) := by decide +kernel
theorem dX6_init_97 : decode cX6_init 97 = .ok (.sipush 4096, 3) := by decide +kernel
theorem dX6_init_100 : decode cX6_init 100 = .ok (.goto 4, 3) := by decide +kernel
theorem dX6_init_103 : decode cX6_init 103 = .ok (.iload_n 2, 1) := by decide +kernel
theorem dX6_init_104 : decode cX6_init 104 = .ok (.putfield 33, 3) := by decide +kernel
theorem dX6_init_107 : decode cX6_init 107 = .ok (.return_, 1) := by decide +kernel
theorem dX6_thrown_0 : decode cX6_thrown 0 = .ok (.aload_n 0, 1) := by decide +kernel
theorem dX6_thrown_1 : decode cX6_thrown 1 = .ok (.getfield 36, 3) := by decide +kernel
theorem dX6_thrown_4 : decode cX6_thrown 4 = .ok (.ireturn, 1) := by decide +kernel
theorem dX6_fail_0 : decode cX6_fail 0 = .ok (.aload_n 0, 1) := by decide +kernel
theorem dX6_fail_1 : decode cX6_fail 1 = .ok (.iload_n 1, 1) := by decide +kernel
theorem dX6_fail_2 : decode cX6_fail 2 = .ok (.putfield 36, 3) := by decide +kernel
theorem dX6_fail_5 : decode cX6_fail 5 = .ok (.iconst 0, 1) := by decide +kernel
theorem dX6_fail_6 : decode cX6_fail 6 = .ok (.ireturn, 1) := by decide +kernel
theorem dX6_within_0 : decode cX6_within 0 = .ok (.iload_n 0, 1) := by decide +kernel
theorem dX6_within_1 : decode cX6_within 1 = .ok (.iload_n 1, 1) := by decide +kernel
theorem dX6_within_2 : decode cX6_within 2 = .ok (.if_icmp .lt 12, 3) := by decide +kernel
theorem dX6_within_5 : decode cX6_within 5 = .ok (.iload_n 0, 1) := by decide +kernel
theorem dX6_within_6 : decode cX6_within 6 = .ok (.iload_n 2, 1) := by decide +kernel
theorem dX6_within_7 : decode cX6_within 7 = .ok (.if_icmp .gt 7, 3) := by decide +kernel
theorem dX6_within_10 : decode cX6_within 10 = .ok (.iconst 1, 1) := by decide +kernel
theorem dX6_within_11 : decode cX6_within 11 = .ok (.goto 4, 3) := by decide +kernel
theorem dX6_within_14 : decode cX6_within 14 = .ok (.iconst 0, 1) := by decide +kernel
theorem dX6_within_15 : decode cX6_within 15 = .ok (.ireturn, 1) := by decide +kernel
theorem dX6_feed_0 : decode cX6_feed 0 = .ok (.aload_n 0, 1) := by decide +kernel
theorem dX6_feed_1 : decode cX6_feed 1 = .ok (.iconst 0, 1) := by decide +kernel
theorem dX6_feed_2 : decode cX6_feed 2 = .ok (.putfield 36, 3) := by decide +kernel
theorem dX6_feed_5 : decode cX6_feed 5 = .ok (.iload_n 3, 1) := by decide +kernel
theorem dX6_feed_6 : decode cX6_feed 6 = .ok (.iconst 1, 1) := by decide +kernel
theorem dX6_feed_7 : decode cX6_feed 7 = .ok (.bipush 8, 2) := by decide +kernel
theorem dX6_feed_9 : decode cX6_feed 9 = .ok (.invokestatic 39, 3) := by decide +kernel
theorem dX6_feed_12 : decode cX6_feed 12 = .ok (.ifCond .ne 9, 3) := by decide +kernel
theorem dX6_feed_15 : decode cX6_feed 15 = .ok (.aload_n 0, 1) := by decide +kernel
theorem dX6_feed_16 : decode cX6_feed 16 = .ok (.iconst 1, 1) := by decide +kernel
theorem dX6_feed_17 : decode cX6_feed 17 = .ok (.invokevirtual 43, 3) := by decide +kernel
theorem dX6_feed_20 : decode cX6_feed 20 = .ok (.ireturn, 1) := by decide +kernel
theorem dX6_feed_21 : decode cX6_feed 21 = .ok (.aload_n 0, 1) := by decide +kernel
theorem dX6_feed_22 : decode cX6_feed 22 = .ok (.getfield 47, 3) := by decide +kernel
theorem dX6_feed_25 : decode cX6_feed 25 = .ok (.iload_n 3, 1) := by decide +kernel
theorem dX6_feed_26 : decode cX6_feed 26 = .ok (.iadd, 1) := by decide +kernel
theorem dX6_feed_27 : decode cX6_feed 27 = .ok (.sipush 600, 3) := by decide +kernel
theorem dX6_feed_30 : decode cX6_feed 30 = .ok (.if_icmp .le 9, 3) := by decide +kernel
theorem dX6_feed_33 : decode cX6_feed 33 = .ok (.aload_n 0, 1) := by decide +kernel
theorem dX6_feed_34 : decode cX6_feed 34 = .ok (.iconst 2, 1) := by decide +kernel
theorem dX6_feed_35 : decode cX6_feed 35 = .ok (.invokevirtual 43, 3) := by decide +kernel
theorem dX6_feed_38 : decode cX6_feed 38 = .ok (.ireturn, 1) := by decide +kernel
theorem dX6_feed_39 : decode cX6_feed 39 = .ok (.iconst 0, 1) := by decide +kernel
theorem dX6_feed_40 : decode cX6_feed 40 = .ok (.istore 4, 2) := by decide +kernel
theorem dX6_feed_42 : decode cX6_feed 42 = .ok (.iload 4, 2) := by decide +kernel
theorem dX6_feed_44 : decode cX6_feed 44 = .ok (.iload_n 3, 1) := by decide +kernel
theorem dX6_feed_45 : decode cX6_feed 45 = .ok (.if_icmp .ge 33, 3) := by decide +kernel
theorem dX6_feed_48 : decode cX6_feed 48 = .ok (.aload_n 0, 1) := by decide +kernel
theorem dX6_feed_49 : decode cX6_feed 49 = .ok (.getfield 7, 3) := by decide +kernel
theorem dX6_feed_52 : decode cX6_feed 52 = .ok (.aload_n 0, 1) := by decide +kernel
theorem dX6_feed_53 : decode cX6_feed 53 = .ok (.getfield 47, 3) := by decide +kernel
theorem dX6_feed_56 : decode cX6_feed 56 = .ok (.iload 4, 2) := by decide +kernel
theorem dX6_feed_58 : decode cX6_feed 58 = .ok (.iadd, 1) := by decide +kernel
theorem dX6_feed_59 : decode cX6_feed 59 = .ok (.lload_n 1, 1) := by decide +kernel
theorem dX6_feed_60 : decode cX6_feed 60 = .ok (.bipush 8, 2) := by decide +kernel
theorem dX6_feed_62 : decode cX6_feed 62 = .ok (.iload 4, 2) := by decide +kernel
theorem dX6_feed_64 : decode cX6_feed 64 = .ok (.imul, 1) := by decide +kernel
theorem dX6_feed_65 : decode cX6_feed 65 = .ok (.lshr, 1) := by decide +kernel
theorem dX6_feed_66 : decode cX6_feed 66 = .ok (.ldc2_w 50, 3) := by decide +kernel
theorem dX6_feed_69 : decode cX6_feed 69 = .ok (.land, 1) := by decide +kernel
theorem dX6_feed_70 : decode cX6_feed 70 = .ok (.l2i, 1) := by decide +kernel
theorem dX6_feed_71 : decode cX6_feed 71 = .ok (.iastore, 1) := by decide +kernel
theorem dX6_feed_72 : decode cX6_feed 72 = .ok (.iinc 4 1, 3) := by decide +kernel
theorem dX6_feed_75 : decode cX6_feed 75 = .ok (.goto (-33), 3) := by decide +kernel
theorem dX6_feed_78 : decode cX6_feed 78 = .ok (.aload_n 0, 1) := by decide +kernel
theorem dX6_feed_79 : decode cX6_feed 79 = .ok (.dup, 1) := by decide +kernel
theorem dX6_feed_80 : decode cX6_feed 80 = .ok (.getfield 47, 3) := by decide +kernel
theorem dX6_feed_83 : decode cX6_feed 83 = .ok (.iload_n 3, 1) := by decide +kernel
theorem dX6_feed_84 : decode cX6_feed 84 = .ok (.iadd, 1) := by decide +kernel
theorem dX6_feed_85 : decode cX6_feed 85 = .ok (.putfield 47, 3) := by decide +kernel
theorem dX6_feed_88 : decode cX6_feed 88 = .ok (.aload_n 0, 1) := by decide +kernel
theorem dX6_feed_89 : decode cX6_feed 89 = .ok (.getfield 47, 3) := by decide +kernel
theorem dX6_feed_92 : decode cX6_feed 92 = .ok (.ireturn, 1) := by decide +kernel
theorem dX6_taken_0 : decode cX6_taken 0 = .ok (.aload_n 0, 1) := by decide +kernel
theorem dX6_taken_1 : decode cX6_taken 1 = .ok (.getfield 47, 3) := by decide +kernel
theorem dX6_taken_4 : decode cX6_taken 4 = .ok (.istore_n 1, 1) := by decide +kernel
theorem dX6_taken_5 : decode cX6_taken 5 = .ok (.aload_n 0, 1) := by decide +kernel
theorem dX6_taken_6 : decode cX6_taken 6 = .ok (.iconst 0, 1) := by decide +kernel
theorem dX6_taken_7 : decode cX6_taken 7 = .ok (.putfield 47, 3) := by decide +kernel
theorem dX6_taken_10 : decode cX6_taken 10 = .ok (.iload_n 1, 1) := by decide +kernel
theorem dX6_taken_11 : decode cX6_taken 11 = .ok (.ireturn, 1) := by decide +kernel
theorem dX6_start_0 : decode cX6_start 0 = .ok (.iconst 0, 1) := by decide +kernel
theorem dX6_start_1 : decode cX6_start 1 = .ok (.istore_n 2, 1) := by decide +kernel
theorem dX6_start_2 : decode cX6_start 2 = .ok (.iconst 0, 1) := by decide +kernel
theorem dX6_start_3 : decode cX6_start 3 = .ok (.istore_n 3, 1) := by decide +kernel
theorem dX6_start_4 : decode cX6_start 4 = .ok (.iload_n 3, 1) := by decide +kernel
theorem dX6_start_5 : decode cX6_start 5 = .ok (.iload_n 1, 1) := by decide +kernel
theorem dX6_start_6 : decode cX6_start 6 = .ok (.if_icmp .ge 25, 3) := by decide +kernel
theorem dX6_start_9 : decode cX6_start 9 = .ok (.iload_n 2, 1) := by decide +kernel
theorem dX6_start_10 : decode cX6_start 10 = .ok (.aload_n 0, 1) := by decide +kernel
theorem dX6_start_11 : decode cX6_start 11 = .ok (.getfield 20, 3) := by decide +kernel
theorem dX6_start_14 : decode cX6_start 14 = .ok (.iload_n 3, 1) := by decide +kernel
theorem dX6_start_15 : decode cX6_start 15 = .ok (.iaload, 1) := by decide +kernel
theorem dX6_start_16 : decode cX6_start 16 = .ok (.aload_n 0, 1) := by decide +kernel
theorem dX6_start_17 : decode cX6_start 17 = .ok (.getfield 23, 3) := by decide +kernel
theorem dX6_start_20 : decode cX6_start 20 = .ok (.iload_n 3, 1) := by decide +kernel
theorem dX6_start_21 : decode cX6_start 21 = .ok (.iaload, 1) := by decide +kernel
theorem dX6_start_22 : decode cX6_start 22 = .ok (.iadd, 1) := by decide +kernel
theorem dX6_start_23 : decode cX6_start 23 = .ok (.iadd, 1) := by decide +kernel
theorem dX6_start_24 : decode cX6_start 24 = .ok (.istore_n 2, 1) := by decide +kernel
theorem dX6_start_25 : decode cX6_start 25 = .ok (.iinc 3 1, 3) := by decide +kernel
theorem dX6_start_28 : decode cX6_start 28 = .ok (.goto (-24), 3) := by decide +kernel
theorem dX6_start_31 : decode cX6_start 31 = .ok (.iload_n 2, 1) := by decide +kernel
theorem dX6_start_32 : decode cX6_start 32 = .ok (.ireturn, 1) := by decide +kernel
theorem dX6_compare_0 : decode cX6_compare 0 = .ok (.iconst 0, 1) := by decide +kernel
theorem dX6_compare_1 : decode cX6_compare 1 = .ok (.istore 4, 2) := by decide +kernel
theorem dX6_compare_3 : decode cX6_compare 3 = .ok (.iload 4, 2) := by decide +kernel
theorem dX6_compare_5 : decode cX6_compare 5 = .ok (.iload_n 3, 1) := by decide +kernel
theorem dX6_compare_6 : decode cX6_compare 6 = .ok (.if_icmp .ge 57, 3) := by decide +kernel
theorem dX6_compare_9 : decode cX6_compare 9 = .ok (.iload 4, 2) := by decide +kernel
theorem dX6_compare_11 : decode cX6_compare 11 = .ok (.aload_n 0, 1) := by decide +kernel
theorem dX6_compare_12 : decode cX6_compare 12 = .ok (.getfield 20, 3) := by decide +kernel
theorem dX6_compare_15 : decode cX6_compare 15 = .ok (.iload_n 1, 1) := by decide +kernel
theorem dX6_compare_16 : decode cX6_compare 16 = .ok (.iaload, 1) := by decide +kernel
theorem dX6_compare_17 : decode cX6_compare 17 = .ok (.if_icmp .ge 46, 3) := by decide +kernel
theorem dX6_compare_20 : decode cX6_compare 20 = .ok (.aload_n 0, 1) := by decide +kernel
theorem dX6_compare_21 : decode cX6_compare 21 = .ok (.getfield 17, 3) := by decide +kernel
theorem dX6_compare_24 : decode cX6_compare 24 = .ok (.iload_n 2, 1) := by decide +kernel
theorem dX6_compare_25 : decode cX6_compare 25 = .ok (.iload 4, 2) := by decide +kernel
theorem dX6_compare_27 : decode cX6_compare 27 = .ok (.iadd, 1) := by decide +kernel
theorem dX6_compare_28 : decode cX6_compare 28 = .ok (.iaload, 1) := by decide +kernel
theorem dX6_compare_29 : decode cX6_compare 29 = .ok (.aload_n 0, 1) := by decide +kernel
theorem dX6_compare_30 : decode cX6_compare 30 = .ok (.getfield 7, 3) := by decide +kernel
theorem dX6_compare_33 : decode cX6_compare 33 = .ok (.iload 4, 2) := by decide +kernel
theorem dX6_compare_35 : decode cX6_compare 35 = .ok (.iaload, 1) := by decide +kernel
theorem dX6_compare_36 : decode cX6_compare 36 = .ok (.if_icmp .eq 21, 3) := by decide +kernel
theorem dX6_compare_39 : decode cX6_compare 39 = .ok (.aload_n 0, 1) := by decide +kernel
theorem dX6_compare_40 : decode cX6_compare 40 = .ok (.getfield 17, 3) := by decide +kernel
theorem dX6_compare_43 : decode cX6_compare 43 = .ok (.iload_n 2, 1) := by decide +kernel
theorem dX6_compare_44 : decode cX6_compare 44 = .ok (.iload 4, 2) := by decide +kernel
theorem dX6_compare_46 : decode cX6_compare 46 = .ok (.iadd, 1) := by decide +kernel
theorem dX6_compare_47 : decode cX6_compare 47 = .ok (.iaload, 1) := by decide +kernel
theorem dX6_compare_48 : decode cX6_compare 48 = .ok (.aload_n 0, 1) := by decide +kernel
theorem dX6_compare_49 : decode cX6_compare 49 = .ok (.getfield 7, 3) := by decide +kernel
theorem dX6_compare_52 : decode cX6_compare 52 = .ok (.iload 4, 2) := by decide +kernel
theorem dX6_compare_54 : decode cX6_compare 54 = .ok (.iaload, 1) := by decide +kernel
theorem dX6_compare_55 : decode cX6_compare 55 = .ok (.isub, 1) := by decide +kernel
theorem dX6_compare_56 : decode cX6_compare 56 = .ok (.ireturn, 1) := by decide +kernel
theorem dX6_compare_57 : decode cX6_compare 57 = .ok (.iinc 4 1, 3) := by decide +kernel
theorem dX6_compare_60 : decode cX6_compare 60 = .ok (.goto (-57), 3) := by decide +kernel
theorem dX6_compare_63 : decode cX6_compare 63 = .ok (.aload_n 0, 1) := by decide +kernel
theorem dX6_compare_64 : decode cX6_compare 64 = .ok (.getfield 20, 3) := by decide +kernel
theorem dX6_compare_67 : decode cX6_compare 67 = .ok (.iload_n 1, 1) := by decide +kernel
theorem dX6_compare_68 : decode cX6_compare 68 = .ok (.iaload, 1) := by decide +kernel
theorem dX6_compare_69 : decode cX6_compare 69 = .ok (.iload_n 3, 1) := by decide +kernel
theorem dX6_compare_70 : decode cX6_compare 70 = .ok (.isub, 1) := by decide +kernel
theorem dX6_compare_71 : decode cX6_compare 71 = .ok (.ireturn, 1) := by decide +kernel
theorem dX6_below_0 : decode cX6_below 0 = .ok (.iconst 0, 1) := by decide +kernel
theorem dX6_below_1 : decode cX6_below 1 = .ok (.istore_n 3, 1) := by decide +kernel
theorem dX6_below_2 : decode cX6_below 2 = .ok (.iconst 0, 1) := by decide +kernel
theorem dX6_below_3 : decode cX6_below 3 = .ok (.istore 4, 2) := by decide +kernel
theorem dX6_below_5 : decode cX6_below 5 = .ok (.iconst 1, 1) := by decide +kernel
theorem dX6_below_6 : decode cX6_below 6 = .ok (.istore 5, 2) := by decide +kernel
theorem dX6_below_8 : decode cX6_below 8 = .ok (.iconst 0, 1) := by decide +kernel
theorem dX6_below_9 : decode cX6_below 9 = .ok (.istore 6, 2) := by decide +kernel
theorem dX6_below_11 : decode cX6_below 11 = .ok (.iload 6, 2) := by decide +kernel
theorem dX6_below_13 : decode cX6_below 13 = .ok (.aload_n 0, 1) := by decide +kernel
theorem dX6_below_14 : decode cX6_below 14 = .ok (.getfield 52, 3) := by decide +kernel
theorem dX6_below_17 : decode cX6_below 17 = .ok (.if_icmp .ge 78, 3) := by decide +kernel
theorem dX6_below_20 : decode cX6_below 20 = .ok (.iload 5, 2) := by decide +kernel
theorem dX6_below_22 : decode cX6_below 22 = .ok (.ifCond .eq 73, 3) := by decide +kernel
theorem dX6_below_25 : decode cX6_below 25 = .ok (.aload_n 0, 1) := by decide +kernel
theorem dX6_below_26 : decode cX6_below 26 = .ok (.iload 6, 2) := by decide +kernel
theorem dX6_below_28 : decode cX6_below 28 = .ok (.iload_n 3, 1) := by decide +kernel
theorem dX6_below_29 : decode cX6_below 29 = .ok (.iload_n 1, 1) := by decide +kernel
theorem dX6_below_30 : decode cX6_below 30 = .ok (.invokevirtual 55, 3) := by decide +kernel
theorem dX6_below_33 : decode cX6_below 33 = .ok (.istore 7, 2) := by decide +kernel
theorem dX6_below_35 : decode cX6_below 35 = .ok (.iload 7, 2) := by decide +kernel
theorem dX6_below_37 : decode cX6_below 37 = .ok (.ifCond .lt 12, 3) := by decide +kernel
theorem dX6_below_40 : decode cX6_below 40 = .ok (.iload 7, 2) := by decide +kernel
theorem dX6_below_42 : decode cX6_below 42 = .ok (.ifCond .ne 11, 3) := by decide +kernel
theorem dX6_below_45 : decode cX6_below 45 = .ok (.iload_n 2, 1) := by decide +kernel
theorem dX6_below_46 : decode cX6_below 46 = .ok (.ifCond .eq 7, 3) := by decide +kernel
theorem dX6_below_49 : decode cX6_below 49 = .ok (.iconst 1, 1) := by decide +kernel
theorem dX6_below_50 : decode cX6_below 50 = .ok (.goto 4, 3) := by decide +kernel
theorem dX6_below_53 : decode cX6_below 53 = .ok (.iconst 0, 1) := by decide +kernel
theorem dX6_below_54 : decode cX6_below 54 = .ok (.istore 5, 2) := by decide +kernel
theorem dX6_below_56 : decode cX6_below 56 = .ok (.iload 4, 2) := by decide +kernel
theorem dX6_below_58 : decode cX6_below 58 = .ok (.iload 5, 2) := by decide +kernel
theorem dX6_below_60 : decode cX6_below 60 = .ok (.ifCond .eq 7, 3) := by decide +kernel
theorem dX6_below_63 : decode cX6_below 63 = .ok (.iconst 1, 1) := by decide +kernel
theorem dX6_below_64 : decode cX6_below 64 = .ok (.goto 4, 3) := by decide +kernel
theorem dX6_below_67 : decode cX6_below 67 = .ok (.iconst 0, 1) := by decide +kernel
theorem dX6_below_68 : decode cX6_below 68 = .ok (.iadd, 1) := by decide +kernel
theorem dX6_below_69 : decode cX6_below 69 = .ok (.istore 4, 2) := by decide +kernel
theorem dX6_below_71 : decode cX6_below 71 = .ok (.iload_n 3, 1) := by decide +kernel
theorem dX6_below_72 : decode cX6_below 72 = .ok (.aload_n 0, 1) := by decide +kernel
theorem dX6_below_73 : decode cX6_below 73 = .ok (.getfield 20, 3) := by decide +kernel
theorem dX6_below_76 : decode cX6_below 76 = .ok (.iload 6, 2) := by decide +kernel
theorem dX6_below_78 : decode cX6_below 78 = .ok (.iaload, 1) := by decide +kernel
theorem dX6_below_79 : decode cX6_below 79 = .ok (.aload_n 0, 1) := by decide +kernel
theorem dX6_below_80 : decode cX6_below 80 = .ok (.getfield 23, 3) := by decide +kernel
theorem dX6_below_83 : decode cX6_below 83 = .ok (.iload 6, 2) := by decide +kernel
theorem dX6_below_85 : decode cX6_below 85 = .ok (.iaload, 1) := by decide +kernel
theorem dX6_below_86 : decode cX6_below 86 = .ok (.iadd, 1) := by decide +kernel
theorem dX6_below_87 : decode cX6_below 87 = .ok (.iadd, 1) := by decide +kernel
theorem dX6_below_88 : decode cX6_below 88 = .ok (.istore_n 3, 1) := by decide +kernel
theorem dX6_below_89 : decode cX6_below 89 = .ok (.iinc 6 1, 3) := by decide +kernel
theorem dX6_below_92 : decode cX6_below 92 = .ok (.goto (-81), 3) := by decide +kernel
theorem dX6_below_95 : decode cX6_below 95 = .ok (.iload 4, 2) := by decide +kernel
theorem dX6_below_97 : decode cX6_below 97 = .ok (.ireturn, 1) := by decide +kernel
theorem dX6_find_0 : decode cX6_find 0 = .ok (.aload_n 0, 1) := by decide +kernel
theorem dX6_find_1 : decode cX6_find 1 = .ok (.iload_n 1, 1) := by decide +kernel
theorem dX6_find_2 : decode cX6_find 2 = .ok (.iconst 0, 1) := by decide +kernel
theorem dX6_find_3 : decode cX6_find 3 = .ok (.invokevirtual 59, 3) := by decide +kernel
theorem dX6_find_6 : decode cX6_find 6 = .ok (.istore_n 2, 1) := by decide +kernel
theorem dX6_find_7 : decode cX6_find 7 = .ok (.iload_n 2, 1) := by decide +kernel
theorem dX6_find_8 : decode cX6_find 8 = .ok (.aload_n 0, 1) := by decide +kernel
theorem dX6_find_9 : decode cX6_find 9 = .ok (.getfield 52, 3) := by decide +kernel
theorem dX6_find_12 : decode cX6_find 12 = .ok (.if_icmp .ge 21, 3) := by decide +kernel
theorem dX6_find_15 : decode cX6_find 15 = .ok (.aload_n 0, 1) := by decide +kernel
theorem dX6_find_16 : decode cX6_find 16 = .ok (.iload_n 2, 1) := by decide +kernel
theorem dX6_find_17 : decode cX6_find 17 = .ok (.aload_n 0, 1) := by decide +kernel
theorem dX6_find_18 : decode cX6_find 18 = .ok (.iload_n 2, 1) := by decide +kernel
theorem dX6_find_19 : decode cX6_find 19 = .ok (.invokevirtual 63, 3) := by decide +kernel
theorem dX6_find_22 : decode cX6_find 22 = .ok (.iload_n 1, 1) := by decide +kernel
theorem dX6_find_23 : decode cX6_find 23 = .ok (.invokevirtual 55, 3) := by decide +kernel
theorem dX6_find_26 : decode cX6_find 26 = .ok (.ifCond .ne 7, 3) := by decide +kernel
theorem dX6_find_29 : decode cX6_find 29 = .ok (.iload_n 2, 1) := by decide +kernel
theorem dX6_find_30 : decode cX6_find 30 = .ok (.goto 4, 3) := by decide +kernel
theorem dX6_find_33 : decode cX6_find 33 = .ok (.iconst (-1), 1) := by decide +kernel
theorem dX6_find_34 : decode cX6_find 34 = .ok (.ireturn, 1) := by decide +kernel
theorem dX6_unitsOf_0 : decode cX6_unitsOf 0 = .ok (.iload_n 0, 1) := by decide +kernel
theorem dX6_unitsOf_1 : decode cX6_unitsOf 1 = .ok (.bipush 15, 2) := by decide +kernel
theorem dX6_unitsOf_3 : decode cX6_unitsOf 3 = .ok (.iadd, 1) := by decide +kernel
theorem dX6_unitsOf_4 : decode cX6_unitsOf 4 = .ok (.bipush 16, 2) := by decide +kernel
theorem dX6_unitsOf_6 : decode cX6_unitsOf 6 = .ok (.idiv, 1) := by decide +kernel
theorem dX6_unitsOf_7 : decode cX6_unitsOf 7 = .ok (.ireturn, 1) := by decide +kernel
theorem dX6_used_0 : decode cX6_used 0 = .ok (.iconst 0, 1) := by decide +kernel
theorem dX6_used_1 : decode cX6_used 1 = .ok (.istore_n 1, 1) := by decide +kernel
theorem dX6_used_2 : decode cX6_used 2 = .ok (.iconst 0, 1) := by decide +kernel
theorem dX6_used_3 : decode cX6_used 3 = .ok (.istore_n 2, 1) := by decide +kernel
theorem dX6_used_4 : decode cX6_used 4 = .ok (.iload_n 2, 1) := by decide +kernel
theorem dX6_used_5 : decode cX6_used 5 = .ok (.aload_n 0, 1) := by decide +kernel
theorem dX6_used_6 : decode cX6_used 6 = .ok (.getfield 52, 3) := by decide +kernel
theorem dX6_used_9 : decode cX6_used 9 = .ok (.if_icmp .ge 28, 3) := by decide +kernel
theorem dX6_used_12 : decode cX6_used 12 = .ok (.iload_n 1, 1) := by decide +kernel
theorem dX6_used_13 : decode cX6_used 13 = .ok (.aload_n 0, 1) := by decide +kernel
theorem dX6_used_14 : decode cX6_used 14 = .ok (.getfield 20, 3) := by decide +kernel
theorem dX6_used_17 : decode cX6_used 17 = .ok (.iload_n 2, 1) := by decide +kernel
theorem dX6_used_18 : decode cX6_used 18 = .ok (.iaload, 1) := by decide +kernel
theorem dX6_used_19 : decode cX6_used 19 = .ok (.aload_n 0, 1) := by decide +kernel
theorem dX6_used_20 : decode cX6_used 20 = .ok (.getfield 23, 3) := by decide +kernel
theorem dX6_used_23 : decode cX6_used 23 = .ok (.iload_n 2, 1) := by decide +kernel
theorem dX6_used_24 : decode cX6_used 24 = .ok (.iaload, 1) := by decide +kernel
theorem dX6_used_25 : decode cX6_used 25 = .ok (.iadd, 1) := by decide +kernel
theorem dX6_used_26 : decode cX6_used 26 = .ok (.invokestatic 66, 3) := by decide +kernel
theorem dX6_used_29 : decode cX6_used 29 = .ok (.iadd, 1) := by decide +kernel
theorem dX6_used_30 : decode cX6_used 30 = .ok (.istore_n 1, 1) := by decide +kernel
theorem dX6_used_31 : decode cX6_used 31 = .ok (.iinc 2 1, 3) := by decide +kernel
theorem dX6_used_34 : decode cX6_used 34 = .ok (.goto (-30), 3) := by decide +kernel
theorem dX6_used_37 : decode cX6_used 37 = .ok (.iload_n 1, 1) := by decide +kernel
theorem dX6_used_38 : decode cX6_used 38 = .ok (.ireturn, 1) := by decide +kernel
theorem dX6_move_0 : decode cX6_move 0 = .ok (.iload_n 2, 1) := by decide +kernel
theorem dX6_move_1 : decode cX6_move 1 = .ok (.ifCond .le 38, 3) := by decide +kernel
theorem dX6_move_4 : decode cX6_move 4 = .ok (.aload_n 0, 1) := by decide +kernel
theorem dX6_move_5 : decode cX6_move 5 = .ok (.getfield 69, 3) := by decide +kernel
theorem dX6_move_8 : decode cX6_move 8 = .ok (.iconst 1, 1) := by decide +kernel
theorem dX6_move_9 : decode cX6_move 9 = .ok (.isub, 1) := by decide +kernel
theorem dX6_move_10 : decode cX6_move 10 = .ok (.istore_n 3, 1) := by decide +kernel
theorem dX6_move_11 : decode cX6_move 11 = .ok (.iload_n 3, 1) := by decide +kernel
theorem dX6_move_12 : decode cX6_move 12 = .ok (.iload_n 1, 1) := by decide +kernel
theorem dX6_move_13 : decode cX6_move 13 = .ok (.if_icmp .lt 23, 3) := by decide +kernel
theorem dX6_move_16 : decode cX6_move 16 = .ok (.aload_n 0, 1) := by decide +kernel
theorem dX6_move_17 : decode cX6_move 17 = .ok (.getfield 17, 3) := by decide +kernel
theorem dX6_move_20 : decode cX6_move 20 = .ok (.iload_n 3, 1) := by decide +kernel
theorem dX6_move_21 : decode cX6_move 21 = .ok (.iload_n 2, 1) := by decide +kernel
theorem dX6_move_22 : decode cX6_move 22 = .ok (.iadd, 1) := by decide +kernel
theorem dX6_move_23 : decode cX6_move 23 = .ok (.aload_n 0, 1) := by decide +kernel
theorem dX6_move_24 : decode cX6_move 24 = .ok (.getfield 17, 3) := by decide +kernel
theorem dX6_move_27 : decode cX6_move 27 = .ok (.iload_n 3, 1) := by decide +kernel
theorem dX6_move_28 : decode cX6_move 28 = .ok (.iaload, 1) := by decide +kernel
theorem dX6_move_29 : decode cX6_move 29 = .ok (.iastore, 1) := by decide +kernel
theorem dX6_move_30 : decode cX6_move 30 = .ok (.iinc 3 (-1), 3) := by decide +kernel
theorem dX6_move_33 : decode cX6_move 33 = .ok (.goto (-22), 3) := by decide +kernel
theorem dX6_move_36 : decode cX6_move 36 = .ok (.goto 33, 3) := by decide +kernel
theorem dX6_move_39 : decode cX6_move 39 = .ok (.iload_n 1, 1) := by decide +kernel
theorem dX6_move_40 : decode cX6_move 40 = .ok (.istore_n 3, 1) := by decide +kernel
theorem dX6_move_41 : decode cX6_move 41 = .ok (.iload_n 3, 1) := by decide +kernel
theorem dX6_move_42 : decode cX6_move 42 = .ok (.aload_n 0, 1) := by decide +kernel
theorem dX6_move_43 : decode cX6_move 43 = .ok (.getfield 69, 3) := by decide +kernel
theorem dX6_move_46 : decode cX6_move 46 = .ok (.if_icmp .ge 23, 3) := by decide +kernel
theorem dX6_move_49 : decode cX6_move 49 = .ok (.aload_n 0, 1) := by decide +kernel
theorem dX6_move_50 : decode cX6_move 50 = .ok (.getfield 17, 3) := by decide +kernel
theorem dX6_move_53 : decode cX6_move 53 = .ok (.iload_n 3, 1) := by decide +kernel
theorem dX6_move_54 : decode cX6_move 54 = .ok (.iload_n 2, 1) := by decide +kernel
theorem dX6_move_55 : decode cX6_move 55 = .ok (.iadd, 1) := by decide +kernel
theorem dX6_move_56 : decode cX6_move 56 = .ok (.aload_n 0, 1) := by decide +kernel
theorem dX6_move_57 : decode cX6_move 57 = .ok (.getfield 17, 3) := by decide +kernel
theorem dX6_move_60 : decode cX6_move 60 = .ok (.iload_n 3, 1) := by decide +kernel
theorem dX6_move_61 : decode cX6_move 61 = .ok (.iaload, 1) := by decide +kernel
theorem dX6_move_62 : decode cX6_move 62 = .ok (.iastore, 1) := by decide +kernel
theorem dX6_move_63 : decode cX6_move 63 = .ok (.iinc 3 1, 3) := by decide +kernel
theorem dX6_move_66 : decode cX6_move 66 = .ok (.goto (-25), 3) := by decide +kernel
theorem dX6_move_69 : decode cX6_move 69 = .ok (.aload_n 0, 1) := by decide +kernel
theorem dX6_move_70 : decode cX6_move 70 = .ok (.dup, 1) := by decide +kernel
theorem dX6_move_71 : decode cX6_move 71 = .ok (.getfield 69, 3) := by decide +kernel
theorem dX6_move_74 : decode cX6_move 74 = .ok (.iload_n 2, 1) := by decide +kernel
theorem dX6_move_75 : decode cX6_move 75 = .ok (.iadd, 1) := by decide +kernel
theorem dX6_move_76 : decode cX6_move 76 = .ok (.putfield 69, 3) := by decide +kernel
theorem dX6_move_79 : decode cX6_move 79 = .ok (.return_, 1) := by decide +kernel
theorem dX6_take_0 : decode cX6_take 0 = .ok (.aload_n 0, 1) := by decide +kernel
theorem dX6_take_1 : decode cX6_take 1 = .ok (.iload_n 1, 1) := by decide +kernel
theorem dX6_take_2 : decode cX6_take 2 = .ok (.invokevirtual 63, 3) := by decide +kernel
theorem dX6_take_5 : decode cX6_take 5 = .ok (.istore_n 2, 1) := by decide +kernel
theorem dX6_take_6 : decode cX6_take 6 = .ok (.aload_n 0, 1) := by decide +kernel
theorem dX6_take_7 : decode cX6_take 7 = .ok (.getfield 20, 3) := by decide +kernel
theorem dX6_take_10 : decode cX6_take 10 = .ok (.iload_n 1, 1) := by decide +kernel
theorem dX6_take_11 : decode cX6_take 11 = .ok (.iaload, 1) := by decide +kernel
theorem dX6_take_12 : decode cX6_take 12 = .ok (.aload_n 0, 1) := by decide +kernel
theorem dX6_take_13 : decode cX6_take 13 = .ok (.getfield 23, 3) := by decide +kernel
theorem dX6_take_16 : decode cX6_take 16 = .ok (.iload_n 1, 1) := by decide +kernel
theorem dX6_take_17 : decode cX6_take 17 = .ok (.iaload, 1) := by decide +kernel
theorem dX6_take_18 : decode cX6_take 18 = .ok (.iadd, 1) := by decide +kernel
theorem dX6_take_19 : decode cX6_take 19 = .ok (.istore_n 3, 1) := by decide +kernel
theorem dX6_take_20 : decode cX6_take 20 = .ok (.aload_n 0, 1) := by decide +kernel
theorem dX6_take_21 : decode cX6_take 21 = .ok (.iload_n 2, 1) := by decide +kernel
theorem dX6_take_22 : decode cX6_take 22 = .ok (.iload_n 3, 1) := by decide +kernel
theorem dX6_take_23 : decode cX6_take 23 = .ok (.iadd, 1) := by decide +kernel
theorem dX6_take_24 : decode cX6_take 24 = .ok (.iload_n 3, 1) := by decide +kernel
theorem dX6_take_25 : decode cX6_take 25 = .ok (.ineg, 1) := by decide +kernel
theorem dX6_take_26 : decode cX6_take 26 = .ok (.invokevirtual 72, 3) := by decide +kernel
theorem dX6_take_29 : decode cX6_take 29 = .ok (.aload_n 0, 1) := by decide +kernel
theorem dX6_take_30 : decode cX6_take 30 = .ok (.dup, 1) := by decide +kernel
theorem dX6_take_31 : decode cX6_take 31 = .ok (.getfield 52, 3) := by decide +kernel
theorem dX6_take_34 : decode cX6_take 34 = .ok (.iconst 1, 1) := by decide +kernel
theorem dX6_take_35 : decode cX6_take 35 = .ok (.isub, 1) := by decide +kernel
theorem dX6_take_36 : decode cX6_take 36 = .ok (.putfield 52, 3) := by decide +kernel
theorem dX6_take_39 : decode cX6_take 39 = .ok (.iload_n 1, 1) := by decide +kernel
theorem dX6_take_40 : decode cX6_take 40 = .ok (.istore 4, 2) := by decide +kernel
theorem dX6_take_42 : decode cX6_take 42 = .ok (.iload 4, 2) := by decide +kernel
theorem dX6_take_44 : decode cX6_take 44 = .ok (.aload_n 0, 1) := by decide +kernel
theorem dX6_take_45 : decode cX6_take 45 = .ok (.getfield 52, 3) := by decide +kernel
theorem dX6_take_48 : decode cX6_take 48 = .ok (.if_icmp .ge 41, 3) := by decide +kernel
theorem dX6_take_51 : decode cX6_take 51 = .ok (.aload_n 0, 1) := by decide +kernel
theorem dX6_take_52 : decode cX6_take 52 = .ok (.getfield 20, 3) := by decide +kernel
theorem dX6_take_55 : decode cX6_take 55 = .ok (.iload 4, 2) := by decide +kernel
theorem dX6_take_57 : decode cX6_take 57 = .ok (.aload_n 0, 1) := by decide +kernel
theorem dX6_take_58 : decode cX6_take 58 = .ok (.getfield 20, 3) := by decide +kernel
theorem dX6_take_61 : decode cX6_take 61 = .ok (.iload 4, 2) := by decide +kernel
theorem dX6_take_63 : decode cX6_take 63 = .ok (.iconst 1, 1) := by decide +kernel
theorem dX6_take_64 : decode cX6_take 64 = .ok (.iadd, 1) := by decide +kernel
theorem dX6_take_65 : decode cX6_take 65 = .ok (.iaload, 1) := by decide +kernel
theorem dX6_take_66 : decode cX6_take 66 = .ok (.iastore, 1) := by decide +kernel
theorem dX6_take_67 : decode cX6_take 67 = .ok (.aload_n 0, 1) := by decide +kernel
theorem dX6_take_68 : decode cX6_take 68 = .ok (.getfield 23, 3) := by decide +kernel
theorem dX6_take_71 : decode cX6_take 71 = .ok (.iload 4, 2) := by decide +kernel
theorem dX6_take_73 : decode cX6_take 73 = .ok (.aload_n 0, 1) := by decide +kernel
theorem dX6_take_74 : decode cX6_take 74 = .ok (.getfield 23, 3) := by decide +kernel
theorem dX6_take_77 : decode cX6_take 77 = .ok (.iload 4, 2) := by decide +kernel
theorem dX6_take_79 : decode cX6_take 79 = .ok (.iconst 1, 1) := by decide +kernel
theorem dX6_take_80 : decode cX6_take 80 = .ok (.iadd, 1) := by decide +kernel
theorem dX6_take_81 : decode cX6_take 81 = .ok (.iaload, 1) := by decide +kernel
theorem dX6_take_82 : decode cX6_take 82 = .ok (.iastore, 1) := by decide +kernel
theorem dX6_take_83 : decode cX6_take 83 = .ok (.iinc 4 1, 3) := by decide +kernel
theorem dX6_take_86 : decode cX6_take 86 = .ok (.goto (-44), 3) := by decide +kernel
theorem dX6_take_89 : decode cX6_take 89 = .ok (.aload_n 0, 1) := by decide +kernel
theorem dX6_take_90 : decode cX6_take 90 = .ok (.getfield 26, 3) := by decide +kernel
theorem dX6_take_93 : decode cX6_take 93 = .ok (.iload_n 1, 1) := by decide +kernel
theorem dX6_take_94 : decode cX6_take 94 = .ok (.if_icmp .ne 11, 3) := by decide +kernel
theorem dX6_take_97 : decode cX6_take 97 = .ok (.aload_n 0, 1) := by decide +kernel
theorem dX6_take_98 : decode cX6_take 98 = .ok (.iconst (-1), 1) := by decide +kernel
theorem dX6_take_99 : decode cX6_take 99 = .ok (.putfield 26, 3) := by decide +kernel
theorem dX6_take_102 : decode cX6_take 102 = .ok (.goto 21, 3) := by decide +kernel
theorem dX6_take_105 : decode cX6_take 105 = .ok (.aload_n 0, 1) := by decide +kernel
theorem dX6_take_106 : decode cX6_take 106 = .ok (.getfield 26, 3) := by decide +kernel
theorem dX6_take_109 : decode cX6_take 109 = .ok (.iload_n 1, 1) := by decide +kernel
theorem dX6_take_110 : decode cX6_take 110 = .ok (.if_icmp .le 13, 3) := by decide +kernel
theorem dX6_take_113 : decode cX6_take 113 = .ok (.aload_n 0, 1) := by decide +kernel
theorem dX6_take_114 : decode cX6_take 114 = .ok (.dup, 1) := by decide +kernel
theorem dX6_take_115 : decode cX6_take 115 = .ok (.getfield 26, 3) := by decide +kernel
theorem dX6_take_118 : decode cX6_take 118 = .ok (.iconst 1, 1) := by decide +kernel
theorem dX6_take_119 : decode cX6_take 119 = .ok (.isub, 1) := by decide +kernel
theorem dX6_take_120 : decode cX6_take 120 = .ok (.putfield 26, 3) := by decide +kernel
theorem dX6_take_123 : decode cX6_take 123 = .ok (.return_, 1) := by decide +kernel
theorem dX6_insert_0 : decode cX6_insert 0 = .ok (.aload_n 0, 1) := by decide +kernel
theorem dX6_insert_1 : decode cX6_insert 1 = .ok (.iload_n 1, 1) := by decide +kernel
theorem dX6_insert_2 : decode cX6_insert 2 = .ok (.invokevirtual 63, 3) := by decide +kernel
theorem dX6_insert_5 : decode cX6_insert 5 = .ok (.istore 4, 2) := by decide +kernel
theorem dX6_insert_7 : decode cX6_insert 7 = .ok (.aload_n 0, 1) := by decide +kernel
theorem dX6_insert_8 : decode cX6_insert 8 = .ok (.iload 4, 2) := by decide +kernel
theorem dX6_insert_10 : decode cX6_insert 10 = .ok (.iload_n 3, 1) := by decide +kernel
theorem dX6_insert_11 : decode cX6_insert 11 = .ok (.invokevirtual 72, 3) := by decide +kernel
theorem dX6_insert_14 : decode cX6_insert 14 = .ok (.iconst 0, 1) := by decide +kernel
theorem dX6_insert_15 : decode cX6_insert 15 = .ok (.istore 5, 2) := by decide +kernel
theorem dX6_insert_17 : decode cX6_insert 17 = .ok (.iload 5, 2) := by decide +kernel
theorem dX6_insert_19 : decode cX6_insert 19 = .ok (.iload_n 3, 1) := by decide +kernel
theorem dX6_insert_20 : decode cX6_insert 20 = .ok (.if_icmp .ge 26, 3) := by decide +kernel
theorem dX6_insert_23 : decode cX6_insert 23 = .ok (.aload_n 0, 1) := by decide +kernel
theorem dX6_insert_24 : decode cX6_insert 24 = .ok (.getfield 17, 3) := by decide +kernel
theorem dX6_insert_27 : decode cX6_insert 27 = .ok (.iload 4, 2) := by decide +kernel
theorem dX6_insert_29 : decode cX6_insert 29 = .ok (.iload 5, 2) := by decide +kernel
theorem dX6_insert_31 : decode cX6_insert 31 = .ok (.iadd, 1) := by decide +kernel
theorem dX6_insert_32 : decode cX6_insert 32 = .ok (.aload_n 0, 1) := by decide +kernel
theorem dX6_insert_33 : decode cX6_insert 33 = .ok (.getfield 7, 3) := by decide +kernel
theorem dX6_insert_36 : decode cX6_insert 36 = .ok (.iload 5, 2) := by decide +kernel
theorem dX6_insert_38 : decode cX6_insert 38 = .ok (.iaload, 1) := by decide +kernel
theorem dX6_insert_39 : decode cX6_insert 39 = .ok (.iastore, 1) := by decide +kernel
theorem dX6_insert_40 : decode cX6_insert 40 = .ok (.iinc 5 1, 3) := by decide +kernel
theorem dX6_insert_43 : decode cX6_insert 43 = .ok (.goto (-26), 3) := by decide +kernel
theorem dX6_insert_46 : decode cX6_insert 46 = .ok (.aload_n 0, 1) := by decide +kernel
theorem dX6_insert_47 : decode cX6_insert 47 = .ok (.getfield 52, 3) := by decide +kernel
theorem dX6_insert_50 : decode cX6_insert 50 = .ok (.istore 5, 2) := by decide +kernel
theorem dX6_insert_52 : decode cX6_insert 52 = .ok (.iload 5, 2) := by decide +kernel
theorem dX6_insert_54 : decode cX6_insert 54 = .ok (.iload_n 1, 1) := by decide +kernel
theorem dX6_insert_55 : decode cX6_insert 55 = .ok (.if_icmp .le 41, 3) := by decide +kernel
theorem dX6_insert_58 : decode cX6_insert 58 = .ok (.aload_n 0, 1) := by decide +kernel
theorem dX6_insert_59 : decode cX6_insert 59 = .ok (.getfield 20, 3) := by decide +kernel
theorem dX6_insert_62 : decode cX6_insert 62 = .ok (.iload 5, 2) := by decide +kernel
theorem dX6_insert_64 : decode cX6_insert 64 = .ok (.aload_n 0, 1) := by decide +kernel
theorem dX6_insert_65 : decode cX6_insert 65 = .ok (.getfield 20, 3) := by decide +kernel
theorem dX6_insert_68 : decode cX6_insert 68 = .ok (.iload 5, 2) := by decide +kernel
theorem dX6_insert_70 : decode cX6_insert 70 = .ok (.iconst 1, 1) := by decide +kernel
theorem dX6_insert_71 : decode cX6_insert 71 = .ok (.isub, 1) := by decide +kernel
theorem dX6_insert_72 : decode cX6_insert 72 = .ok (.iaload, 1) := by decide +kernel
theorem dX6_insert_73 : decode cX6_insert 73 = .ok (.iastore, 1) := by decide +kernel
theorem dX6_insert_74 : decode cX6_insert 74 = .ok (.aload_n 0, 1) := by decide +kernel
theorem dX6_insert_75 : decode cX6_insert 75 = .ok (.getfield 23, 3) := by decide +kernel
theorem dX6_insert_78 : decode cX6_insert 78 = .ok (.iload 5, 2) := by decide +kernel
theorem dX6_insert_80 : decode cX6_insert 80 = .ok (.aload_n 0, 1) := by decide +kernel
theorem dX6_insert_81 : decode cX6_insert 81 = .ok (.getfield 23, 3) := by decide +kernel
theorem dX6_insert_84 : decode cX6_insert 84 = .ok (.iload 5, 2) := by decide +kernel
theorem dX6_insert_86 : decode cX6_insert 86 = .ok (.iconst 1, 1) := by decide +kernel
theorem dX6_insert_87 : decode cX6_insert 87 = .ok (.isub, 1) := by decide +kernel
theorem dX6_insert_88 : decode cX6_insert 88 = .ok (.iaload, 1) := by decide +kernel
theorem dX6_insert_89 : decode cX6_insert 89 = .ok (.iastore, 1) := by decide +kernel
theorem dX6_insert_90 : decode cX6_insert 90 = .ok (.iinc 5 (-1), 3) := by decide +kernel
theorem dX6_insert_93 : decode cX6_insert 93 = .ok (.goto (-41), 3) := by decide +kernel
theorem dX6_insert_96 : decode cX6_insert 96 = .ok (.aload_n 0, 1) := by decide +kernel
theorem dX6_insert_97 : decode cX6_insert 97 = .ok (.getfield 20, 3) := by decide +kernel
theorem dX6_insert_100 : decode cX6_insert 100 = .ok (.iload_n 1, 1) := by decide +kernel
theorem dX6_insert_101 : decode cX6_insert 101 = .ok (.iload_n 2, 1) := by decide +kernel
theorem dX6_insert_102 : decode cX6_insert 102 = .ok (.iastore, 1) := by decide +kernel
theorem dX6_insert_103 : decode cX6_insert 103 = .ok (.aload_n 0, 1) := by decide +kernel
theorem dX6_insert_104 : decode cX6_insert 104 = .ok (.getfield 23, 3) := by decide +kernel
theorem dX6_insert_107 : decode cX6_insert 107 = .ok (.iload_n 1, 1) := by decide +kernel
theorem dX6_insert_108 : decode cX6_insert 108 = .ok (.iload_n 3, 1) := by decide +kernel
theorem dX6_insert_109 : decode cX6_insert 109 = .ok (.iload_n 2, 1) := by decide +kernel
theorem dX6_insert_110 : decode cX6_insert 110 = .ok (.isub, 1) := by decide +kernel
theorem dX6_insert_111 : decode cX6_insert 111 = .ok (.iastore, 1) := by decide +kernel
theorem dX6_insert_112 : decode cX6_insert 112 = .ok (.aload_n 0, 1) := by decide +kernel
theorem dX6_insert_113 : decode cX6_insert 113 = .ok (.dup, 1) := by decide +kernel
theorem dX6_insert_114 : decode cX6_insert 114 = .ok (.getfield 52, 3) := by decide +kernel
theorem dX6_insert_117 : decode cX6_insert 117 = .ok (.iconst 1, 1) := by decide +kernel
theorem dX6_insert_118 : decode cX6_insert 118 = .ok (.iadd, 1) := by decide +kernel
theorem dX6_insert_119 : decode cX6_insert 119 = .ok (.putfield 52, 3) := by decide +kernel
theorem dX6_insert_122 : decode cX6_insert 122 = .ok (.aload_n 0, 1) := by decide +kernel
theorem dX6_insert_123 : decode cX6_insert 123 = .ok (.iload_n 1, 1) := by decide +kernel
theorem dX6_insert_124 : decode cX6_insert 124 = .ok (.putfield 26, 3) := by decide +kernel
theorem dX6_insert_127 : decode cX6_insert 127 = .ok (.return_, 1) := by decide +kernel
theorem dX6_put_0 : decode cX6_put 0 = .ok (.aload_n 0, 1) := by decide +kernel
theorem dX6_put_1 : decode cX6_put 1 = .ok (.iconst 0, 1) := by decide +kernel
theorem dX6_put_2 : decode cX6_put 2 = .ok (.putfield 36, 3) := by decide +kernel
theorem dX6_put_5 : decode cX6_put 5 = .ok (.aload_n 0, 1) := by decide +kernel
theorem dX6_put_6 : decode cX6_put 6 = .ok (.invokevirtual 76, 3) := by decide +kernel
theorem dX6_put_9 : decode cX6_put 9 = .ok (.istore_n 2, 1) := by decide +kernel
theorem dX6_put_10 : decode cX6_put 10 = .ok (.iload_n 1, 1) := by decide +kernel
theorem dX6_put_11 : decode cX6_put 11 = .ok (.iconst 1, 1) := by decide +kernel
theorem dX6_put_12 : decode cX6_put 12 = .ok (.bipush 64, 2) := by decide +kernel
theorem dX6_put_14 : decode cX6_put 14 = .ok (.invokestatic 39, 3) := by decide +kernel
theorem dX6_put_17 : decode cX6_put 17 = .ok (.ifCond .eq 16, 3) := by decide +kernel
theorem dX6_put_20 : decode cX6_put 20 = .ok (.iload_n 2, 1) := by decide +kernel
theorem dX6_put_21 : decode cX6_put 21 = .ok (.iload_n 1, 1) := by decide +kernel
theorem dX6_put_22 : decode cX6_put 22 = .ok (.isub, 1) := by decide +kernel
theorem dX6_put_23 : decode cX6_put 23 = .ok (.iconst 0, 1) := by decide +kernel
theorem dX6_put_24 : decode cX6_put 24 = .ok (.sipush 512, 3) := by decide +kernel
theorem dX6_put_27 : decode cX6_put 27 = .ok (.invokestatic 39, 3) := by decide +kernel
theorem dX6_put_30 : decode cX6_put 30 = .ok (.ifCond .ne 17, 3) := by decide +kernel
theorem dX6_put_33 : decode cX6_put 33 = .ok (.aload_n 0, 1) := by decide +kernel
theorem dX6_put_34 : decode cX6_put 34 = .ok (.iconst 1, 1) := by decide +kernel
theorem dX6_put_35 : decode cX6_put 35 = .ok (.invokevirtual 43, 3) := by decide +kernel
theorem dX6_put_38 : decode cX6_put 38 = .ok (.ifCond .le 7, 3) := by decide +kernel
theorem dX6_put_41 : decode cX6_put 41 = .ok (.iconst 1, 1) := by decide +kernel
theorem dX6_put_42 : decode cX6_put 42 = .ok (.goto 4, 3) := by decide +kernel
theorem dX6_put_45 : decode cX6_put 45 = .ok (.iconst 0, 1) := by decide +kernel
theorem dX6_put_46 : decode cX6_put 46 = .ok (.ireturn, 1) := by decide +kernel
theorem dX6_put_47 : decode cX6_put 47 = .ok (.aload_n 0, 1) := by decide +kernel
theorem dX6_put_48 : decode cX6_put 48 = .ok (.iload_n 1, 1) := by decide +kernel
theorem dX6_put_49 : decode cX6_put 49 = .ok (.invokevirtual 80, 3) := by decide +kernel
theorem dX6_put_52 : decode cX6_put 52 = .ok (.istore_n 3, 1) := by decide +kernel
theorem dX6_put_53 : decode cX6_put 53 = .ok (.iload_n 3, 1) := by decide +kernel
theorem dX6_put_54 : decode cX6_put 54 = .ok (.ifCond .ge 7, 3) := by decide +kernel
theorem dX6_put_57 : decode cX6_put 57 = .ok (.iconst 0, 1) := by decide +kernel
theorem dX6_put_58 : decode cX6_put 58 = .ok (.goto 19, 3) := by decide +kernel
theorem dX6_put_61 : decode cX6_put 61 = .ok (.aload_n 0, 1) := by decide +kernel
theorem dX6_put_62 : decode cX6_put 62 = .ok (.getfield 20, 3) := by decide +kernel
theorem dX6_put_65 : decode cX6_put 65 = .ok (.iload_n 3, 1) := by decide +kernel
theorem dX6_put_66 : decode cX6_put 66 = .ok (.iaload, 1) := by decide +kernel
theorem dX6_put_67 : decode cX6_put 67 = .ok (.aload_n 0, 1) := by decide +kernel
theorem dX6_put_68 : decode cX6_put 68 = .ok (.getfield 23, 3) := by decide +kernel
theorem dX6_put_71 : decode cX6_put 71 = .ok (.iload_n 3, 1) := by decide +kernel
theorem dX6_put_72 : decode cX6_put 72 = .ok (.iaload, 1) := by decide +kernel
theorem dX6_put_73 : decode cX6_put 73 = .ok (.iadd, 1) := by decide +kernel
theorem dX6_put_74 : decode cX6_put 74 = .ok (.invokestatic 66, 3) := by decide +kernel
theorem dX6_put_77 : decode cX6_put 77 = .ok (.istore 4, 2) := by decide +kernel
theorem dX6_put_79 : decode cX6_put 79 = .ok (.aload_n 0, 1) := by decide +kernel
theorem dX6_put_80 : decode cX6_put 80 = .ok (.invokevirtual 83, 3) := by decide +kernel
theorem dX6_put_83 : decode cX6_put 83 = .ok (.iload 4, 2) := by decide +kernel
theorem dX6_put_85 : decode cX6_put 85 = .ok (.isub, 1) := by decide +kernel
theorem dX6_put_86 : decode cX6_put 86 = .ok (.iload_n 2, 1) := by decide +kernel
theorem dX6_put_87 : decode cX6_put 87 = .ok (.invokestatic 66, 3) := by decide +kernel
theorem dX6_put_90 : decode cX6_put 90 = .ok (.iadd, 1) := by decide +kernel
theorem dX6_put_91 : decode cX6_put 91 = .ok (.aload_n 0, 1) := by decide +kernel
theorem dX6_put_92 : decode cX6_put 92 = .ok (.getfield 33, 3) := by decide +kernel
theorem dX6_put_95 : decode cX6_put 95 = .ok (.if_icmp .gt 18, 3) := by decide +kernel
theorem dX6_put_98 : decode cX6_put 98 = .ok (.iload_n 3, 1) := by decide +kernel
theorem dX6_put_99 : decode cX6_put 99 = .ok (.ifCond .ge 28, 3) := by decide +kernel
theorem dX6_put_102 : decode cX6_put 102 = .ok (.aload_n 0, 1) := by decide +kernel
theorem dX6_put_103 : decode cX6_put 103 = .ok (.getfield 52, 3) := by decide +kernel
theorem dX6_put_106 : decode cX6_put 106 = .ok (.aload_n 0, 1) := by decide +kernel
theorem dX6_put_107 : decode cX6_put 107 = .ok (.getfield 30, 3) := by decide +kernel
theorem dX6_put_110 : decode cX6_put 110 = .ok (.if_icmp .ne 17, 3) := by decide +kernel
theorem dX6_put_113 : decode cX6_put 113 = .ok (.aload_n 0, 1) := by decide +kernel
theorem dX6_put_114 : decode cX6_put 114 = .ok (.iconst 2, 1) := by decide +kernel
theorem dX6_put_115 : decode cX6_put 115 = .ok (.invokevirtual 43, 3) := by decide +kernel
theorem dX6_put_118 : decode cX6_put 118 = .ok (.ifCond .le 7, 3) := by decide +kernel
theorem dX6_put_121 : decode cX6_put 121 = .ok (.iconst 1, 1) := by decide +kernel
theorem dX6_put_122 : decode cX6_put 122 = .ok (.goto 4, 3) := by decide +kernel
theorem dX6_put_125 : decode cX6_put 125 = .ok (.iconst 0, 1) := by decide +kernel
theorem dX6_put_126 : decode cX6_put 126 = .ok (.ireturn, 1) := by decide +kernel
theorem dX6_put_127 : decode cX6_put 127 = .ok (.iload_n 3, 1) := by decide +kernel
theorem dX6_put_128 : decode cX6_put 128 = .ok (.ifCond .lt 8, 3) := by decide +kernel
theorem dX6_put_131 : decode cX6_put 131 = .ok (.aload_n 0, 1) := by decide +kernel
theorem dX6_put_132 : decode cX6_put 132 = .ok (.iload_n 3, 1) := by decide +kernel
theorem dX6_put_133 : decode cX6_put 133 = .ok (.invokevirtual 86, 3) := by decide +kernel
theorem dX6_put_136 : decode cX6_put 136 = .ok (.aload_n 0, 1) := by decide +kernel
theorem dX6_put_137 : decode cX6_put 137 = .ok (.aload_n 0, 1) := by decide +kernel
theorem dX6_put_138 : decode cX6_put 138 = .ok (.iload_n 1, 1) := by decide +kernel
theorem dX6_put_139 : decode cX6_put 139 = .ok (.iconst 0, 1) := by decide +kernel
theorem dX6_put_140 : decode cX6_put 140 = .ok (.invokevirtual 59, 3) := by decide +kernel
theorem dX6_put_143 : decode cX6_put 143 = .ok (.iload_n 1, 1) := by decide +kernel
theorem dX6_put_144 : decode cX6_put 144 = .ok (.iload_n 2, 1) := by decide +kernel
theorem dX6_put_145 : decode cX6_put 145 = .ok (.invokevirtual 90, 3) := by decide +kernel
theorem dX6_put_148 : decode cX6_put 148 = .ok (.iload_n 3, 1) := by decide +kernel
theorem dX6_put_149 : decode cX6_put 149 = .ok (.ifCond .ge 7, 3) := by decide +kernel
theorem dX6_put_152 : decode cX6_put 152 = .ok (.iconst 1, 1) := by decide +kernel
theorem dX6_put_153 : decode cX6_put 153 = .ok (.goto 4, 3) := by decide +kernel
theorem dX6_put_156 : decode cX6_put 156 = .ok (.iconst 0, 1) := by decide +kernel
theorem dX6_put_157 : decode cX6_put 157 = .ok (.ireturn, 1) := by decide +kernel
theorem dX6_told_0 : decode cX6_told 0 = .ok (.aload_n 0, 1) := by decide +kernel
theorem dX6_told_1 : decode cX6_told 1 = .ok (.iload_n 1, 1) := by decide +kernel
theorem dX6_told_2 : decode cX6_told 2 = .ok (.invokevirtual 63, 3) := by decide +kernel
theorem dX6_told_5 : decode cX6_told 5 = .ok (.iload_n 2, 1) := by decide +kernel
theorem dX6_told_6 : decode cX6_told 6 = .ok (.ifCond .eq 12, 3) := by decide +kernel
theorem dX6_told_9 : decode cX6_told 9 = .ok (.aload_n 0, 1) := by decide +kernel
theorem dX6_told_10 : decode cX6_told 10 = .ok (.getfield 20, 3) := by decide +kernel
theorem dX6_told_13 : decode cX6_told 13 = .ok (.iload_n 1, 1) := by decide +kernel
theorem dX6_told_14 : decode cX6_told 14 = .ok (.iaload, 1) := by decide +kernel
theorem dX6_told_15 : decode cX6_told 15 = .ok (.goto 4, 3) := by decide +kernel
theorem dX6_told_18 : decode cX6_told 18 = .ok (.iconst 0, 1) := by decide +kernel
theorem dX6_told_19 : decode cX6_told 19 = .ok (.iadd, 1) := by decide +kernel
theorem dX6_told_20 : decode cX6_told 20 = .ok (.istore_n 3, 1) := by decide +kernel
theorem dX6_told_21 : decode cX6_told 21 = .ok (.aload_n 0, 1) := by decide +kernel
theorem dX6_told_22 : decode cX6_told 22 = .ok (.iload_n 2, 1) := by decide +kernel
theorem dX6_told_23 : decode cX6_told 23 = .ok (.ifCond .eq 12, 3) := by decide +kernel
theorem dX6_told_26 : decode cX6_told 26 = .ok (.aload_n 0, 1) := by decide +kernel
theorem dX6_told_27 : decode cX6_told 27 = .ok (.getfield 23, 3) := by decide +kernel
theorem dX6_told_30 : decode cX6_told 30 = .ok (.iload_n 1, 1) := by decide +kernel
theorem dX6_told_31 : decode cX6_told 31 = .ok (.iaload, 1) := by decide +kernel
theorem dX6_told_32 : decode cX6_told 32 = .ok (.goto 9, 3) := by decide +kernel
theorem dX6_told_35 : decode cX6_told 35 = .ok (.aload_n 0, 1) := by decide +kernel
theorem dX6_told_36 : decode cX6_told 36 = .ok (.getfield 20, 3) := by decide +kernel
theorem dX6_told_39 : decode cX6_told 39 = .ok (.iload_n 1, 1) := by decide +kernel
theorem dX6_told_40 : decode cX6_told 40 = .ok (.iaload, 1) := by decide +kernel
theorem dX6_told_41 : decode cX6_told 41 = .ok (.putfield 94, 3) := by decide +kernel
theorem dX6_told_44 : decode cX6_told 44 = .ok (.iconst 0, 1) := by decide +kernel
theorem dX6_told_45 : decode cX6_told 45 = .ok (.istore 4, 2) := by decide +kernel
theorem dX6_told_47 : decode cX6_told 47 = .ok (.iload 4, 2) := by decide +kernel
theorem dX6_told_49 : decode cX6_told 49 = .ok (.aload_n 0, 1) := by decide +kernel
theorem dX6_told_50 : decode cX6_told 50 = .ok (.getfield 94, 3) := by decide +kernel
theorem dX6_told_53 : decode cX6_told 53 = .ok (.if_icmp .ge 25, 3) := by decide +kernel
theorem dX6_told_56 : decode cX6_told 56 = .ok (.aload_n 0, 1) := by decide +kernel
theorem dX6_told_57 : decode cX6_told 57 = .ok (.getfield 13, 3) := by decide +kernel
theorem dX6_told_60 : decode cX6_told 60 = .ok (.iload 4, 2) := by decide +kernel
theorem dX6_told_62 : decode cX6_told 62 = .ok (.aload_n 0, 1) := by decide +kernel
theorem dX6_told_63 : decode cX6_told 63 = .ok (.getfield 17, 3) := by decide +kernel
theorem dX6_told_66 : decode cX6_told 66 = .ok (.iload_n 3, 1) := by decide +kernel
theorem dX6_told_67 : decode cX6_told 67 = .ok (.iload 4, 2) := by decide +kernel
theorem dX6_told_69 : decode cX6_told 69 = .ok (.iadd, 1) := by decide +kernel
theorem dX6_told_70 : decode cX6_told 70 = .ok (.iaload, 1) := by decide +kernel
theorem dX6_told_71 : decode cX6_told 71 = .ok (.iastore, 1) := by decide +kernel
theorem dX6_told_72 : decode cX6_told 72 = .ok (.iinc 4 1, 3) := by decide +kernel
theorem dX6_told_75 : decode cX6_told 75 = .ok (.goto (-28), 3) := by decide +kernel
theorem dX6_told_78 : decode cX6_told 78 = .ok (.aload_n 0, 1) := by decide +kernel
theorem dX6_told_79 : decode cX6_told 79 = .ok (.iload_n 1, 1) := by decide +kernel
theorem dX6_told_80 : decode cX6_told 80 = .ok (.putfield 26, 3) := by decide +kernel
theorem dX6_told_83 : decode cX6_told 83 = .ok (.aload_n 0, 1) := by decide +kernel
theorem dX6_told_84 : decode cX6_told 84 = .ok (.getfield 94, 3) := by decide +kernel
theorem dX6_told_87 : decode cX6_told 87 = .ok (.ireturn, 1) := by decide +kernel
theorem dX6_get_0 : decode cX6_get 0 = .ok (.aload_n 0, 1) := by decide +kernel
theorem dX6_get_1 : decode cX6_get 1 = .ok (.iconst 0, 1) := by decide +kernel
theorem dX6_get_2 : decode cX6_get 2 = .ok (.putfield 36, 3) := by decide +kernel
theorem dX6_get_5 : decode cX6_get 5 = .ok (.aload_n 0, 1) := by decide +kernel
theorem dX6_get_6 : decode cX6_get 6 = .ok (.invokevirtual 76, 3) := by decide +kernel
theorem dX6_get_9 : decode cX6_get 9 = .ok (.istore_n 1, 1) := by decide +kernel
theorem dX6_get_10 : decode cX6_get 10 = .ok (.iload_n 1, 1) := by decide +kernel
theorem dX6_get_11 : decode cX6_get 11 = .ok (.iconst 1, 1) := by decide +kernel
theorem dX6_get_12 : decode cX6_get 12 = .ok (.bipush 64, 2) := by decide +kernel
theorem dX6_get_14 : decode cX6_get 14 = .ok (.invokestatic 39, 3) := by decide +kernel
theorem dX6_get_17 : decode cX6_get 17 = .ok (.ifCond .ne 9, 3) := by decide +kernel
theorem dX6_get_20 : decode cX6_get 20 = .ok (.aload_n 0, 1) := by decide +kernel
theorem dX6_get_21 : decode cX6_get 21 = .ok (.iconst 1, 1) := by decide +kernel
theorem dX6_get_22 : decode cX6_get 22 = .ok (.invokevirtual 43, 3) := by decide +kernel
theorem dX6_get_25 : decode cX6_get 25 = .ok (.ireturn, 1) := by decide +kernel
theorem dX6_get_26 : decode cX6_get 26 = .ok (.aload_n 0, 1) := by decide +kernel
theorem dX6_get_27 : decode cX6_get 27 = .ok (.iload_n 1, 1) := by decide +kernel
theorem dX6_get_28 : decode cX6_get 28 = .ok (.invokevirtual 80, 3) := by decide +kernel
theorem dX6_get_31 : decode cX6_get 31 = .ok (.istore_n 2, 1) := by decide +kernel
theorem dX6_get_32 : decode cX6_get 32 = .ok (.iload_n 2, 1) := by decide +kernel
theorem dX6_get_33 : decode cX6_get 33 = .ok (.ifCond .ge 11, 3) := by decide +kernel
theorem dX6_get_36 : decode cX6_get 36 = .ok (.aload_n 0, 1) := by decide +kernel
theorem dX6_get_37 : decode cX6_get 37 = .ok (.iconst 2, 1) := by decide +kernel
theorem dX6_get_38 : decode cX6_get 38 = .ok (.invokevirtual 43, 3) := by decide +kernel
theorem dX6_get_41 : decode cX6_get 41 = .ok (.goto 9, 3) := by decide +kernel
theorem dX6_get_44 : decode cX6_get 44 = .ok (.aload_n 0, 1) := by decide +kernel
theorem dX6_get_45 : decode cX6_get 45 = .ok (.iload_n 2, 1) := by decide +kernel
theorem dX6_get_46 : decode cX6_get 46 = .ok (.iconst 1, 1) := by decide +kernel
theorem dX6_get_47 : decode cX6_get 47 = .ok (.invokevirtual 97, 3) := by decide +kernel
theorem dX6_get_50 : decode cX6_get 50 = .ok (.ireturn, 1) := by decide +kernel
theorem dX6_remove_0 : decode cX6_remove 0 = .ok (.aload_n 0, 1) := by decide +kernel
theorem dX6_remove_1 : decode cX6_remove 1 = .ok (.iconst 0, 1) := by decide +kernel
theorem dX6_remove_2 : decode cX6_remove 2 = .ok (.putfield 36, 3) := by decide +kernel
theorem dX6_remove_5 : decode cX6_remove 5 = .ok (.aload_n 0, 1) := by decide +kernel
theorem dX6_remove_6 : decode cX6_remove 6 = .ok (.invokevirtual 76, 3) := by decide +kernel
theorem dX6_remove_9 : decode cX6_remove 9 = .ok (.istore_n 1, 1) := by decide +kernel
theorem dX6_remove_10 : decode cX6_remove 10 = .ok (.iload_n 1, 1) := by decide +kernel
theorem dX6_remove_11 : decode cX6_remove 11 = .ok (.iconst 1, 1) := by decide +kernel
theorem dX6_remove_12 : decode cX6_remove 12 = .ok (.bipush 64, 2) := by decide +kernel
theorem dX6_remove_14 : decode cX6_remove 14 = .ok (.invokestatic 39, 3) := by decide +kernel
theorem dX6_remove_17 : decode cX6_remove 17 = .ok (.ifCond .ne 17, 3) := by decide +kernel
theorem dX6_remove_20 : decode cX6_remove 20 = .ok (.aload_n 0, 1) := by decide +kernel
theorem dX6_remove_21 : decode cX6_remove 21 = .ok (.iconst 1, 1) := by decide +kernel
theorem dX6_remove_22 : decode cX6_remove 22 = .ok (.invokevirtual 43, 3) := by decide +kernel
theorem dX6_remove_25 : decode cX6_remove 25 = .ok (.ifCond .le 7, 3) := by decide +kernel
theorem dX6_remove_28 : decode cX6_remove 28 = .ok (.iconst 1, 1) := by decide +kernel
theorem dX6_remove_29 : decode cX6_remove 29 = .ok (.goto 4, 3) := by decide +kernel
theorem dX6_remove_32 : decode cX6_remove 32 = .ok (.iconst 0, 1) := by decide +kernel
theorem dX6_remove_33 : decode cX6_remove 33 = .ok (.ireturn, 1) := by decide +kernel
theorem dX6_remove_34 : decode cX6_remove 34 = .ok (.aload_n 0, 1) := by decide +kernel
theorem dX6_remove_35 : decode cX6_remove 35 = .ok (.iload_n 1, 1) := by decide +kernel
theorem dX6_remove_36 : decode cX6_remove 36 = .ok (.invokevirtual 80, 3) := by decide +kernel
theorem dX6_remove_39 : decode cX6_remove 39 = .ok (.istore_n 2, 1) := by decide +kernel
theorem dX6_remove_40 : decode cX6_remove 40 = .ok (.iload_n 2, 1) := by decide +kernel
theorem dX6_remove_41 : decode cX6_remove 41 = .ok (.ifCond .lt 8, 3) := by decide +kernel
theorem dX6_remove_44 : decode cX6_remove 44 = .ok (.aload_n 0, 1) := by decide +kernel
theorem dX6_remove_45 : decode cX6_remove 45 = .ok (.iload_n 2, 1) := by decide +kernel
theorem dX6_remove_46 : decode cX6_remove 46 = .ok (.invokevirtual 86, 3) := by decide +kernel
theorem dX6_remove_49 : decode cX6_remove 49 = .ok (.iload_n 2, 1) := by decide +kernel
theorem dX6_remove_50 : decode cX6_remove 50 = .ok (.ifCond .lt 7, 3) := by decide +kernel
theorem dX6_remove_53 : decode cX6_remove 53 = .ok (.iconst 1, 1) := by decide +kernel
theorem dX6_remove_54 : decode cX6_remove 54 = .ok (.goto 4, 3) := by decide +kernel
theorem dX6_remove_57 : decode cX6_remove 57 = .ok (.iconst 0, 1) := by decide +kernel
theorem dX6_remove_58 : decode cX6_remove 58 = .ok (.ireturn, 1) := by decide +kernel
theorem dX6_seek_0 : decode cX6_seek 0 = .ok (.aload_n 0, 1) := by decide +kernel
theorem dX6_seek_1 : decode cX6_seek 1 = .ok (.iconst 0, 1) := by decide +kernel
theorem dX6_seek_2 : decode cX6_seek 2 = .ok (.putfield 36, 3) := by decide +kernel
theorem dX6_seek_5 : decode cX6_seek 5 = .ok (.aload_n 0, 1) := by decide +kernel
theorem dX6_seek_6 : decode cX6_seek 6 = .ok (.invokevirtual 76, 3) := by decide +kernel
theorem dX6_seek_9 : decode cX6_seek 9 = .ok (.istore_n 2, 1) := by decide +kernel
theorem dX6_seek_10 : decode cX6_seek 10 = .ok (.iload_n 2, 1) := by decide +kernel
theorem dX6_seek_11 : decode cX6_seek 11 = .ok (.iconst 1, 1) := by decide +kernel
theorem dX6_seek_12 : decode cX6_seek 12 = .ok (.bipush 64, 2) := by decide +kernel
theorem dX6_seek_14 : decode cX6_seek 14 = .ok (.invokestatic 39, 3) := by decide +kernel
theorem dX6_seek_17 : decode cX6_seek 17 = .ok (.ifCond .eq 12, 3) := by decide +kernel
theorem dX6_seek_20 : decode cX6_seek 20 = .ok (.iload_n 1, 1) := by decide +kernel
theorem dX6_seek_21 : decode cX6_seek 21 = .ok (.iconst 0, 1) := by decide +kernel
theorem dX6_seek_22 : decode cX6_seek 22 = .ok (.iconst 3, 1) := by decide +kernel
theorem dX6_seek_23 : decode cX6_seek 23 = .ok (.invokestatic 39, 3) := by decide +kernel
theorem dX6_seek_26 : decode cX6_seek 26 = .ok (.ifCond .ne 9, 3) := by decide +kernel
theorem dX6_seek_29 : decode cX6_seek 29 = .ok (.aload_n 0, 1) := by decide +kernel
theorem dX6_seek_30 : decode cX6_seek 30 = .ok (.iconst 1, 1) := by decide +kernel
theorem dX6_seek_31 : decode cX6_seek 31 = .ok (.invokevirtual 43, 3) := by decide +kernel
theorem dX6_seek_34 : decode cX6_seek 34 = .ok (.ireturn, 1) := by decide +kernel
theorem dX6_seek_35 : decode cX6_seek 35 = .ok (.iload_n 1, 1) := by decide +kernel
theorem dX6_seek_36 : decode cX6_seek 36 = .ok (.ifCond .ne 12, 3) := by decide +kernel
theorem dX6_seek_39 : decode cX6_seek 39 = .ok (.aload_n 0, 1) := by decide +kernel
theorem dX6_seek_40 : decode cX6_seek 40 = .ok (.iload_n 2, 1) := by decide +kernel
theorem dX6_seek_41 : decode cX6_seek 41 = .ok (.iconst 0, 1) := by decide +kernel
theorem dX6_seek_42 : decode cX6_seek 42 = .ok (.invokevirtual 59, 3) := by decide +kernel
theorem dX6_seek_45 : decode cX6_seek 45 = .ok (.goto 41, 3) := by decide +kernel
theorem dX6_seek_48 : decode cX6_seek 48 = .ok (.iload_n 1, 1) := by decide +kernel
theorem dX6_seek_49 : decode cX6_seek 49 = .ok (.iconst 1, 1) := by decide +kernel
theorem dX6_seek_50 : decode cX6_seek 50 = .ok (.if_icmp .ne 12, 3) := by decide +kernel
theorem dX6_seek_53 : decode cX6_seek 53 = .ok (.aload_n 0, 1) := by decide +kernel
theorem dX6_seek_54 : decode cX6_seek 54 = .ok (.iload_n 2, 1) := by decide +kernel
theorem dX6_seek_55 : decode cX6_seek 55 = .ok (.iconst 1, 1) := by decide +kernel
theorem dX6_seek_56 : decode cX6_seek 56 = .ok (.invokevirtual 59, 3) := by decide +kernel
theorem dX6_seek_59 : decode cX6_seek 59 = .ok (.goto 27, 3) := by decide +kernel
theorem dX6_seek_62 : decode cX6_seek 62 = .ok (.iload_n 1, 1) := by decide +kernel
theorem dX6_seek_63 : decode cX6_seek 63 = .ok (.iconst 2, 1) := by decide +kernel
theorem dX6_seek_64 : decode cX6_seek 64 = .ok (.if_icmp .ne 14, 3) := by decide +kernel
theorem dX6_seek_67 : decode cX6_seek 67 = .ok (.aload_n 0, 1) := by decide +kernel
theorem dX6_seek_68 : decode cX6_seek 68 = .ok (.iload_n 2, 1) := by decide +kernel
theorem dX6_seek_69 : decode cX6_seek 69 = .ok (.iconst 1, 1) := by decide +kernel
theorem dX6_seek_70 : decode cX6_seek 70 = .ok (.invokevirtual 59, 3) := by decide +kernel
theorem dX6_seek_73 : decode cX6_seek 73 = .ok (.iconst 1, 1) := by decide +kernel
theorem dX6_seek_74 : decode cX6_seek 74 = .ok (.isub, 1) := by decide +kernel
theorem dX6_seek_75 : decode cX6_seek 75 = .ok (.goto 11, 3) := by decide +kernel
theorem dX6_seek_78 : decode cX6_seek 78 = .ok (.aload_n 0, 1) := by decide +kernel
theorem dX6_seek_79 : decode cX6_seek 79 = .ok (.iload_n 2, 1) := by decide +kernel
theorem dX6_seek_80 : decode cX6_seek 80 = .ok (.iconst 0, 1) := by decide +kernel
theorem dX6_seek_81 : decode cX6_seek 81 = .ok (.invokevirtual 59, 3) := by decide +kernel
theorem dX6_seek_84 : decode cX6_seek 84 = .ok (.iconst 1, 1) := by decide +kernel
theorem dX6_seek_85 : decode cX6_seek 85 = .ok (.isub, 1) := by decide +kernel
theorem dX6_seek_86 : decode cX6_seek 86 = .ok (.istore_n 3, 1) := by decide +kernel
theorem dX6_seek_87 : decode cX6_seek 87 = .ok (.iload_n 3, 1) := by decide +kernel
theorem dX6_seek_88 : decode cX6_seek 88 = .ok (.iconst 0, 1) := by decide +kernel
theorem dX6_seek_89 : decode cX6_seek 89 = .ok (.aload_n 0, 1) := by decide +kernel
theorem dX6_seek_90 : decode cX6_seek 90 = .ok (.getfield 52, 3) := by decide +kernel
theorem dX6_seek_93 : decode cX6_seek 93 = .ok (.iconst 1, 1) := by decide +kernel
theorem dX6_seek_94 : decode cX6_seek 94 = .ok (.isub, 1) := by decide +kernel
theorem dX6_seek_95 : decode cX6_seek 95 = .ok (.invokestatic 39, 3) := by decide +kernel
theorem dX6_seek_98 : decode cX6_seek 98 = .ok (.ifCond .eq 12, 3) := by decide +kernel
theorem dX6_seek_101 : decode cX6_seek 101 = .ok (.aload_n 0, 1) := by decide +kernel
theorem dX6_seek_102 : decode cX6_seek 102 = .ok (.iload_n 3, 1) := by decide +kernel
theorem dX6_seek_103 : decode cX6_seek 103 = .ok (.iconst 0, 1) := by decide +kernel
theorem dX6_seek_104 : decode cX6_seek 104 = .ok (.invokevirtual 97, 3) := by decide +kernel
theorem dX6_seek_107 : decode cX6_seek 107 = .ok (.goto 8, 3) := by decide +kernel
theorem dX6_seek_110 : decode cX6_seek 110 = .ok (.aload_n 0, 1) := by decide +kernel
theorem dX6_seek_111 : decode cX6_seek 111 = .ok (.iconst 2, 1) := by decide +kernel
theorem dX6_seek_112 : decode cX6_seek 112 = .ok (.invokevirtual 43, 3) := by decide +kernel
theorem dX6_seek_115 : decode cX6_seek 115 = .ok (.ireturn, 1) := by decide +kernel
theorem dX6_at_0 : decode cX6_at 0 = .ok (.aload_n 0, 1) := by decide +kernel
theorem dX6_at_1 : decode cX6_at 1 = .ok (.iconst 0, 1) := by decide +kernel
theorem dX6_at_2 : decode cX6_at 2 = .ok (.putfield 36, 3) := by decide +kernel
theorem dX6_at_5 : decode cX6_at 5 = .ok (.iload_n 1, 1) := by decide +kernel
theorem dX6_at_6 : decode cX6_at 6 = .ok (.iconst 0, 1) := by decide +kernel
theorem dX6_at_7 : decode cX6_at 7 = .ok (.aload_n 0, 1) := by decide +kernel
theorem dX6_at_8 : decode cX6_at 8 = .ok (.getfield 52, 3) := by decide +kernel
theorem dX6_at_11 : decode cX6_at 11 = .ok (.iconst 1, 1) := by decide +kernel
theorem dX6_at_12 : decode cX6_at 12 = .ok (.isub, 1) := by decide +kernel
theorem dX6_at_13 : decode cX6_at 13 = .ok (.invokestatic 39, 3) := by decide +kernel
theorem dX6_at_16 : decode cX6_at 16 = .ok (.ifCond .eq 12, 3) := by decide +kernel
theorem dX6_at_19 : decode cX6_at 19 = .ok (.aload_n 0, 1) := by decide +kernel
theorem dX6_at_20 : decode cX6_at 20 = .ok (.iload_n 1, 1) := by decide +kernel
theorem dX6_at_21 : decode cX6_at 21 = .ok (.iconst 0, 1) := by decide +kernel
theorem dX6_at_22 : decode cX6_at 22 = .ok (.invokevirtual 97, 3) := by decide +kernel
theorem dX6_at_25 : decode cX6_at 25 = .ok (.goto 8, 3) := by decide +kernel
theorem dX6_at_28 : decode cX6_at 28 = .ok (.aload_n 0, 1) := by decide +kernel
theorem dX6_at_29 : decode cX6_at 29 = .ok (.iconst 1, 1) := by decide +kernel
theorem dX6_at_30 : decode cX6_at 30 = .ok (.invokevirtual 43, 3) := by decide +kernel
theorem dX6_at_33 : decode cX6_at 33 = .ok (.ireturn, 1) := by decide +kernel
theorem dX6_step_0 : decode cX6_step 0 = .ok (.aload_n 0, 1) := by decide +kernel
theorem dX6_step_1 : decode cX6_step 1 = .ok (.iconst 0, 1) := by decide +kernel
theorem dX6_step_2 : decode cX6_step 2 = .ok (.putfield 36, 3) := by decide +kernel
theorem dX6_step_5 : decode cX6_step 5 = .ok (.aload_n 0, 1) := by decide +kernel
theorem dX6_step_6 : decode cX6_step 6 = .ok (.getfield 26, 3) := by decide +kernel
theorem dX6_step_9 : decode cX6_step 9 = .ok (.ifCond .ge 17, 3) := by decide +kernel
theorem dX6_step_12 : decode cX6_step 12 = .ok (.aload_n 0, 1) := by decide +kernel
theorem dX6_step_13 : decode cX6_step 13 = .ok (.iconst 1, 1) := by decide +kernel
theorem dX6_step_14 : decode cX6_step 14 = .ok (.invokevirtual 43, 3) := by decide +kernel
theorem dX6_step_17 : decode cX6_step 17 = .ok (.ifCond .le 7, 3) := by decide +kernel
theorem dX6_step_20 : decode cX6_step 20 = .ok (.iconst 1, 1) := by decide +kernel
theorem dX6_step_21 : decode cX6_step 21 = .ok (.goto 4, 3) := by decide +kernel
theorem dX6_step_24 : decode cX6_step 24 = .ok (.iconst 0, 1) := by decide +kernel
theorem dX6_step_25 : decode cX6_step 25 = .ok (.ireturn, 1) := by decide +kernel
theorem dX6_step_26 : decode cX6_step 26 = .ok (.iload_n 1, 1) := by decide +kernel
theorem dX6_step_27 : decode cX6_step 27 = .ok (.ifCond .eq 12, 3) := by decide +kernel
theorem dX6_step_30 : decode cX6_step 30 = .ok (.aload_n 0, 1) := by decide +kernel
theorem dX6_step_31 : decode cX6_step 31 = .ok (.getfield 26, 3) := by decide +kernel
theorem dX6_step_34 : decode cX6_step 34 = .ok (.iconst 1, 1) := by decide +kernel
theorem dX6_step_35 : decode cX6_step 35 = .ok (.isub, 1) := by decide +kernel
theorem dX6_step_36 : decode cX6_step 36 = .ok (.goto 9, 3) := by decide +kernel
theorem dX6_step_39 : decode cX6_step 39 = .ok (.aload_n 0, 1) := by decide +kernel
theorem dX6_step_40 : decode cX6_step 40 = .ok (.getfield 26, 3) := by decide +kernel
theorem dX6_step_43 : decode cX6_step 43 = .ok (.iconst 1, 1) := by decide +kernel
theorem dX6_step_44 : decode cX6_step 44 = .ok (.iadd, 1) := by decide +kernel
theorem dX6_step_45 : decode cX6_step 45 = .ok (.istore_n 2, 1) := by decide +kernel
theorem dX6_step_46 : decode cX6_step 46 = .ok (.iload_n 2, 1) := by decide +kernel
theorem dX6_step_47 : decode cX6_step 47 = .ok (.iconst 0, 1) := by decide +kernel
theorem dX6_step_48 : decode cX6_step 48 = .ok (.aload_n 0, 1) := by decide +kernel
theorem dX6_step_49 : decode cX6_step 49 = .ok (.getfield 52, 3) := by decide +kernel
theorem dX6_step_52 : decode cX6_step 52 = .ok (.iconst 1, 1) := by decide +kernel
theorem dX6_step_53 : decode cX6_step 53 = .ok (.isub, 1) := by decide +kernel
theorem dX6_step_54 : decode cX6_step 54 = .ok (.invokestatic 39, 3) := by decide +kernel
theorem dX6_step_57 : decode cX6_step 57 = .ok (.ifCond .ne 5, 3) := by decide +kernel
theorem dX6_step_60 : decode cX6_step 60 = .ok (.iconst 0, 1) := by decide +kernel
theorem dX6_step_61 : decode cX6_step 61 = .ok (.ireturn, 1) := by decide +kernel
theorem dX6_step_62 : decode cX6_step 62 = .ok (.aload_n 0, 1) := by decide +kernel
theorem dX6_step_63 : decode cX6_step 63 = .ok (.iload_n 2, 1) := by decide +kernel
theorem dX6_step_64 : decode cX6_step 64 = .ok (.iconst 0, 1) := by decide +kernel
theorem dX6_step_65 : decode cX6_step 65 = .ok (.invokevirtual 97, 3) := by decide +kernel
theorem dX6_step_68 : decode cX6_step 68 = .ok (.pop, 1) := by decide +kernel
theorem dX6_step_69 : decode cX6_step 69 = .ok (.iconst 1, 1) := by decide +kernel
theorem dX6_step_70 : decode cX6_step 70 = .ok (.ireturn, 1) := by decide +kernel
theorem dX6_value_0 : decode cX6_value 0 = .ok (.aload_n 0, 1) := by decide +kernel
theorem dX6_value_1 : decode cX6_value 1 = .ok (.iconst 0, 1) := by decide +kernel
theorem dX6_value_2 : decode cX6_value 2 = .ok (.putfield 36, 3) := by decide +kernel
theorem dX6_value_5 : decode cX6_value 5 = .ok (.aload_n 0, 1) := by decide +kernel
theorem dX6_value_6 : decode cX6_value 6 = .ok (.getfield 26, 3) := by decide +kernel
theorem dX6_value_9 : decode cX6_value 9 = .ok (.ifCond .ge 11, 3) := by decide +kernel
theorem dX6_value_12 : decode cX6_value 12 = .ok (.aload_n 0, 1) := by decide +kernel
theorem dX6_value_13 : decode cX6_value 13 = .ok (.iconst 1, 1) := by decide +kernel
theorem dX6_value_14 : decode cX6_value 14 = .ok (.invokevirtual 43, 3) := by decide +kernel
theorem dX6_value_17 : decode cX6_value 17 = .ok (.goto 12, 3) := by decide +kernel
theorem dX6_value_20 : decode cX6_value 20 = .ok (.aload_n 0, 1) := by decide +kernel
theorem dX6_value_21 : decode cX6_value 21 = .ok (.aload_n 0, 1) := by decide +kernel
theorem dX6_value_22 : decode cX6_value 22 = .ok (.getfield 26, 3) := by decide +kernel
theorem dX6_value_25 : decode cX6_value 25 = .ok (.iconst 1, 1) := by decide +kernel
theorem dX6_value_26 : decode cX6_value 26 = .ok (.invokevirtual 97, 3) := by decide +kernel
theorem dX6_value_29 : decode cX6_value 29 = .ok (.ireturn, 1) := by decide +kernel
theorem dX6_place_0 : decode cX6_place 0 = .ok (.aload_n 0, 1) := by decide +kernel
theorem dX6_place_1 : decode cX6_place 1 = .ok (.iconst 0, 1) := by decide +kernel
theorem dX6_place_2 : decode cX6_place 2 = .ok (.putfield 36, 3) := by decide +kernel
theorem dX6_place_5 : decode cX6_place 5 = .ok (.aload_n 0, 1) := by decide +kernel
theorem dX6_place_6 : decode cX6_place 6 = .ok (.getfield 26, 3) := by decide +kernel
theorem dX6_place_9 : decode cX6_place 9 = .ok (.ifCond .ge 11, 3) := by decide +kernel
theorem dX6_place_12 : decode cX6_place 12 = .ok (.aload_n 0, 1) := by decide +kernel
theorem dX6_place_13 : decode cX6_place 13 = .ok (.iconst 1, 1) := by decide +kernel
theorem dX6_place_14 : decode cX6_place 14 = .ok (.invokevirtual 43, 3) := by decide +kernel
theorem dX6_place_17 : decode cX6_place 17 = .ok (.goto 7, 3) := by decide +kernel
theorem dX6_place_20 : decode cX6_place 20 = .ok (.aload_n 0, 1) := by decide +kernel
theorem dX6_place_21 : decode cX6_place 21 = .ok (.getfield 26, 3) := by decide +kernel
theorem dX6_place_24 : decode cX6_place 24 = .ok (.ireturn, 1) := by decide +kernel
theorem dX6_range_0 : decode cX6_range 0 = .ok (.aload_n 0, 1) := by decide +kernel
theorem dX6_range_1 : decode cX6_range 1 = .ok (.iconst 0, 1) := by decide +kernel
theorem dX6_range_2 : decode cX6_range 2 = .ok (.putfield 36, 3) := by decide +kernel
theorem dX6_range_5 : decode cX6_range 5 = .ok (.aload_n 0, 1) := by decide +kernel
theorem dX6_range_6 : decode cX6_range 6 = .ok (.invokevirtual 76, 3) := by decide +kernel
theorem dX6_range_9 : decode cX6_range 9 = .ok (.istore_n 1, 1) := by decide +kernel
theorem dX6_range_10 : decode cX6_range 10 = .ok (.iload_n 1, 1) := by decide +kernel
theorem dX6_range_11 : decode cX6_range 11 = .ok (.bipush 64, 2) := by decide +kernel
theorem dX6_range_13 : decode cX6_range 13 = .ok (.if_icmp .le 9, 3) := by decide +kernel
theorem dX6_range_16 : decode cX6_range 16 = .ok (.aload_n 0, 1) := by decide +kernel
theorem dX6_range_17 : decode cX6_range 17 = .ok (.iconst 1, 1) := by decide +kernel
theorem dX6_range_18 : decode cX6_range 18 = .ok (.invokevirtual 43, 3) := by decide +kernel
theorem dX6_range_21 : decode cX6_range 21 = .ok (.ireturn, 1) := by decide +kernel
theorem dX6_range_22 : decode cX6_range 22 = .ok (.aload_n 0, 1) := by decide +kernel
theorem dX6_range_23 : decode cX6_range 23 = .ok (.getfield 26, 3) := by decide +kernel
theorem dX6_range_26 : decode cX6_range 26 = .ok (.ifCond .ge 9, 3) := by decide +kernel
theorem dX6_range_29 : decode cX6_range 29 = .ok (.aload_n 0, 1) := by decide +kernel
theorem dX6_range_30 : decode cX6_range 30 = .ok (.iconst 2, 1) := by decide +kernel
theorem dX6_range_31 : decode cX6_range 31 = .ok (.invokevirtual 43, 3) := by decide +kernel
theorem dX6_range_34 : decode cX6_range 34 = .ok (.ireturn, 1) := by decide +kernel
theorem dX6_range_35 : decode cX6_range 35 = .ok (.iload_n 1, 1) := by decide +kernel
theorem dX6_range_36 : decode cX6_range 36 = .ok (.ifCond .ne 10, 3) := by decide +kernel
theorem dX6_range_39 : decode cX6_range 39 = .ok (.aload_n 0, 1) := by decide +kernel
theorem dX6_range_40 : decode cX6_range 40 = .ok (.getfield 52, 3) := by decide +kernel
theorem dX6_range_43 : decode cX6_range 43 = .ok (.goto 9, 3) := by decide +kernel
theorem dX6_range_46 : decode cX6_range 46 = .ok (.aload_n 0, 1) := by decide +kernel
theorem dX6_range_47 : decode cX6_range 47 = .ok (.iload_n 1, 1) := by decide +kernel
theorem dX6_range_48 : decode cX6_range 48 = .ok (.iconst 0, 1) := by decide +kernel
theorem dX6_range_49 : decode cX6_range 49 = .ok (.invokevirtual 59, 3) := by decide +kernel
theorem dX6_range_52 : decode cX6_range 52 = .ok (.istore_n 2, 1) := by decide +kernel
theorem dX6_range_53 : decode cX6_range 53 = .ok (.iload_n 2, 1) := by decide +kernel
theorem dX6_range_54 : decode cX6_range 54 = .ok (.aload_n 0, 1) := by decide +kernel
theorem dX6_range_55 : decode cX6_range 55 = .ok (.getfield 26, 3) := by decide +kernel
theorem dX6_range_58 : decode cX6_range 58 = .ok (.if_icmp .le 12, 3) := by decide +kernel
theorem dX6_range_61 : decode cX6_range 61 = .ok (.iload_n 2, 1) := by decide +kernel
theorem dX6_range_62 : decode cX6_range 62 = .ok (.aload_n 0, 1) := by decide +kernel
theorem dX6_range_63 : decode cX6_range 63 = .ok (.getfield 26, 3) := by decide +kernel
theorem dX6_range_66 : decode cX6_range 66 = .ok (.isub, 1) := by decide +kernel
theorem dX6_range_67 : decode cX6_range 67 = .ok (.goto 4, 3) := by decide +kernel
theorem dX6_range_70 : decode cX6_range 70 = .ok (.iconst 0, 1) := by decide +kernel
theorem dX6_range_71 : decode cX6_range 71 = .ok (.ireturn, 1) := by decide +kernel
theorem dX6_removeFrom_0 : decode cX6_removeFrom 0 = .ok (.aload_n 0, 1) := by decide +kernel
theorem dX6_removeFrom_1 : decode cX6_removeFrom 1 = .ok (.iconst 0, 1) := by decide +kernel
theorem dX6_removeFrom_2 : decode cX6_removeFrom 2 = .ok (.putfield 36, 3) := by decide +kernel
theorem dX6_removeFrom_5 : decode cX6_removeFrom 5 = .ok (.iload_n 1, 1) := by decide +kernel
theorem dX6_removeFrom_6 : decode cX6_removeFrom 6 = .ok (.ifCond .ge 9, 3) := by decide +kernel
theorem dX6_removeFrom_9 : decode cX6_removeFrom 9 = .ok (.aload_n 0, 1) := by decide +kernel
theorem dX6_removeFrom_10 : decode cX6_removeFrom 10 = .ok (.iconst 1, 1) := by decide +kernel
theorem dX6_removeFrom_11 : decode cX6_removeFrom 11 = .ok (.invokevirtual 43, 3) := by decide +kernel
theorem dX6_removeFrom_14 : decode cX6_removeFrom 14 = .ok (.ireturn, 1) := by decide +kernel
theorem dX6_removeFrom_15 : decode cX6_removeFrom 15 = .ok (.aload_n 0, 1) := by decide +kernel
theorem dX6_removeFrom_16 : decode cX6_removeFrom 16 = .ok (.getfield 26, 3) := by decide +kernel
theorem dX6_removeFrom_19 : decode cX6_removeFrom 19 = .ok (.ifCond .ge 9, 3) := by decide +kernel
theorem dX6_removeFrom_22 : decode cX6_removeFrom 22 = .ok (.aload_n 0, 1) := by decide +kernel
theorem dX6_removeFrom_23 : decode cX6_removeFrom 23 = .ok (.iconst 2, 1) := by decide +kernel
theorem dX6_removeFrom_24 : decode cX6_removeFrom 24 = .ok (.invokevirtual 43, 3) := by decide +kernel
theorem dX6_removeFrom_27 : decode cX6_removeFrom 27 = .ok (.ireturn, 1) := by decide +kernel
theorem dX6_removeFrom_28 : decode cX6_removeFrom 28 = .ok (.aload_n 0, 1) := by decide +kernel
theorem dX6_removeFrom_29 : decode cX6_removeFrom 29 = .ok (.getfield 26, 3) := by decide +kernel
theorem dX6_removeFrom_32 : decode cX6_removeFrom 32 = .ok (.istore_n 2, 1) := by decide +kernel
theorem dX6_removeFrom_33 : decode cX6_removeFrom 33 = .ok (.iconst 0, 1) := by decide +kernel
theorem dX6_removeFrom_34 : decode cX6_removeFrom 34 = .ok (.istore_n 3, 1) := by decide +kernel
theorem dX6_removeFrom_35 : decode cX6_removeFrom 35 = .ok (.iload_n 2, 1) := by decide +kernel
theorem dX6_removeFrom_36 : decode cX6_removeFrom 36 = .ok (.aload_n 0, 1) := by decide +kernel
theorem dX6_removeFrom_37 : decode cX6_removeFrom 37 = .ok (.getfield 52, 3) := by decide +kernel
theorem dX6_removeFrom_40 : decode cX6_removeFrom 40 = .ok (.if_icmp .ge 19, 3) := by decide +kernel
theorem dX6_removeFrom_43 : decode cX6_removeFrom 43 = .ok (.iload_n 3, 1) := by decide +kernel
theorem dX6_removeFrom_44 : decode cX6_removeFrom 44 = .ok (.iload_n 1, 1) := by decide +kernel
theorem dX6_removeFrom_45 : decode cX6_removeFrom 45 = .ok (.if_icmp .gt 14, 3) := by decide +kernel
theorem dX6_removeFrom_48 : decode cX6_removeFrom 48 = .ok (.aload_n 0, 1) := by decide +kernel
theorem dX6_removeFrom_49 : decode cX6_removeFrom 49 = .ok (.iload_n 2, 1) := by decide +kernel
theorem dX6_removeFrom_50 : decode cX6_removeFrom 50 = .ok (.invokevirtual 86, 3) := by decide +kernel
theorem dX6_removeFrom_53 : decode cX6_removeFrom 53 = .ok (.iinc 3 1, 3) := by decide +kernel
theorem dX6_removeFrom_56 : decode cX6_removeFrom 56 = .ok (.goto (-21), 3) := by decide +kernel
theorem dX6_removeFrom_59 : decode cX6_removeFrom 59 = .ok (.iload_n 3, 1) := by decide +kernel
theorem dX6_removeFrom_60 : decode cX6_removeFrom 60 = .ok (.ireturn, 1) := by decide +kernel
theorem dX6_clear_0 : decode cX6_clear 0 = .ok (.aload_n 0, 1) := by decide +kernel
theorem dX6_clear_1 : decode cX6_clear 1 = .ok (.iconst 0, 1) := by decide +kernel
theorem dX6_clear_2 : decode cX6_clear 2 = .ok (.putfield 36, 3) := by decide +kernel
theorem dX6_clear_5 : decode cX6_clear 5 = .ok (.aload_n 0, 1) := by decide +kernel
theorem dX6_clear_6 : decode cX6_clear 6 = .ok (.getfield 52, 3) := by decide +kernel
theorem dX6_clear_9 : decode cX6_clear 9 = .ok (.istore_n 1, 1) := by decide +kernel
theorem dX6_clear_10 : decode cX6_clear 10 = .ok (.aload_n 0, 1) := by decide +kernel
theorem dX6_clear_11 : decode cX6_clear 11 = .ok (.iconst 0, 1) := by decide +kernel
theorem dX6_clear_12 : decode cX6_clear 12 = .ok (.putfield 52, 3) := by decide +kernel
theorem dX6_clear_15 : decode cX6_clear 15 = .ok (.aload_n 0, 1) := by decide +kernel
theorem dX6_clear_16 : decode cX6_clear 16 = .ok (.iconst 0, 1) := by decide +kernel
theorem dX6_clear_17 : decode cX6_clear 17 = .ok (.putfield 69, 3) := by decide +kernel
theorem dX6_clear_20 : decode cX6_clear 20 = .ok (.aload_n 0, 1) := by decide +kernel
theorem dX6_clear_21 : decode cX6_clear 21 = .ok (.iconst (-1), 1) := by decide +kernel
theorem dX6_clear_22 : decode cX6_clear 22 = .ok (.putfield 26, 3) := by decide +kernel
theorem dX6_clear_25 : decode cX6_clear 25 = .ok (.iload_n 1, 1) := by decide +kernel
theorem dX6_clear_26 : decode cX6_clear 26 = .ok (.ireturn, 1) := by decide +kernel
theorem dX6_byteAt_0 : decode cX6_byteAt 0 = .ok (.aload_n 0, 1) := by decide +kernel
theorem dX6_byteAt_1 : decode cX6_byteAt 1 = .ok (.iconst 0, 1) := by decide +kernel
theorem dX6_byteAt_2 : decode cX6_byteAt 2 = .ok (.putfield 36, 3) := by decide +kernel
theorem dX6_byteAt_5 : decode cX6_byteAt 5 = .ok (.iload_n 1, 1) := by decide +kernel
theorem dX6_byteAt_6 : decode cX6_byteAt 6 = .ok (.iconst 0, 1) := by decide +kernel
theorem dX6_byteAt_7 : decode cX6_byteAt 7 = .ok (.aload_n 0, 1) := by decide +kernel
theorem dX6_byteAt_8 : decode cX6_byteAt 8 = .ok (.getfield 94, 3) := by decide +kernel
theorem dX6_byteAt_11 : decode cX6_byteAt 11 = .ok (.iconst 1, 1) := by decide +kernel
theorem dX6_byteAt_12 : decode cX6_byteAt 12 = .ok (.isub, 1) := by decide +kernel
theorem dX6_byteAt_13 : decode cX6_byteAt 13 = .ok (.invokestatic 39, 3) := by decide +kernel
theorem dX6_byteAt_16 : decode cX6_byteAt 16 = .ok (.ifCond .eq 12, 3) := by decide +kernel
theorem dX6_byteAt_19 : decode cX6_byteAt 19 = .ok (.aload_n 0, 1) := by decide +kernel
theorem dX6_byteAt_20 : decode cX6_byteAt 20 = .ok (.getfield 13, 3) := by decide +kernel
theorem dX6_byteAt_23 : decode cX6_byteAt 23 = .ok (.iload_n 1, 1) := by decide +kernel
theorem dX6_byteAt_24 : decode cX6_byteAt 24 = .ok (.iaload, 1) := by decide +kernel
theorem dX6_byteAt_25 : decode cX6_byteAt 25 = .ok (.goto 8, 3) := by decide +kernel
theorem dX6_byteAt_28 : decode cX6_byteAt 28 = .ok (.aload_n 0, 1) := by decide +kernel
theorem dX6_byteAt_29 : decode cX6_byteAt 29 = .ok (.iconst 1, 1) := by decide +kernel
theorem dX6_byteAt_30 : decode cX6_byteAt 30 = .ok (.invokevirtual 43, 3) := by decide +kernel
theorem dX6_byteAt_33 : decode cX6_byteAt 33 = .ok (.ireturn, 1) := by decide +kernel
theorem dX6_count_0 : decode cX6_count 0 = .ok (.aload_n 0, 1) := by decide +kernel
theorem dX6_count_1 : decode cX6_count 1 = .ok (.iconst 0, 1) := by decide +kernel
theorem dX6_count_2 : decode cX6_count 2 = .ok (.putfield 36, 3) := by decide +kernel
theorem dX6_count_5 : decode cX6_count 5 = .ok (.iload_n 1, 1) := by decide +kernel
theorem dX6_count_6 : decode cX6_count 6 = .ok (.iconst 0, 1) := by decide +kernel
theorem dX6_count_7 : decode cX6_count 7 = .ok (.iconst 5, 1) := by decide +kernel
theorem dX6_count_8 : decode cX6_count 8 = .ok (.invokestatic 39, 3) := by decide +kernel
theorem dX6_count_11 : decode cX6_count 11 = .ok (.ifCond .ne 5, 3) := by decide +kernel
theorem dX6_count_14 : decode cX6_count 14 = .ok (.iconst (-1), 1) := by decide +kernel
theorem dX6_count_15 : decode cX6_count 15 = .ok (.ireturn, 1) := by decide +kernel
theorem dX6_count_16 : decode cX6_count 16 = .ok (.iload_n 1, 1) := by decide +kernel
theorem dX6_count_17 : decode cX6_count 17 = .ok (.ifCond .ne 8, 3) := by decide +kernel
theorem dX6_count_20 : decode cX6_count 20 = .ok (.aload_n 0, 1) := by decide +kernel
theorem dX6_count_21 : decode cX6_count 21 = .ok (.getfield 52, 3) := by decide +kernel
theorem dX6_count_24 : decode cX6_count 24 = .ok (.ireturn, 1) := by decide +kernel
theorem dX6_count_25 : decode cX6_count 25 = .ok (.iload_n 1, 1) := by decide +kernel
theorem dX6_count_26 : decode cX6_count 26 = .ok (.iconst 1, 1) := by decide +kernel
theorem dX6_count_27 : decode cX6_count 27 = .ok (.if_icmp .ne 8, 3) := by decide +kernel
theorem dX6_count_30 : decode cX6_count 30 = .ok (.aload_n 0, 1) := by decide +kernel
theorem dX6_count_31 : decode cX6_count 31 = .ok (.invokevirtual 83, 3) := by decide +kernel
theorem dX6_count_34 : decode cX6_count 34 = .ok (.ireturn, 1) := by decide +kernel
theorem dX6_count_35 : decode cX6_count 35 = .ok (.iload_n 1, 1) := by decide +kernel
theorem dX6_count_36 : decode cX6_count 36 = .ok (.iconst 3, 1) := by decide +kernel
theorem dX6_count_37 : decode cX6_count 37 = .ok (.if_icmp .le 20, 3) := by decide +kernel
theorem dX6_count_40 : decode cX6_count 40 = .ok (.iload_n 1, 1) := by decide +kernel
theorem dX6_count_41 : decode cX6_count 41 = .ok (.iconst 4, 1) := by decide +kernel
theorem dX6_count_42 : decode cX6_count 42 = .ok (.if_icmp .ne 10, 3) := by decide +kernel
theorem dX6_count_45 : decode cX6_count 45 = .ok (.aload_n 0, 1) := by decide +kernel
theorem dX6_count_46 : decode cX6_count 46 = .ok (.getfield 47, 3) := by decide +kernel
theorem dX6_count_49 : decode cX6_count 49 = .ok (.goto 7, 3) := by decide +kernel
theorem dX6_count_52 : decode cX6_count 52 = .ok (.aload_n 0, 1) := by decide +kernel
theorem dX6_count_53 : decode cX6_count 53 = .ok (.getfield 94, 3) := by decide +kernel
theorem dX6_count_56 : decode cX6_count 56 = .ok (.ireturn, 1) := by decide +kernel
theorem dX6_count_57 : decode cX6_count 57 = .ok (.iconst 0, 1) := by decide +kernel
theorem dX6_count_58 : decode cX6_count 58 = .ok (.istore_n 2, 1) := by decide +kernel
theorem dX6_count_59 : decode cX6_count 59 = .ok (.iconst 0, 1) := by decide +kernel
theorem dX6_count_60 : decode cX6_count 60 = .ok (.istore_n 3, 1) := by decide +kernel
theorem dX6_count_61 : decode cX6_count 61 = .ok (.iload_n 3, 1) := by decide +kernel
theorem dX6_count_62 : decode cX6_count 62 = .ok (.aload_n 0, 1) := by decide +kernel
theorem dX6_count_63 : decode cX6_count 63 = .ok (.getfield 52, 3) := by decide +kernel
theorem dX6_count_66 : decode cX6_count 66 = .ok (.if_icmp .ge 32, 3) := by decide +kernel
theorem dX6_count_69 : decode cX6_count 69 = .ok (.iload_n 2, 1) := by decide +kernel
theorem dX6_count_70 : decode cX6_count 70 = .ok (.iload_n 1, 1) := by decide +kernel
theorem dX6_count_71 : decode cX6_count 71 = .ok (.iconst 2, 1) := by decide +kernel
theorem dX6_count_72 : decode cX6_count 72 = .ok (.if_icmp .ne 12, 3) := by decide +kernel
theorem dX6_count_75 : decode cX6_count 75 = .ok (.aload_n 0, 1) := by decide +kernel
theorem dX6_count_76 : decode cX6_count 76 = .ok (.getfield 20, 3) := by decide +kernel
theorem dX6_count_79 : decode cX6_count 79 = .ok (.iload_n 3, 1) := by decide +kernel
theorem dX6_count_80 : decode cX6_count 80 = .ok (.iaload, 1) := by decide +kernel
theorem dX6_count_81 : decode cX6_count 81 = .ok (.goto 9, 3) := by decide +kernel
theorem dX6_count_84 : decode cX6_count 84 = .ok (.aload_n 0, 1) := by decide +kernel
theorem dX6_count_85 : decode cX6_count 85 = .ok (.getfield 23, 3) := by decide +kernel
theorem dX6_count_88 : decode cX6_count 88 = .ok (.iload_n 3, 1) := by decide +kernel
theorem dX6_count_89 : decode cX6_count 89 = .ok (.iaload, 1) := by decide +kernel
theorem dX6_count_90 : decode cX6_count 90 = .ok (.iadd, 1) := by decide +kernel
theorem dX6_count_91 : decode cX6_count 91 = .ok (.istore_n 2, 1) := by decide +kernel
theorem dX6_count_92 : decode cX6_count 92 = .ok (.iinc 3 1, 3) := by decide +kernel
theorem dX6_count_95 : decode cX6_count 95 = .ok (.goto (-34), 3) := by decide +kernel
theorem dX6_count_98 : decode cX6_count 98 = .ok (.iload_n 2, 1) := by decide +kernel
theorem dX6_count_99 : decode cX6_count 99 = .ok (.ireturn, 1) := by decide +kernel
theorem dX6_sound_0 : decode cX6_sound 0 = .ok (.aload_n 0, 1) := by decide +kernel
theorem dX6_sound_1 : decode cX6_sound 1 = .ok (.iconst 0, 1) := by decide +kernel
theorem dX6_sound_2 : decode cX6_sound 2 = .ok (.putfield 36, 3) := by decide +kernel
theorem dX6_sound_5 : decode cX6_sound 5 = .ok (.iconst 1, 1) := by decide +kernel
theorem dX6_sound_6 : decode cX6_sound 6 = .ok (.ireturn, 1) := by decide +kernel
end
section
/-! decode rows, by program -/
theorem dJ6_numberOfLeadingZeros_0f7a4_0 : decode cJ6_numberOfLeadingZeros_0f7a4 0 = .ok (.iload_n 0, 1) := by decide +kernel
theorem dJ6_numberOfLeadingZeros_0f7a4_1 : decode cJ6_numberOfLeadingZeros_0f7a4 1 = .ok (.ifCond .gt 14, 3) := by decide +kernel
theorem dJ6_numberOfLeadingZeros_0f7a4_4 : decode cJ6_numberOfLeadingZeros_0f7a4 4 = .ok (.iload_n 0, 1) := by decide +kernel
theorem dJ6_numberOfLeadingZeros_0f7a4_5 : decode cJ6_numberOfLeadingZeros_0f7a4 5 = .ok (.ifCond .ne 8, 3) := by decide +kernel
theorem dJ6_numberOfLeadingZeros_0f7a4_8 : decode cJ6_numberOfLeadingZeros_0f7a4 8 = .ok (.bipush 32, 2) := by decide +kernel
theorem dJ6_numberOfLeadingZeros_0f7a4_10 : decode cJ6_numberOfLeadingZeros_0f7a4 10 = .ok (.goto 4, 3) := by decide +kernel
theorem dJ6_numberOfLeadingZeros_0f7a4_13 : decode cJ6_numberOfLeadingZeros_0f7a4 13 = .ok (.iconst 0, 1) := by decide +kernel
theorem dJ6_numberOfLeadingZeros_0f7a4_14 : decode cJ6_numberOfLeadingZeros_0f7a4 14 = .ok (.ireturn, 1) := by decide +kernel
theorem dJ6_numberOfLeadingZeros_0f7a4_15 : decode cJ6_numberOfLeadingZeros_0f7a4 15 = .ok (.bipush 31, 2) := by decide +kernel
theorem dJ6_numberOfLeadingZeros_0f7a4_17 : decode cJ6_numberOfLeadingZeros_0f7a4 17 = .ok (.istore_n 1, 1) := by decide +kernel
theorem dJ6_numberOfLeadingZeros_0f7a4_18 : decode cJ6_numberOfLeadingZeros_0f7a4 18 = .ok (.iload_n 0, 1) := by decide +kernel
theorem dJ6_numberOfLeadingZeros_0f7a4_19 : decode cJ6_numberOfLeadingZeros_0f7a4 19 = .ok (.ldc_w 264, 3) := by decide +kernel
theorem dJ6_numberOfLeadingZeros_0f7a4_22 : decode cJ6_numberOfLeadingZeros_0f7a4 22 = .ok (.if_icmp .lt 11, 3) := by decide +kernel
theorem dJ6_numberOfLeadingZeros_0f7a4_25 : decode cJ6_numberOfLeadingZeros_0f7a4 25 = .ok (.iinc 1 (-16), 3) := by decide +kernel
theorem dJ6_numberOfLeadingZeros_0f7a4_28 : decode cJ6_numberOfLeadingZeros_0f7a4 28 = .ok (.iload_n 0, 1) := by decide +kernel
theorem dJ6_numberOfLeadingZeros_0f7a4_29 : decode cJ6_numberOfLeadingZeros_0f7a4 29 = .ok (.bipush 16, 2) := by decide +kernel
theorem dJ6_numberOfLeadingZeros_0f7a4_31 : decode cJ6_numberOfLeadingZeros_0f7a4 31 = .ok (.iushr, 1) := by decide +kernel
theorem dJ6_numberOfLeadingZeros_0f7a4_32 : decode cJ6_numberOfLeadingZeros_0f7a4 32 = .ok (.istore_n 0, 1) := by decide +kernel
theorem dJ6_numberOfLeadingZeros_0f7a4_33 : decode cJ6_numberOfLeadingZeros_0f7a4 33 = .ok (.iload_n 0, 1) := by decide +kernel
theorem dJ6_numberOfLeadingZeros_0f7a4_34 : decode cJ6_numberOfLeadingZeros_0f7a4 34 = .ok (.sipush 256, 3) := by decide +kernel
theorem dJ6_numberOfLeadingZeros_0f7a4_37 : decode cJ6_numberOfLeadingZeros_0f7a4 37 = .ok (.if_icmp .lt 11, 3) := by decide +kernel
theorem dJ6_numberOfLeadingZeros_0f7a4_40 : decode cJ6_numberOfLeadingZeros_0f7a4 40 = .ok (.iinc 1 (-8), 3) := by decide +kernel
theorem dJ6_numberOfLeadingZeros_0f7a4_43 : decode cJ6_numberOfLeadingZeros_0f7a4 43 = .ok (.iload_n 0, 1) := by decide +kernel
theorem dJ6_numberOfLeadingZeros_0f7a4_44 : decode cJ6_numberOfLeadingZeros_0f7a4 44 = .ok (.bipush 8, 2) := by decide +kernel
theorem dJ6_numberOfLeadingZeros_0f7a4_46 : decode cJ6_numberOfLeadingZeros_0f7a4 46 = .ok (.iushr, 1) := by decide +kernel
theorem dJ6_numberOfLeadingZeros_0f7a4_47 : decode cJ6_numberOfLeadingZeros_0f7a4 47 = .ok (.istore_n 0, 1) := by decide +kernel
theorem dJ6_numberOfLeadingZeros_0f7a4_48 : decode cJ6_numberOfLeadingZeros_0f7a4 48 = .ok (.iload_n 0, 1) := by decide +kernel
theorem dJ6_numberOfLeadingZeros_0f7a4_49 : decode cJ6_numberOfLeadingZeros_0f7a4 49 = .ok (.bipush 16, 2) := by decide +kernel
theorem dJ6_numberOfLeadingZeros_0f7a4_51 : decode cJ6_numberOfLeadingZeros_0f7a4 51 = .ok (.if_icmp .lt 10, 3) := by decide +kernel
theorem dJ6_numberOfLeadingZeros_0f7a4_54 : decode cJ6_numberOfLeadingZeros_0f7a4 54 = .ok (.iinc 1 (-4), 3) := by decide +kernel
theorem dJ6_numberOfLeadingZeros_0f7a4_57 : decode cJ6_numberOfLeadingZeros_0f7a4 57 = .ok (.iload_n 0, 1) := by decide +kernel
theorem dJ6_numberOfLeadingZeros_0f7a4_58 : decode cJ6_numberOfLeadingZeros_0f7a4 58 = .ok (.iconst 4, 1) := by decide +kernel
theorem dJ6_numberOfLeadingZeros_0f7a4_59 : decode cJ6_numberOfLeadingZeros_0f7a4 59 = .ok (.iushr, 1) := by decide +kernel
theorem dJ6_numberOfLeadingZeros_0f7a4_60 : decode cJ6_numberOfLeadingZeros_0f7a4 60 = .ok (.istore_n 0, 1) := by decide +kernel
theorem dJ6_numberOfLeadingZeros_0f7a4_61 : decode cJ6_numberOfLeadingZeros_0f7a4 61 = .ok (.iload_n 0, 1) := by decide +kernel
theorem dJ6_numberOfLeadingZeros_0f7a4_62 : decode cJ6_numberOfLeadingZeros_0f7a4 62 = .ok (.iconst 4, 1) := by decide +kernel
theorem dJ6_numberOfLeadingZeros_0f7a4_63 : decode cJ6_numberOfLeadingZeros_0f7a4 63 = .ok (.if_icmp .lt 10, 3) := by decide +kernel
theorem dJ6_numberOfLeadingZeros_0f7a4_66 : decode cJ6_numberOfLeadingZeros_0f7a4 66 = .ok (.iinc 1 (-2), 3) := by decide +kernel
theorem dJ6_numberOfLeadingZeros_0f7a4_69 : decode cJ6_numberOfLeadingZeros_0f7a4 69 = .ok (.iload_n 0, 1) := by decide +kernel
theorem dJ6_numberOfLeadingZeros_0f7a4_70 : decode cJ6_numberOfLeadingZeros_0f7a4 70 = .ok (.iconst 2, 1) := by decide +kernel
theorem dJ6_numberOfLeadingZeros_0f7a4_71 : decode cJ6_numberOfLeadingZeros_0f7a4 71 = .ok (.iushr, 1) := by decide +kernel
theorem dJ6_numberOfLeadingZeros_0f7a4_72 : decode cJ6_numberOfLeadingZeros_0f7a4 72 = .ok (.istore_n 0, 1) := by decide +kernel
theorem dJ6_numberOfLeadingZeros_0f7a4_73 : decode cJ6_numberOfLeadingZeros_0f7a4 73 = .ok (.iload_n 1, 1) := by decide +kernel
theorem dJ6_numberOfLeadingZeros_0f7a4_74 : decode cJ6_numberOfLeadingZeros_0f7a4 74 = .ok (.iload_n 0, 1) := by decide +kernel
theorem dJ6_numberOfLeadingZeros_0f7a4_75 : decode cJ6_numberOfLeadingZeros_0f7a4 75 = .ok (.iconst 1, 1) := by decide +kernel
theorem dJ6_numberOfLeadingZeros_0f7a4_76 : decode cJ6_numberOfLeadingZeros_0f7a4 76 = .ok (.iushr, 1) := by decide +kernel
theorem dJ6_numberOfLeadingZeros_0f7a4_77 : decode cJ6_numberOfLeadingZeros_0f7a4 77 = .ok (.isub, 1) := by decide +kernel
theorem dJ6_numberOfLeadingZeros_0f7a4_78 : decode cJ6_numberOfLeadingZeros_0f7a4 78 = .ok (.ireturn, 1) := by decide +kernel
theorem dJ9_max_7cf53_0 : decode cJ9_max_7cf53 0 = .ok (.iload_n 0, 1) := by decide +kernel
theorem dJ9_max_7cf53_1 : decode cJ9_max_7cf53 1 = .ok (.iload_n 1, 1) := by decide +kernel
theorem dJ9_max_7cf53_2 : decode cJ9_max_7cf53 2 = .ok (.if_icmp .lt 7, 3) := by decide +kernel
theorem dJ9_max_7cf53_5 : decode cJ9_max_7cf53 5 = .ok (.iload_n 0, 1) := by decide +kernel
theorem dJ9_max_7cf53_6 : decode cJ9_max_7cf53 6 = .ok (.goto 4, 3) := by decide +kernel
theorem dJ9_max_7cf53_9 : decode cJ9_max_7cf53 9 = .ok (.iload_n 1, 1) := by decide +kernel
theorem dJ9_max_7cf53_10 : decode cJ9_max_7cf53 10 = .ok (.ireturn, 1) := by decide +kernel
theorem dJ9_min_7cf53_0 : decode cJ9_min_7cf53 0 = .ok (.iload_n 0, 1) := by decide +kernel
theorem dJ9_min_7cf53_1 : decode cJ9_min_7cf53 1 = .ok (.iload_n 1, 1) := by decide +kernel
theorem dJ9_min_7cf53_2 : decode cJ9_min_7cf53 2 = .ok (.if_icmp .gt 7, 3) := by decide +kernel
theorem dJ9_min_7cf53_5 : decode cJ9_min_7cf53 5 = .ok (.iload_n 0, 1) := by decide +kernel
theorem dJ9_min_7cf53_6 : decode cJ9_min_7cf53 6 = .ok (.goto 4, 3) := by decide +kernel
theorem dJ9_min_7cf53_9 : decode cJ9_min_7cf53 9 = .ok (.iload_n 1, 1) := by decide +kernel
theorem dJ9_min_7cf53_10 : decode cJ9_min_7cf53 10 = .ok (.ireturn, 1) := by decide +kernel
theorem dJ7_copyOf_9075b_0 : decode cJ7_copyOf_9075b 0 = .ok (.iload_n 1, 1) := by decide +kernel
theorem dJ7_copyOf_9075b_1 : decode cJ7_copyOf_9075b 1 = .ok (.aload_n 0, 1) := by decide +kernel
theorem dJ7_copyOf_9075b_2 : decode cJ7_copyOf_9075b 2 = .ok (.arraylength, 1) := by decide +kernel
theorem dJ7_copyOf_9075b_3 : decode cJ7_copyOf_9075b 3 = .ok (.if_icmp .ne 11, 3) := by decide +kernel
theorem dJ7_copyOf_9075b_6 : decode cJ7_copyOf_9075b 6 = .ok (.aload_n 0, 1) := by decide +kernel
theorem dJ7_copyOf_9075b_7 : decode cJ7_copyOf_9075b 7 = .ok (.invokevirtual 310, 3) := by decide +kernel
theorem dJ7_copyOf_9075b_10 : decode cJ7_copyOf_9075b 10 = .ok (.checkcast 311, 3) := by decide +kernel
theorem dJ7_copyOf_9075b_13 : decode cJ7_copyOf_9075b 13 = .ok (.areturn, 1) := by decide +kernel
theorem dJ7_copyOf_9075b_14 : decode cJ7_copyOf_9075b 14 = .ok (.iload_n 1, 1) := by decide +kernel
theorem dJ7_copyOf_9075b_15 : decode cJ7_copyOf_9075b 15 = .ok (.newarray .byte, 2) := by decide +kernel
theorem dJ7_copyOf_9075b_17 : decode cJ7_copyOf_9075b 17 = .ok (.astore_n 2, 1) := by decide +kernel
theorem dJ7_copyOf_9075b_18 : decode cJ7_copyOf_9075b 18 = .ok (.aload_n 0, 1) := by decide +kernel
theorem dJ7_copyOf_9075b_19 : decode cJ7_copyOf_9075b 19 = .ok (.iconst 0, 1) := by decide +kernel
theorem dJ7_copyOf_9075b_20 : decode cJ7_copyOf_9075b 20 = .ok (.aload_n 2, 1) := by decide +kernel
theorem dJ7_copyOf_9075b_21 : decode cJ7_copyOf_9075b 21 = .ok (.iconst 0, 1) := by decide +kernel
theorem dJ7_copyOf_9075b_22 : decode cJ7_copyOf_9075b 22 = .ok (.aload_n 0, 1) := by decide +kernel
theorem dJ7_copyOf_9075b_23 : decode cJ7_copyOf_9075b 23 = .ok (.arraylength, 1) := by decide +kernel
theorem dJ7_copyOf_9075b_24 : decode cJ7_copyOf_9075b 24 = .ok (.iload_n 1, 1) := by decide +kernel
theorem dJ7_copyOf_9075b_25 : decode cJ7_copyOf_9075b 25 = .ok (.invokestatic 304, 3) := by decide +kernel
theorem dJ7_copyOf_9075b_28 : decode cJ7_copyOf_9075b 28 = .ok (.invokestatic 150, 3) := by decide +kernel
theorem dJ7_copyOf_9075b_31 : decode cJ7_copyOf_9075b 31 = .ok (.aload_n 2, 1) := by decide +kernel
theorem dJ7_copyOf_9075b_32 : decode cJ7_copyOf_9075b 32 = .ok (.areturn, 1) := by decide +kernel
end
section
/-! decode rows, by program -/
theorem dL_cell_0 : decode cL_cell 0 = .ok (.iload_n 1, 1) := by decide +kernel
theorem dL_cell_1 : decode cL_cell 1 = .ok (.aload_n 0, 1) := by decide +kernel
theorem dL_cell_2 : decode cL_cell 2 = .ok (.arraylength, 1) := by decide +kernel
theorem dL_cell_3 : decode cL_cell 3 = .ok (.if_icmp .ge 9, 3) := by decide +kernel
theorem dL_cell_6 : decode cL_cell 6 = .ok (.aload_n 0, 1) := by decide +kernel
theorem dL_cell_7 : decode cL_cell 7 = .ok (.iload_n 1, 1) := by decide +kernel
theorem dL_cell_8 : decode cL_cell 8 = .ok (.iaload, 1) := by decide +kernel
theorem dL_cell_9 : decode cL_cell 9 = .ok (.goto 4, 3) := by decide +kernel
theorem dL_cell_12 : decode cL_cell 12 = .ok (.iconst 0, 1) := by decide +kernel
theorem dL_cell_13 : decode cL_cell 13 = .ok (.ireturn, 1) := by decide +kernel
theorem dL_feed_0 : decode cL_feed 0 = .ok (.aload 4, 2) := by decide +kernel
theorem dL_feed_2 : decode cL_feed 2 = .ok (.iconst 0, 1) := by decide +kernel
theorem dL_feed_3 : decode cL_feed 3 = .ok (.aload_n 0, 1) := by decide +kernel
theorem dL_feed_4 : decode cL_feed 4 = .ok (.lload_n 1, 1) := by decide +kernel
theorem dL_feed_5 : decode cL_feed 5 = .ok (.iload_n 3, 1) := by decide +kernel
theorem dL_feed_6 : decode cL_feed 6 = .ok (.invokevirtual 7, 3) := by decide +kernel
theorem dL_feed_9 : decode cL_feed 9 = .ok (.i2l, 1) := by decide +kernel
theorem dL_feed_10 : decode cL_feed 10 = .ok (.lastore, 1) := by decide +kernel
theorem dL_feed_11 : decode cL_feed 11 = .ok (.goto 11, 3) := by decide +kernel
theorem dL_feed_14 : decode cL_feed 14 = .ok (.astore 5, 2) := by decide +kernel
theorem dL_feed_16 : decode cL_feed 16 = .ok (.iconst 1, 1) := by decide +kernel
theorem dL_feed_17 : decode cL_feed 17 = .ok (.ireturn, 1) := by decide +kernel
theorem dL_feed_18 : decode cL_feed 18 = .ok (.astore 5, 2) := by decide +kernel
theorem dL_feed_20 : decode cL_feed 20 = .ok (.iconst 2, 1) := by decide +kernel
theorem dL_feed_21 : decode cL_feed 21 = .ok (.ireturn, 1) := by decide +kernel
theorem dL_feed_22 : decode cL_feed 22 = .ok (.iconst 0, 1) := by decide +kernel
theorem dL_feed_23 : decode cL_feed 23 = .ok (.ireturn, 1) := by decide +kernel
theorem dL_put_0 : decode cL_put 0 = .ok (.aload_n 2, 1) := by decide +kernel
theorem dL_put_1 : decode cL_put 1 = .ok (.iconst 0, 1) := by decide +kernel
theorem dL_put_2 : decode cL_put 2 = .ok (.aload_n 0, 1) := by decide +kernel
theorem dL_put_3 : decode cL_put 3 = .ok (.iload_n 1, 1) := by decide +kernel
theorem dL_put_4 : decode cL_put 4 = .ok (.invokevirtual 17, 3) := by decide +kernel
theorem dL_put_7 : decode cL_put 7 = .ok (.ifCond .eq 7, 3) := by decide +kernel
theorem dL_put_10 : decode cL_put 10 = .ok (.lconst 1, 1) := by decide +kernel
theorem dL_put_11 : decode cL_put 11 = .ok (.goto 4, 3) := by decide +kernel
theorem dL_put_14 : decode cL_put 14 = .ok (.lconst 0, 1) := by decide +kernel
theorem dL_put_15 : decode cL_put 15 = .ok (.lastore, 1) := by decide +kernel
theorem dL_put_16 : decode cL_put 16 = .ok (.goto 9, 3) := by decide +kernel
theorem dL_put_19 : decode cL_put 19 = .ok (.astore_n 3, 1) := by decide +kernel
theorem dL_put_20 : decode cL_put 20 = .ok (.iconst 1, 1) := by decide +kernel
theorem dL_put_21 : decode cL_put 21 = .ok (.ireturn, 1) := by decide +kernel
theorem dL_put_22 : decode cL_put 22 = .ok (.astore_n 3, 1) := by decide +kernel
theorem dL_put_23 : decode cL_put 23 = .ok (.iconst 2, 1) := by decide +kernel
theorem dL_put_24 : decode cL_put 24 = .ok (.ireturn, 1) := by decide +kernel
theorem dL_put_25 : decode cL_put 25 = .ok (.iconst 0, 1) := by decide +kernel
theorem dL_put_26 : decode cL_put 26 = .ok (.ireturn, 1) := by decide +kernel
theorem dL_get_0 : decode cL_get 0 = .ok (.aload_n 1, 1) := by decide +kernel
theorem dL_get_1 : decode cL_get 1 = .ok (.iconst 0, 1) := by decide +kernel
theorem dL_get_2 : decode cL_get 2 = .ok (.aload_n 0, 1) := by decide +kernel
theorem dL_get_3 : decode cL_get 3 = .ok (.invokevirtual 21, 3) := by decide +kernel
theorem dL_get_6 : decode cL_get 6 = .ok (.i2l, 1) := by decide +kernel
theorem dL_get_7 : decode cL_get 7 = .ok (.lastore, 1) := by decide +kernel
theorem dL_get_8 : decode cL_get 8 = .ok (.goto 9, 3) := by decide +kernel
theorem dL_get_11 : decode cL_get 11 = .ok (.astore_n 2, 1) := by decide +kernel
theorem dL_get_12 : decode cL_get 12 = .ok (.iconst 1, 1) := by decide +kernel
theorem dL_get_13 : decode cL_get 13 = .ok (.ireturn, 1) := by decide +kernel
theorem dL_get_14 : decode cL_get 14 = .ok (.astore_n 2, 1) := by decide +kernel
theorem dL_get_15 : decode cL_get 15 = .ok (.iconst 2, 1) := by decide +kernel
theorem dL_get_16 : decode cL_get 16 = .ok (.ireturn, 1) := by decide +kernel
theorem dL_get_17 : decode cL_get 17 = .ok (.iconst 0, 1) := by decide +kernel
theorem dL_get_18 : decode cL_get 18 = .ok (.ireturn, 1) := by decide +kernel
theorem dL_remove_0 : decode cL_remove 0 = .ok (.aload_n 1, 1) := by decide +kernel
theorem dL_remove_1 : decode cL_remove 1 = .ok (.iconst 0, 1) := by decide +kernel
theorem dL_remove_2 : decode cL_remove 2 = .ok (.aload_n 0, 1) := by decide +kernel
theorem dL_remove_3 : decode cL_remove 3 = .ok (.invokevirtual 27, 3) := by decide +kernel
theorem dL_remove_6 : decode cL_remove 6 = .ok (.ifCond .eq 7, 3) := by decide +kernel
theorem dL_remove_9 : decode cL_remove 9 = .ok (.lconst 1, 1) := by decide +kernel
theorem dL_remove_10 : decode cL_remove 10 = .ok (.goto 4, 3) := by decide +kernel
theorem dL_remove_13 : decode cL_remove 13 = .ok (.lconst 0, 1) := by decide +kernel
theorem dL_remove_14 : decode cL_remove 14 = .ok (.lastore, 1) := by decide +kernel
theorem dL_remove_15 : decode cL_remove 15 = .ok (.goto 6, 3) := by decide +kernel
theorem dL_remove_18 : decode cL_remove 18 = .ok (.astore_n 2, 1) := by decide +kernel
theorem dL_remove_19 : decode cL_remove 19 = .ok (.iconst 1, 1) := by decide +kernel
theorem dL_remove_20 : decode cL_remove 20 = .ok (.ireturn, 1) := by decide +kernel
theorem dL_remove_21 : decode cL_remove 21 = .ok (.iconst 0, 1) := by decide +kernel
theorem dL_remove_22 : decode cL_remove 22 = .ok (.ireturn, 1) := by decide +kernel
theorem dL_seek_0 : decode cL_seek 0 = .ok (.aload_n 2, 1) := by decide +kernel
theorem dL_seek_1 : decode cL_seek 1 = .ok (.iconst 0, 1) := by decide +kernel
theorem dL_seek_2 : decode cL_seek 2 = .ok (.aload_n 0, 1) := by decide +kernel
theorem dL_seek_3 : decode cL_seek 3 = .ok (.iload_n 1, 1) := by decide +kernel
theorem dL_seek_4 : decode cL_seek 4 = .ok (.invokevirtual 31, 3) := by decide +kernel
theorem dL_seek_7 : decode cL_seek 7 = .ok (.i2l, 1) := by decide +kernel
theorem dL_seek_8 : decode cL_seek 8 = .ok (.lastore, 1) := by decide +kernel
theorem dL_seek_9 : decode cL_seek 9 = .ok (.goto 9, 3) := by decide +kernel
theorem dL_seek_12 : decode cL_seek 12 = .ok (.astore_n 3, 1) := by decide +kernel
theorem dL_seek_13 : decode cL_seek 13 = .ok (.iconst 1, 1) := by decide +kernel
theorem dL_seek_14 : decode cL_seek 14 = .ok (.ireturn, 1) := by decide +kernel
theorem dL_seek_15 : decode cL_seek 15 = .ok (.astore_n 3, 1) := by decide +kernel
theorem dL_seek_16 : decode cL_seek 16 = .ok (.iconst 2, 1) := by decide +kernel
theorem dL_seek_17 : decode cL_seek 17 = .ok (.ireturn, 1) := by decide +kernel
theorem dL_seek_18 : decode cL_seek 18 = .ok (.iconst 0, 1) := by decide +kernel
theorem dL_seek_19 : decode cL_seek 19 = .ok (.ireturn, 1) := by decide +kernel
theorem dL_at_0 : decode cL_at 0 = .ok (.aload_n 2, 1) := by decide +kernel
theorem dL_at_1 : decode cL_at 1 = .ok (.iconst 0, 1) := by decide +kernel
theorem dL_at_2 : decode cL_at 2 = .ok (.aload_n 0, 1) := by decide +kernel
theorem dL_at_3 : decode cL_at 3 = .ok (.iload_n 1, 1) := by decide +kernel
theorem dL_at_4 : decode cL_at 4 = .ok (.invokevirtual 35, 3) := by decide +kernel
theorem dL_at_7 : decode cL_at 7 = .ok (.i2l, 1) := by decide +kernel
theorem dL_at_8 : decode cL_at 8 = .ok (.lastore, 1) := by decide +kernel
theorem dL_at_9 : decode cL_at 9 = .ok (.goto 6, 3) := by decide +kernel
theorem dL_at_12 : decode cL_at 12 = .ok (.astore_n 3, 1) := by decide +kernel
theorem dL_at_13 : decode cL_at 13 = .ok (.iconst 1, 1) := by decide +kernel
theorem dL_at_14 : decode cL_at 14 = .ok (.ireturn, 1) := by decide +kernel
theorem dL_at_15 : decode cL_at 15 = .ok (.iconst 0, 1) := by decide +kernel
theorem dL_at_16 : decode cL_at 16 = .ok (.ireturn, 1) := by decide +kernel
theorem dL_step_0 : decode cL_step 0 = .ok (.aload_n 2, 1) := by decide +kernel
theorem dL_step_1 : decode cL_step 1 = .ok (.iconst 0, 1) := by decide +kernel
theorem dL_step_2 : decode cL_step 2 = .ok (.aload_n 0, 1) := by decide +kernel
theorem dL_step_3 : decode cL_step 3 = .ok (.iload_n 1, 1) := by decide +kernel
theorem dL_step_4 : decode cL_step 4 = .ok (.invokevirtual 40, 3) := by decide +kernel
theorem dL_step_7 : decode cL_step 7 = .ok (.ifCond .eq 7, 3) := by decide +kernel
theorem dL_step_10 : decode cL_step 10 = .ok (.lconst 1, 1) := by decide +kernel
theorem dL_step_11 : decode cL_step 11 = .ok (.goto 4, 3) := by decide +kernel
theorem dL_step_14 : decode cL_step 14 = .ok (.lconst 0, 1) := by decide +kernel
theorem dL_step_15 : decode cL_step 15 = .ok (.lastore, 1) := by decide +kernel
theorem dL_step_16 : decode cL_step 16 = .ok (.goto 6, 3) := by decide +kernel
theorem dL_step_19 : decode cL_step 19 = .ok (.astore_n 3, 1) := by decide +kernel
theorem dL_step_20 : decode cL_step 20 = .ok (.iconst 1, 1) := by decide +kernel
theorem dL_step_21 : decode cL_step 21 = .ok (.ireturn, 1) := by decide +kernel
theorem dL_step_22 : decode cL_step 22 = .ok (.iconst 0, 1) := by decide +kernel
theorem dL_step_23 : decode cL_step 23 = .ok (.ireturn, 1) := by decide +kernel
theorem dL_value_0 : decode cL_value 0 = .ok (.aload_n 1, 1) := by decide +kernel
theorem dL_value_1 : decode cL_value 1 = .ok (.iconst 0, 1) := by decide +kernel
theorem dL_value_2 : decode cL_value 2 = .ok (.aload_n 0, 1) := by decide +kernel
theorem dL_value_3 : decode cL_value 3 = .ok (.invokevirtual 44, 3) := by decide +kernel
theorem dL_value_6 : decode cL_value 6 = .ok (.i2l, 1) := by decide +kernel
theorem dL_value_7 : decode cL_value 7 = .ok (.lastore, 1) := by decide +kernel
theorem dL_value_8 : decode cL_value 8 = .ok (.goto 6, 3) := by decide +kernel
theorem dL_value_11 : decode cL_value 11 = .ok (.astore_n 2, 1) := by decide +kernel
theorem dL_value_12 : decode cL_value 12 = .ok (.iconst 1, 1) := by decide +kernel
theorem dL_value_13 : decode cL_value 13 = .ok (.ireturn, 1) := by decide +kernel
theorem dL_value_14 : decode cL_value 14 = .ok (.iconst 0, 1) := by decide +kernel
theorem dL_value_15 : decode cL_value 15 = .ok (.ireturn, 1) := by decide +kernel
theorem dL_place_0 : decode cL_place 0 = .ok (.aload_n 1, 1) := by decide +kernel
theorem dL_place_1 : decode cL_place 1 = .ok (.iconst 0, 1) := by decide +kernel
theorem dL_place_2 : decode cL_place 2 = .ok (.aload_n 0, 1) := by decide +kernel
theorem dL_place_3 : decode cL_place 3 = .ok (.invokevirtual 47, 3) := by decide +kernel
theorem dL_place_6 : decode cL_place 6 = .ok (.i2l, 1) := by decide +kernel
theorem dL_place_7 : decode cL_place 7 = .ok (.lastore, 1) := by decide +kernel
theorem dL_place_8 : decode cL_place 8 = .ok (.goto 6, 3) := by decide +kernel
theorem dL_place_11 : decode cL_place 11 = .ok (.astore_n 2, 1) := by decide +kernel
theorem dL_place_12 : decode cL_place 12 = .ok (.iconst 1, 1) := by decide +kernel
theorem dL_place_13 : decode cL_place 13 = .ok (.ireturn, 1) := by decide +kernel
theorem dL_place_14 : decode cL_place 14 = .ok (.iconst 0, 1) := by decide +kernel
theorem dL_place_15 : decode cL_place 15 = .ok (.ireturn, 1) := by decide +kernel
theorem dL_range_0 : decode cL_range 0 = .ok (.aload_n 1, 1) := by decide +kernel
theorem dL_range_1 : decode cL_range 1 = .ok (.iconst 0, 1) := by decide +kernel
theorem dL_range_2 : decode cL_range 2 = .ok (.aload_n 0, 1) := by decide +kernel
theorem dL_range_3 : decode cL_range 3 = .ok (.invokevirtual 50, 3) := by decide +kernel
theorem dL_range_6 : decode cL_range 6 = .ok (.i2l, 1) := by decide +kernel
theorem dL_range_7 : decode cL_range 7 = .ok (.lastore, 1) := by decide +kernel
theorem dL_range_8 : decode cL_range 8 = .ok (.goto 9, 3) := by decide +kernel
theorem dL_range_11 : decode cL_range 11 = .ok (.astore_n 2, 1) := by decide +kernel
theorem dL_range_12 : decode cL_range 12 = .ok (.iconst 1, 1) := by decide +kernel
theorem dL_range_13 : decode cL_range 13 = .ok (.ireturn, 1) := by decide +kernel
theorem dL_range_14 : decode cL_range 14 = .ok (.astore_n 2, 1) := by decide +kernel
theorem dL_range_15 : decode cL_range 15 = .ok (.iconst 2, 1) := by decide +kernel
theorem dL_range_16 : decode cL_range 16 = .ok (.ireturn, 1) := by decide +kernel
theorem dL_range_17 : decode cL_range 17 = .ok (.iconst 0, 1) := by decide +kernel
theorem dL_range_18 : decode cL_range 18 = .ok (.ireturn, 1) := by decide +kernel
theorem dL_removeFrom_0 : decode cL_removeFrom 0 = .ok (.aload_n 2, 1) := by decide +kernel
theorem dL_removeFrom_1 : decode cL_removeFrom 1 = .ok (.iconst 0, 1) := by decide +kernel
theorem dL_removeFrom_2 : decode cL_removeFrom 2 = .ok (.aload_n 0, 1) := by decide +kernel
theorem dL_removeFrom_3 : decode cL_removeFrom 3 = .ok (.iload_n 1, 1) := by decide +kernel
theorem dL_removeFrom_4 : decode cL_removeFrom 4 = .ok (.invokevirtual 53, 3) := by decide +kernel
theorem dL_removeFrom_7 : decode cL_removeFrom 7 = .ok (.i2l, 1) := by decide +kernel
theorem dL_removeFrom_8 : decode cL_removeFrom 8 = .ok (.lastore, 1) := by decide +kernel
theorem dL_removeFrom_9 : decode cL_removeFrom 9 = .ok (.goto 9, 3) := by decide +kernel
theorem dL_removeFrom_12 : decode cL_removeFrom 12 = .ok (.astore_n 3, 1) := by decide +kernel
theorem dL_removeFrom_13 : decode cL_removeFrom 13 = .ok (.iconst 1, 1) := by decide +kernel
theorem dL_removeFrom_14 : decode cL_removeFrom 14 = .ok (.ireturn, 1) := by decide +kernel
theorem dL_removeFrom_15 : decode cL_removeFrom 15 = .ok (.astore_n 3, 1) := by decide +kernel
theorem dL_removeFrom_16 : decode cL_removeFrom 16 = .ok (.iconst 2, 1) := by decide +kernel
theorem dL_removeFrom_17 : decode cL_removeFrom 17 = .ok (.ireturn, 1) := by decide +kernel
theorem dL_removeFrom_18 : decode cL_removeFrom 18 = .ok (.iconst 0, 1) := by decide +kernel
theorem dL_removeFrom_19 : decode cL_removeFrom 19 = .ok (.ireturn, 1) := by decide +kernel
theorem dL_byteAt_0 : decode cL_byteAt 0 = .ok (.aload_n 2, 1) := by decide +kernel
theorem dL_byteAt_1 : decode cL_byteAt 1 = .ok (.iconst 0, 1) := by decide +kernel
theorem dL_byteAt_2 : decode cL_byteAt 2 = .ok (.aload_n 0, 1) := by decide +kernel
theorem dL_byteAt_3 : decode cL_byteAt 3 = .ok (.iload_n 1, 1) := by decide +kernel
theorem dL_byteAt_4 : decode cL_byteAt 4 = .ok (.invokevirtual 56, 3) := by decide +kernel
theorem dL_byteAt_7 : decode cL_byteAt 7 = .ok (.i2l, 1) := by decide +kernel
theorem dL_byteAt_8 : decode cL_byteAt 8 = .ok (.lastore, 1) := by decide +kernel
theorem dL_byteAt_9 : decode cL_byteAt 9 = .ok (.goto 6, 3) := by decide +kernel
theorem dL_byteAt_12 : decode cL_byteAt 12 = .ok (.astore_n 3, 1) := by decide +kernel
theorem dL_byteAt_13 : decode cL_byteAt 13 = .ok (.iconst 1, 1) := by decide +kernel
theorem dL_byteAt_14 : decode cL_byteAt 14 = .ok (.ireturn, 1) := by decide +kernel
theorem dL_byteAt_15 : decode cL_byteAt 15 = .ok (.iconst 0, 1) := by decide +kernel
theorem dL_byteAt_16 : decode cL_byteAt 16 = .ok (.ireturn, 1) := by decide +kernel
theorem dL_law_0 : decode cL_law 0 = .ok (.new 8, 3) := by decide +kernel
theorem dL_law_3 : decode cL_law 3 = .ok (.dup, 1) := by decide +kernel
theorem dL_law_4 : decode cL_law 4 = .ok (.aload_n 0, 1) := by decide +kernel
theorem dL_law_5 : decode cL_law 5 = .ok (.iconst 0, 1) := by decide +kernel
theorem dL_law_6 : decode cL_law 6 = .ok (.invokestatic 59, 3) := by decide +kernel
theorem dL_law_9 : decode cL_law 9 = .ok (.aload_n 0, 1) := by decide +kernel
theorem dL_law_10 : decode cL_law 10 = .ok (.iconst 1, 1) := by decide +kernel
theorem dL_law_11 : decode cL_law 11 = .ok (.invokestatic 59, 3) := by decide +kernel
theorem dL_law_14 : decode cL_law 14 = .ok (.invokespecial 65, 3) := by decide +kernel
theorem dL_law_17 : decode cL_law 17 = .ok (.astore_n 1, 1) := by decide +kernel
theorem dL_law_18 : decode cL_law 18 = .ok (.new 68, 3) := by decide +kernel
theorem dL_law_21 : decode cL_law 21 = .ok (.dup, 1) := by decide +kernel
theorem dL_law_22 : decode cL_law 22 = .ok (.aload_n 0, 1) := by decide +kernel
theorem dL_law_23 : decode cL_law 23 = .ok (.iconst 0, 1) := by decide +kernel
theorem dL_law_24 : decode cL_law 24 = .ok (.invokestatic 59, 3) := by decide +kernel
theorem dL_law_27 : decode cL_law 27 = .ok (.aload_n 0, 1) := by decide +kernel
theorem dL_law_28 : decode cL_law 28 = .ok (.iconst 1, 1) := by decide +kernel
theorem dL_law_29 : decode cL_law 29 = .ok (.invokestatic 59, 3) := by decide +kernel
theorem dL_law_32 : decode cL_law 32 = .ok (.invokespecial 70, 3) := by decide +kernel
theorem dL_law_35 : decode cL_law 35 = .ok (.astore_n 2, 1) := by decide +kernel
theorem dL_law_36 : decode cL_law 36 = .ok (.iconst 1, 1) := by decide +kernel
theorem dL_law_37 : decode cL_law 37 = .ok (.newarray .long, 2) := by decide +kernel
theorem dL_law_39 : decode cL_law 39 = .ok (.astore_n 3, 1) := by decide +kernel
theorem dL_law_40 : decode cL_law 40 = .ok (.iconst 2, 1) := by decide +kernel
theorem dL_law_41 : decode cL_law 41 = .ok (.istore 4, 2) := by decide +kernel
theorem dL_law_43 : decode cL_law 43 = .ok (.iload 4, 2) := by decide +kernel
theorem dL_law_45 : decode cL_law 45 = .ok (.aload_n 0, 1) := by decide +kernel
theorem dL_law_46 : decode cL_law 46 = .ok (.arraylength, 1) := by decide +kernel
theorem dL_law_47 : decode cL_law 47 = .ok (.iconst 4, 1) := by decide +kernel
theorem dL_law_48 : decode cL_law 48 = .ok (.isub, 1) := by decide +kernel
theorem dL_law_49 : decode cL_law 49 = .ok (.if_icmp .gt 833, 3) := by decide +kernel
theorem dL_law_52 : decode cL_law 52 = .ok (.aload_n 0, 1) := by decide +kernel
theorem dL_law_53 : decode cL_law 53 = .ok (.iload 4, 2) := by decide +kernel
theorem dL_law_55 : decode cL_law 55 = .ok (.iaload, 1) := by decide +kernel
theorem dL_law_56 : decode cL_law 56 = .ok (.bipush 15, 2) := by decide +kernel
theorem dL_law_58 : decode cL_law 58 = .ok (.iand, 1) := by decide +kernel
theorem dL_law_59 : decode cL_law 59 = .ok (.tableswitch 817 0 14 #[73, 173, 236, 280, 331, 387, 443, 522, 566, 610, 654, 710, 723, 779, 804], 73) := by decide +kernel
theorem dL_law_132 : decode cL_law 132 = .ok (.aload_n 1, 1) := by decide +kernel
theorem dL_law_133 : decode cL_law 133 = .ok (.aload_n 0, 1) := by decide +kernel
theorem dL_law_134 : decode cL_law 134 = .ok (.iload 4, 2) := by decide +kernel
theorem dL_law_136 : decode cL_law 136 = .ok (.iconst 1, 1) := by decide +kernel
theorem dL_law_137 : decode cL_law 137 = .ok (.iadd, 1) := by decide +kernel
theorem dL_law_138 : decode cL_law 138 = .ok (.iaload, 1) := by decide +kernel
theorem dL_law_139 : decode cL_law 139 = .ok (.i2l, 1) := by decide +kernel
theorem dL_law_140 : decode cL_law 140 = .ok (.bipush 32, 2) := by decide +kernel
theorem dL_law_142 : decode cL_law 142 = .ok (.lshl, 1) := by decide +kernel
theorem dL_law_143 : decode cL_law 143 = .ok (.aload_n 0, 1) := by decide +kernel
theorem dL_law_144 : decode cL_law 144 = .ok (.iload 4, 2) := by decide +kernel
theorem dL_law_146 : decode cL_law 146 = .ok (.iconst 2, 1) := by decide +kernel
theorem dL_law_147 : decode cL_law 147 = .ok (.iadd, 1) := by decide +kernel
theorem dL_law_148 : decode cL_law 148 = .ok (.iaload, 1) := by decide +kernel
theorem dL_law_149 : decode cL_law 149 = .ok (.i2l, 1) := by decide +kernel
theorem dL_law_150 : decode cL_law 150 = .ok (.ldc2_w 71, 3) := by decide +kernel
theorem dL_law_153 : decode cL_law 153 = .ok (.land, 1) := by decide +kernel
theorem dL_law_154 : decode cL_law 154 = .ok (.lor, 1) := by decide +kernel
theorem dL_law_155 : decode cL_law 155 = .ok (.aload_n 0, 1) := by decide +kernel
theorem dL_law_156 : decode cL_law 156 = .ok (.iload 4, 2) := by decide +kernel
theorem dL_law_158 : decode cL_law 158 = .ok (.iconst 3, 1) := by decide +kernel
theorem dL_law_159 : decode cL_law 159 = .ok (.iadd, 1) := by decide +kernel
theorem dL_law_160 : decode cL_law 160 = .ok (.iaload, 1) := by decide +kernel
theorem dL_law_161 : decode cL_law 161 = .ok (.aload_n 3, 1) := by decide +kernel
theorem dL_law_162 : decode cL_law 162 = .ok (.invokestatic 73, 3) := by decide +kernel
theorem dL_law_165 : decode cL_law 165 = .ok (.istore 5, 2) := by decide +kernel
theorem dL_law_167 : decode cL_law 167 = .ok (.aload_n 2, 1) := by decide +kernel
theorem dL_law_168 : decode cL_law 168 = .ok (.aload_n 0, 1) := by decide +kernel
theorem dL_law_169 : decode cL_law 169 = .ok (.iload 4, 2) := by decide +kernel
theorem dL_law_171 : decode cL_law 171 = .ok (.iconst 1, 1) := by decide +kernel
theorem dL_law_172 : decode cL_law 172 = .ok (.iadd, 1) := by decide +kernel
theorem dL_law_173 : decode cL_law 173 = .ok (.iaload, 1) := by decide +kernel
theorem dL_law_174 : decode cL_law 174 = .ok (.i2l, 1) := by decide +kernel
theorem dL_law_175 : decode cL_law 175 = .ok (.bipush 32, 2) := by decide +kernel
theorem dL_law_177 : decode cL_law 177 = .ok (.lshl, 1) := by decide +kernel
theorem dL_law_178 : decode cL_law 178 = .ok (.aload_n 0, 1) := by decide +kernel
theorem dL_law_179 : decode cL_law 179 = .ok (.iload 4, 2) := by decide +kernel
theorem dL_law_181 : decode cL_law 181 = .ok (.iconst 2, 1) := by decide +kernel
theorem dL_law_182 : decode cL_law 182 = .ok (.iadd, 1) := by decide +kernel
theorem dL_law_183 : decode cL_law 183 = .ok (.iaload, 1) := by decide +kernel
theorem dL_law_184 : decode cL_law 184 = .ok (.i2l, 1) := by decide +kernel
theorem dL_law_185 : decode cL_law 185 = .ok (.ldc2_w 71, 3) := by decide +kernel
theorem dL_law_188 : decode cL_law 188 = .ok (.land, 1) := by decide +kernel
theorem dL_law_189 : decode cL_law 189 = .ok (.lor, 1) := by decide +kernel
theorem dL_law_190 : decode cL_law 190 = .ok (.aload_n 0, 1) := by decide +kernel
theorem dL_law_191 : decode cL_law 191 = .ok (.iload 4, 2) := by decide +kernel
theorem dL_law_193 : decode cL_law 193 = .ok (.iconst 3, 1) := by decide +kernel
theorem dL_law_194 : decode cL_law 194 = .ok (.iadd, 1) := by decide +kernel
theorem dL_law_195 : decode cL_law 195 = .ok (.iaload, 1) := by decide +kernel
theorem dL_law_196 : decode cL_law 196 = .ok (.invokevirtual 76, 3) := by decide +kernel
theorem dL_law_199 : decode cL_law 199 = .ok (.istore 6, 2) := by decide +kernel
theorem dL_law_201 : decode cL_law 201 = .ok (.aload_n 2, 1) := by decide +kernel
theorem dL_law_202 : decode cL_law 202 = .ok (.invokevirtual 77, 3) := by decide +kernel
theorem dL_law_205 : decode cL_law 205 = .ok (.iload 5, 2) := by decide +kernel
theorem dL_law_207 : decode cL_law 207 = .ok (.if_icmp .eq 5, 3) := by decide +kernel
theorem dL_law_210 : decode cL_law 210 = .ok (.iconst 0, 1) := by decide +kernel
theorem dL_law_211 : decode cL_law 211 = .ok (.ireturn, 1) := by decide +kernel
theorem dL_law_212 : decode cL_law 212 = .ok (.iload 5, 2) := by decide +kernel
theorem dL_law_214 : decode cL_law 214 = .ok (.ifCond .ne 15, 3) := by decide +kernel
theorem dL_law_217 : decode cL_law 217 = .ok (.aload_n 3, 1) := by decide +kernel
theorem dL_law_218 : decode cL_law 218 = .ok (.iconst 0, 1) := by decide +kernel
theorem dL_law_219 : decode cL_law 219 = .ok (.laload, 1) := by decide +kernel
theorem dL_law_220 : decode cL_law 220 = .ok (.iload 6, 2) := by decide +kernel
theorem dL_law_222 : decode cL_law 222 = .ok (.i2l, 1) := by decide +kernel
theorem dL_law_223 : decode cL_law 223 = .ok (.lcmp, 1) := by decide +kernel
theorem dL_law_224 : decode cL_law 224 = .ok (.ifCond .eq 5, 3) := by decide +kernel
theorem dL_law_227 : decode cL_law 227 = .ok (.iconst 0, 1) := by decide +kernel
theorem dL_law_228 : decode cL_law 228 = .ok (.ireturn, 1) := by decide +kernel
theorem dL_law_229 : decode cL_law 229 = .ok (.goto 647, 3) := by decide +kernel
theorem dL_law_232 : decode cL_law 232 = .ok (.aload_n 1, 1) := by decide +kernel
theorem dL_law_233 : decode cL_law 233 = .ok (.aload_n 0, 1) := by decide +kernel
theorem dL_law_234 : decode cL_law 234 = .ok (.iload 4, 2) := by decide +kernel
theorem dL_law_236 : decode cL_law 236 = .ok (.iconst 1, 1) := by decide +kernel
theorem dL_law_237 : decode cL_law 237 = .ok (.iadd, 1) := by decide +kernel
theorem dL_law_238 : decode cL_law 238 = .ok (.iaload, 1) := by decide +kernel
theorem dL_law_239 : decode cL_law 239 = .ok (.aload_n 3, 1) := by decide +kernel
theorem dL_law_240 : decode cL_law 240 = .ok (.invokestatic 80, 3) := by decide +kernel
theorem dL_law_243 : decode cL_law 243 = .ok (.istore 5, 2) := by decide +kernel
theorem dL_law_245 : decode cL_law 245 = .ok (.aload_n 2, 1) := by decide +kernel
theorem dL_law_246 : decode cL_law 246 = .ok (.aload_n 0, 1) := by decide +kernel
theorem dL_law_247 : decode cL_law 247 = .ok (.iload 4, 2) := by decide +kernel
theorem dL_law_249 : decode cL_law 249 = .ok (.iconst 1, 1) := by decide +kernel
theorem dL_law_250 : decode cL_law 250 = .ok (.iadd, 1) := by decide +kernel
theorem dL_law_251 : decode cL_law 251 = .ok (.iaload, 1) := by decide +kernel
theorem dL_law_252 : decode cL_law 252 = .ok (.invokevirtual 83, 3) := by decide +kernel
theorem dL_law_255 : decode cL_law 255 = .ok (.istore 6, 2) := by decide +kernel
theorem dL_law_257 : decode cL_law 257 = .ok (.aload_n 2, 1) := by decide +kernel
theorem dL_law_258 : decode cL_law 258 = .ok (.invokevirtual 77, 3) := by decide +kernel
theorem dL_law_261 : decode cL_law 261 = .ok (.iload 5, 2) := by decide +kernel
theorem dL_law_263 : decode cL_law 263 = .ok (.if_icmp .eq 5, 3) := by decide +kernel
theorem dL_law_266 : decode cL_law 266 = .ok (.iconst 0, 1) := by decide +kernel
theorem dL_law_267 : decode cL_law 267 = .ok (.ireturn, 1) := by decide +kernel
theorem dL_law_268 : decode cL_law 268 = .ok (.iload 5, 2) := by decide +kernel
theorem dL_law_270 : decode cL_law 270 = .ok (.ifCond .ne 22, 3) := by decide +kernel
theorem dL_law_273 : decode cL_law 273 = .ok (.aload_n 3, 1) := by decide +kernel
theorem dL_law_274 : decode cL_law 274 = .ok (.iconst 0, 1) := by decide +kernel
theorem dL_law_275 : decode cL_law 275 = .ok (.laload, 1) := by decide +kernel
theorem dL_law_276 : decode cL_law 276 = .ok (.iload 6, 2) := by decide +kernel
theorem dL_law_278 : decode cL_law 278 = .ok (.ifCond .eq 7, 3) := by decide +kernel
theorem dL_law_281 : decode cL_law 281 = .ok (.lconst 1, 1) := by decide +kernel
theorem dL_law_282 : decode cL_law 282 = .ok (.goto 4, 3) := by decide +kernel
theorem dL_law_285 : decode cL_law 285 = .ok (.lconst 0, 1) := by decide +kernel
theorem dL_law_286 : decode cL_law 286 = .ok (.lcmp, 1) := by decide +kernel
theorem dL_law_287 : decode cL_law 287 = .ok (.ifCond .eq 5, 3) := by decide +kernel
theorem dL_law_290 : decode cL_law 290 = .ok (.iconst 0, 1) := by decide +kernel
theorem dL_law_291 : decode cL_law 291 = .ok (.ireturn, 1) := by decide +kernel
theorem dL_law_292 : decode cL_law 292 = .ok (.goto 584, 3) := by decide +kernel
theorem dL_law_295 : decode cL_law 295 = .ok (.aload_n 1, 1) := by decide +kernel
theorem dL_law_296 : decode cL_law 296 = .ok (.aload_n 3, 1) := by decide +kernel
theorem dL_law_297 : decode cL_law 297 = .ok (.invokestatic 84, 3) := by decide +kernel
theorem dL_law_300 : decode cL_law 300 = .ok (.istore 5, 2) := by decide +kernel
theorem dL_law_302 : decode cL_law 302 = .ok (.aload_n 2, 1) := by decide +kernel
theorem dL_law_303 : decode cL_law 303 = .ok (.invokevirtual 87, 3) := by decide +kernel
theorem dL_law_306 : decode cL_law 306 = .ok (.istore 6, 2) := by decide +kernel
theorem dL_law_308 : decode cL_law 308 = .ok (.aload_n 2, 1) := by decide +kernel
theorem dL_law_309 : decode cL_law 309 = .ok (.invokevirtual 77, 3) := by decide +kernel
theorem dL_law_312 : decode cL_law 312 = .ok (.iload 5, 2) := by decide +kernel
theorem dL_law_314 : decode cL_law 314 = .ok (.if_icmp .eq 5, 3) := by decide +kernel
theorem dL_law_317 : decode cL_law 317 = .ok (.iconst 0, 1) := by decide +kernel
theorem dL_law_318 : decode cL_law 318 = .ok (.ireturn, 1) := by decide +kernel
theorem dL_law_319 : decode cL_law 319 = .ok (.iload 5, 2) := by decide +kernel
theorem dL_law_321 : decode cL_law 321 = .ok (.ifCond .ne 15, 3) := by decide +kernel
theorem dL_law_324 : decode cL_law 324 = .ok (.aload_n 3, 1) := by decide +kernel
theorem dL_law_325 : decode cL_law 325 = .ok (.iconst 0, 1) := by decide +kernel
theorem dL_law_326 : decode cL_law 326 = .ok (.laload, 1) := by decide +kernel
theorem dL_law_327 : decode cL_law 327 = .ok (.iload 6, 2) := by decide +kernel
theorem dL_law_329 : decode cL_law 329 = .ok (.i2l, 1) := by decide +kernel
theorem dL_law_330 : decode cL_law 330 = .ok (.lcmp, 1) := by decide +kernel
theorem dL_law_331 : decode cL_law 331 = .ok (.ifCond .eq 5, 3) := by decide +kernel
theorem dL_law_334 : decode cL_law 334 = .ok (.iconst 0, 1) := by decide +kernel
theorem dL_law_335 : decode cL_law 335 = .ok (.ireturn, 1) := by decide +kernel
theorem dL_law_336 : decode cL_law 336 = .ok (.goto 540, 3) := by decide +kernel
theorem dL_law_339 : decode cL_law 339 = .ok (.aload_n 1, 1) := by decide +kernel
theorem dL_law_340 : decode cL_law 340 = .ok (.aload_n 3, 1) := by decide +kernel
theorem dL_law_341 : decode cL_law 341 = .ok (.invokestatic 88, 3) := by decide +kernel
theorem dL_law_344 : decode cL_law 344 = .ok (.istore 5, 2) := by decide +kernel
theorem dL_law_346 : decode cL_law 346 = .ok (.aload_n 2, 1) := by decide +kernel
theorem dL_law_347 : decode cL_law 347 = .ok (.invokevirtual 90, 3) := by decide +kernel
theorem dL_law_350 : decode cL_law 350 = .ok (.istore 6, 2) := by decide +kernel
theorem dL_law_352 : decode cL_law 352 = .ok (.aload_n 2, 1) := by decide +kernel
theorem dL_law_353 : decode cL_law 353 = .ok (.invokevirtual 77, 3) := by decide +kernel
theorem dL_law_356 : decode cL_law 356 = .ok (.iload 5, 2) := by decide +kernel
theorem dL_law_358 : decode cL_law 358 = .ok (.if_icmp .eq 5, 3) := by decide +kernel
theorem dL_law_361 : decode cL_law 361 = .ok (.iconst 0, 1) := by decide +kernel
theorem dL_law_362 : decode cL_law 362 = .ok (.ireturn, 1) := by decide +kernel
theorem dL_law_363 : decode cL_law 363 = .ok (.iload 5, 2) := by decide +kernel
theorem dL_law_365 : decode cL_law 365 = .ok (.ifCond .ne 22, 3) := by decide +kernel
theorem dL_law_368 : decode cL_law 368 = .ok (.aload_n 3, 1) := by decide +kernel
theorem dL_law_369 : decode cL_law 369 = .ok (.iconst 0, 1) := by decide +kernel
theorem dL_law_370 : decode cL_law 370 = .ok (.laload, 1) := by decide +kernel
theorem dL_law_371 : decode cL_law 371 = .ok (.iload 6, 2) := by decide +kernel
theorem dL_law_373 : decode cL_law 373 = .ok (.ifCond .eq 7, 3) := by decide +kernel
theorem dL_law_376 : decode cL_law 376 = .ok (.lconst 1, 1) := by decide +kernel
theorem dL_law_377 : decode cL_law 377 = .ok (.goto 4, 3) := by decide +kernel
theorem dL_law_380 : decode cL_law 380 = .ok (.lconst 0, 1) := by decide +kernel
theorem dL_law_381 : decode cL_law 381 = .ok (.lcmp, 1) := by decide +kernel
theorem dL_law_382 : decode cL_law 382 = .ok (.ifCond .eq 5, 3) := by decide +kernel
theorem dL_law_385 : decode cL_law 385 = .ok (.iconst 0, 1) := by decide +kernel
theorem dL_law_386 : decode cL_law 386 = .ok (.ireturn, 1) := by decide +kernel
theorem dL_law_387 : decode cL_law 387 = .ok (.goto 489, 3) := by decide +kernel
theorem dL_law_390 : decode cL_law 390 = .ok (.aload_n 1, 1) := by decide +kernel
theorem dL_law_391 : decode cL_law 391 = .ok (.aload_n 0, 1) := by decide +kernel
theorem dL_law_392 : decode cL_law 392 = .ok (.iload 4, 2) := by decide +kernel
theorem dL_law_394 : decode cL_law 394 = .ok (.iconst 1, 1) := by decide +kernel
theorem dL_law_395 : decode cL_law 395 = .ok (.iadd, 1) := by decide +kernel
theorem dL_law_396 : decode cL_law 396 = .ok (.iaload, 1) := by decide +kernel
theorem dL_law_397 : decode cL_law 397 = .ok (.aload_n 3, 1) := by decide +kernel
theorem dL_law_398 : decode cL_law 398 = .ok (.invokestatic 91, 3) := by decide +kernel
theorem dL_law_401 : decode cL_law 401 = .ok (.istore 5, 2) := by decide +kernel
theorem dL_law_403 : decode cL_law 403 = .ok (.aload_n 2, 1) := by decide +kernel
theorem dL_law_404 : decode cL_law 404 = .ok (.aload_n 0, 1) := by decide +kernel
theorem dL_law_405 : decode cL_law 405 = .ok (.iload 4, 2) := by decide +kernel
theorem dL_law_407 : decode cL_law 407 = .ok (.iconst 1, 1) := by decide +kernel
theorem dL_law_408 : decode cL_law 408 = .ok (.iadd, 1) := by decide +kernel
theorem dL_law_409 : decode cL_law 409 = .ok (.iaload, 1) := by decide +kernel
theorem dL_law_410 : decode cL_law 410 = .ok (.invokevirtual 93, 3) := by decide +kernel
theorem dL_law_413 : decode cL_law 413 = .ok (.istore 6, 2) := by decide +kernel
theorem dL_law_415 : decode cL_law 415 = .ok (.aload_n 2, 1) := by decide +kernel
theorem dL_law_416 : decode cL_law 416 = .ok (.invokevirtual 77, 3) := by decide +kernel
theorem dL_law_419 : decode cL_law 419 = .ok (.iload 5, 2) := by decide +kernel
theorem dL_law_421 : decode cL_law 421 = .ok (.if_icmp .eq 5, 3) := by decide +kernel
theorem dL_law_424 : decode cL_law 424 = .ok (.iconst 0, 1) := by decide +kernel
theorem dL_law_425 : decode cL_law 425 = .ok (.ireturn, 1) := by decide +kernel
theorem dL_law_426 : decode cL_law 426 = .ok (.iload 5, 2) := by decide +kernel
theorem dL_law_428 : decode cL_law 428 = .ok (.ifCond .ne 15, 3) := by decide +kernel
theorem dL_law_431 : decode cL_law 431 = .ok (.aload_n 3, 1) := by decide +kernel
theorem dL_law_432 : decode cL_law 432 = .ok (.iconst 0, 1) := by decide +kernel
theorem dL_law_433 : decode cL_law 433 = .ok (.laload, 1) := by decide +kernel
theorem dL_law_434 : decode cL_law 434 = .ok (.iload 6, 2) := by decide +kernel
theorem dL_law_436 : decode cL_law 436 = .ok (.i2l, 1) := by decide +kernel
theorem dL_law_437 : decode cL_law 437 = .ok (.lcmp, 1) := by decide +kernel
theorem dL_law_438 : decode cL_law 438 = .ok (.ifCond .eq 5, 3) := by decide +kernel
theorem dL_law_441 : decode cL_law 441 = .ok (.iconst 0, 1) := by decide +kernel
theorem dL_law_442 : decode cL_law 442 = .ok (.ireturn, 1) := by decide +kernel
theorem dL_law_443 : decode cL_law 443 = .ok (.goto 433, 3) := by decide +kernel
theorem dL_law_446 : decode cL_law 446 = .ok (.aload_n 1, 1) := by decide +kernel
theorem dL_law_447 : decode cL_law 447 = .ok (.aload_n 0, 1) := by decide +kernel
theorem dL_law_448 : decode cL_law 448 = .ok (.iload 4, 2) := by decide +kernel
theorem dL_law_450 : decode cL_law 450 = .ok (.iconst 1, 1) := by decide +kernel
theorem dL_law_451 : decode cL_law 451 = .ok (.iadd, 1) := by decide +kernel
theorem dL_law_452 : decode cL_law 452 = .ok (.iaload, 1) := by decide +kernel
theorem dL_law_453 : decode cL_law 453 = .ok (.aload_n 3, 1) := by decide +kernel
theorem dL_law_454 : decode cL_law 454 = .ok (.invokestatic 94, 3) := by decide +kernel
theorem dL_law_457 : decode cL_law 457 = .ok (.istore 5, 2) := by decide +kernel
theorem dL_law_459 : decode cL_law 459 = .ok (.aload_n 2, 1) := by decide +kernel
theorem dL_law_460 : decode cL_law 460 = .ok (.aload_n 0, 1) := by decide +kernel
theorem dL_law_461 : decode cL_law 461 = .ok (.iload 4, 2) := by decide +kernel
theorem dL_law_463 : decode cL_law 463 = .ok (.iconst 1, 1) := by decide +kernel
theorem dL_law_464 : decode cL_law 464 = .ok (.iadd, 1) := by decide +kernel
theorem dL_law_465 : decode cL_law 465 = .ok (.iaload, 1) := by decide +kernel
theorem dL_law_466 : decode cL_law 466 = .ok (.invokevirtual 96, 3) := by decide +kernel
theorem dL_law_469 : decode cL_law 469 = .ok (.istore 6, 2) := by decide +kernel
theorem dL_law_471 : decode cL_law 471 = .ok (.aload_n 2, 1) := by decide +kernel
theorem dL_law_472 : decode cL_law 472 = .ok (.invokevirtual 77, 3) := by decide +kernel
theorem dL_law_475 : decode cL_law 475 = .ok (.iload 5, 2) := by decide +kernel
theorem dL_law_477 : decode cL_law 477 = .ok (.if_icmp .eq 5, 3) := by decide +kernel
theorem dL_law_480 : decode cL_law 480 = .ok (.iconst 0, 1) := by decide +kernel
theorem dL_law_481 : decode cL_law 481 = .ok (.ireturn, 1) := by decide +kernel
theorem dL_law_482 : decode cL_law 482 = .ok (.iload 5, 2) := by decide +kernel
theorem dL_law_484 : decode cL_law 484 = .ok (.ifCond .ne 15, 3) := by decide +kernel
theorem dL_law_487 : decode cL_law 487 = .ok (.aload_n 3, 1) := by decide +kernel
theorem dL_law_488 : decode cL_law 488 = .ok (.iconst 0, 1) := by decide +kernel
theorem dL_law_489 : decode cL_law 489 = .ok (.laload, 1) := by decide +kernel
theorem dL_law_490 : decode cL_law 490 = .ok (.iload 6, 2) := by decide +kernel
theorem dL_law_492 : decode cL_law 492 = .ok (.i2l, 1) := by decide +kernel
theorem dL_law_493 : decode cL_law 493 = .ok (.lcmp, 1) := by decide +kernel
theorem dL_law_494 : decode cL_law 494 = .ok (.ifCond .eq 5, 3) := by decide +kernel
theorem dL_law_497 : decode cL_law 497 = .ok (.iconst 0, 1) := by decide +kernel
theorem dL_law_498 : decode cL_law 498 = .ok (.ireturn, 1) := by decide +kernel
theorem dL_law_499 : decode cL_law 499 = .ok (.goto 377, 3) := by decide +kernel
theorem dL_law_502 : decode cL_law 502 = .ok (.aload_n 1, 1) := by decide +kernel
theorem dL_law_503 : decode cL_law 503 = .ok (.aload_n 0, 1) := by decide +kernel
theorem dL_law_504 : decode cL_law 504 = .ok (.iload 4, 2) := by decide +kernel
theorem dL_law_506 : decode cL_law 506 = .ok (.iconst 1, 1) := by decide +kernel
theorem dL_law_507 : decode cL_law 507 = .ok (.iadd, 1) := by decide +kernel
theorem dL_law_508 : decode cL_law 508 = .ok (.iaload, 1) := by decide +kernel
theorem dL_law_509 : decode cL_law 509 = .ok (.ifCond .eq 7, 3) := by decide +kernel
theorem dL_law_512 : decode cL_law 512 = .ok (.iconst 1, 1) := by decide +kernel
theorem dL_law_513 : decode cL_law 513 = .ok (.goto 4, 3) := by decide +kernel
theorem dL_law_516 : decode cL_law 516 = .ok (.iconst 0, 1) := by decide +kernel
theorem dL_law_517 : decode cL_law 517 = .ok (.aload_n 3, 1) := by decide +kernel
theorem dL_law_518 : decode cL_law 518 = .ok (.invokestatic 97, 3) := by decide +kernel
theorem dL_law_521 : decode cL_law 521 = .ok (.istore 5, 2) := by decide +kernel
theorem dL_law_523 : decode cL_law 523 = .ok (.aload_n 2, 1) := by decide +kernel
theorem dL_law_524 : decode cL_law 524 = .ok (.aload_n 0, 1) := by decide +kernel
theorem dL_law_525 : decode cL_law 525 = .ok (.iload 4, 2) := by decide +kernel
theorem dL_law_527 : decode cL_law 527 = .ok (.iconst 1, 1) := by decide +kernel
theorem dL_law_528 : decode cL_law 528 = .ok (.iadd, 1) := by decide +kernel
theorem dL_law_529 : decode cL_law 529 = .ok (.iaload, 1) := by decide +kernel
theorem dL_law_530 : decode cL_law 530 = .ok (.ifCond .eq 7, 3) := by decide +kernel
theorem dL_law_533 : decode cL_law 533 = .ok (.iconst 1, 1) := by decide +kernel
theorem dL_law_534 : decode cL_law 534 = .ok (.goto 4, 3) := by decide +kernel
theorem dL_law_537 : decode cL_law 537 = .ok (.iconst 0, 1) := by decide +kernel
theorem dL_law_538 : decode cL_law 538 = .ok (.invokevirtual 100, 3) := by decide +kernel
theorem dL_law_541 : decode cL_law 541 = .ok (.istore 6, 2) := by decide +kernel
theorem dL_law_543 : decode cL_law 543 = .ok (.aload_n 2, 1) := by decide +kernel
theorem dL_law_544 : decode cL_law 544 = .ok (.invokevirtual 77, 3) := by decide +kernel
theorem dL_law_547 : decode cL_law 547 = .ok (.iload 5, 2) := by decide +kernel
theorem dL_law_549 : decode cL_law 549 = .ok (.if_icmp .eq 5, 3) := by decide +kernel
theorem dL_law_552 : decode cL_law 552 = .ok (.iconst 0, 1) := by decide +kernel
theorem dL_law_553 : decode cL_law 553 = .ok (.ireturn, 1) := by decide +kernel
theorem dL_law_554 : decode cL_law 554 = .ok (.iload 5, 2) := by decide +kernel
theorem dL_law_556 : decode cL_law 556 = .ok (.ifCond .ne 22, 3) := by decide +kernel
theorem dL_law_559 : decode cL_law 559 = .ok (.aload_n 3, 1) := by decide +kernel
theorem dL_law_560 : decode cL_law 560 = .ok (.iconst 0, 1) := by decide +kernel
theorem dL_law_561 : decode cL_law 561 = .ok (.laload, 1) := by decide +kernel
theorem dL_law_562 : decode cL_law 562 = .ok (.iload 6, 2) := by decide +kernel
theorem dL_law_564 : decode cL_law 564 = .ok (.ifCond .eq 7, 3) := by decide +kernel
theorem dL_law_567 : decode cL_law 567 = .ok (.lconst 1, 1) := by decide +kernel
theorem dL_law_568 : decode cL_law 568 = .ok (.goto 4, 3) := by decide +kernel
theorem dL_law_571 : decode cL_law 571 = .ok (.lconst 0, 1) := by decide +kernel
theorem dL_law_572 : decode cL_law 572 = .ok (.lcmp, 1) := by decide +kernel
theorem dL_law_573 : decode cL_law 573 = .ok (.ifCond .eq 5, 3) := by decide +kernel
theorem dL_law_576 : decode cL_law 576 = .ok (.iconst 0, 1) := by decide +kernel
theorem dL_law_577 : decode cL_law 577 = .ok (.ireturn, 1) := by decide +kernel
theorem dL_law_578 : decode cL_law 578 = .ok (.goto 298, 3) := by decide +kernel
theorem dL_law_581 : decode cL_law 581 = .ok (.aload_n 1, 1) := by decide +kernel
theorem dL_law_582 : decode cL_law 582 = .ok (.aload_n 3, 1) := by decide +kernel
theorem dL_law_583 : decode cL_law 583 = .ok (.invokestatic 101, 3) := by decide +kernel
theorem dL_law_586 : decode cL_law 586 = .ok (.istore 5, 2) := by decide +kernel
theorem dL_law_588 : decode cL_law 588 = .ok (.aload_n 2, 1) := by decide +kernel
theorem dL_law_589 : decode cL_law 589 = .ok (.invokevirtual 103, 3) := by decide +kernel
theorem dL_law_592 : decode cL_law 592 = .ok (.istore 6, 2) := by decide +kernel
theorem dL_law_594 : decode cL_law 594 = .ok (.aload_n 2, 1) := by decide +kernel
theorem dL_law_595 : decode cL_law 595 = .ok (.invokevirtual 77, 3) := by decide +kernel
theorem dL_law_598 : decode cL_law 598 = .ok (.iload 5, 2) := by decide +kernel
theorem dL_law_600 : decode cL_law 600 = .ok (.if_icmp .eq 5, 3) := by decide +kernel
theorem dL_law_603 : decode cL_law 603 = .ok (.iconst 0, 1) := by decide +kernel
theorem dL_law_604 : decode cL_law 604 = .ok (.ireturn, 1) := by decide +kernel
theorem dL_law_605 : decode cL_law 605 = .ok (.iload 5, 2) := by decide +kernel
theorem dL_law_607 : decode cL_law 607 = .ok (.ifCond .ne 15, 3) := by decide +kernel
theorem dL_law_610 : decode cL_law 610 = .ok (.aload_n 3, 1) := by decide +kernel
theorem dL_law_611 : decode cL_law 611 = .ok (.iconst 0, 1) := by decide +kernel
theorem dL_law_612 : decode cL_law 612 = .ok (.laload, 1) := by decide +kernel
theorem dL_law_613 : decode cL_law 613 = .ok (.iload 6, 2) := by decide +kernel
theorem dL_law_615 : decode cL_law 615 = .ok (.i2l, 1) := by decide +kernel
theorem dL_law_616 : decode cL_law 616 = .ok (.lcmp, 1) := by decide +kernel
theorem dL_law_617 : decode cL_law 617 = .ok (.ifCond .eq 5, 3) := by decide +kernel
theorem dL_law_620 : decode cL_law 620 = .ok (.iconst 0, 1) := by decide +kernel
theorem dL_law_621 : decode cL_law 621 = .ok (.ireturn, 1) := by decide +kernel
theorem dL_law_622 : decode cL_law 622 = .ok (.goto 254, 3) := by decide +kernel
theorem dL_law_625 : decode cL_law 625 = .ok (.aload_n 1, 1) := by decide +kernel
theorem dL_law_626 : decode cL_law 626 = .ok (.aload_n 3, 1) := by decide +kernel
theorem dL_law_627 : decode cL_law 627 = .ok (.invokestatic 104, 3) := by decide +kernel
theorem dL_law_630 : decode cL_law 630 = .ok (.istore 5, 2) := by decide +kernel
theorem dL_law_632 : decode cL_law 632 = .ok (.aload_n 2, 1) := by decide +kernel
theorem dL_law_633 : decode cL_law 633 = .ok (.invokevirtual 106, 3) := by decide +kernel
theorem dL_law_636 : decode cL_law 636 = .ok (.istore 6, 2) := by decide +kernel
theorem dL_law_638 : decode cL_law 638 = .ok (.aload_n 2, 1) := by decide +kernel
theorem dL_law_639 : decode cL_law 639 = .ok (.invokevirtual 77, 3) := by decide +kernel
theorem dL_law_642 : decode cL_law 642 = .ok (.iload 5, 2) := by decide +kernel
theorem dL_law_644 : decode cL_law 644 = .ok (.if_icmp .eq 5, 3) := by decide +kernel
theorem dL_law_647 : decode cL_law 647 = .ok (.iconst 0, 1) := by decide +kernel
theorem dL_law_648 : decode cL_law 648 = .ok (.ireturn, 1) := by decide +kernel
theorem dL_law_649 : decode cL_law 649 = .ok (.iload 5, 2) := by decide +kernel
theorem dL_law_651 : decode cL_law 651 = .ok (.ifCond .ne 15, 3) := by decide +kernel
theorem dL_law_654 : decode cL_law 654 = .ok (.aload_n 3, 1) := by decide +kernel
theorem dL_law_655 : decode cL_law 655 = .ok (.iconst 0, 1) := by decide +kernel
theorem dL_law_656 : decode cL_law 656 = .ok (.laload, 1) := by decide +kernel
theorem dL_law_657 : decode cL_law 657 = .ok (.iload 6, 2) := by decide +kernel
theorem dL_law_659 : decode cL_law 659 = .ok (.i2l, 1) := by decide +kernel
theorem dL_law_660 : decode cL_law 660 = .ok (.lcmp, 1) := by decide +kernel
theorem dL_law_661 : decode cL_law 661 = .ok (.ifCond .eq 5, 3) := by decide +kernel
theorem dL_law_664 : decode cL_law 664 = .ok (.iconst 0, 1) := by decide +kernel
theorem dL_law_665 : decode cL_law 665 = .ok (.ireturn, 1) := by decide +kernel
theorem dL_law_666 : decode cL_law 666 = .ok (.goto 210, 3) := by decide +kernel
theorem dL_law_669 : decode cL_law 669 = .ok (.aload_n 1, 1) := by decide +kernel
theorem dL_law_670 : decode cL_law 670 = .ok (.aload_n 3, 1) := by decide +kernel
theorem dL_law_671 : decode cL_law 671 = .ok (.invokestatic 107, 3) := by decide +kernel
theorem dL_law_674 : decode cL_law 674 = .ok (.istore 5, 2) := by decide +kernel
theorem dL_law_676 : decode cL_law 676 = .ok (.aload_n 2, 1) := by decide +kernel
theorem dL_law_677 : decode cL_law 677 = .ok (.invokevirtual 109, 3) := by decide +kernel
theorem dL_law_680 : decode cL_law 680 = .ok (.istore 6, 2) := by decide +kernel
theorem dL_law_682 : decode cL_law 682 = .ok (.aload_n 2, 1) := by decide +kernel
theorem dL_law_683 : decode cL_law 683 = .ok (.invokevirtual 77, 3) := by decide +kernel
theorem dL_law_686 : decode cL_law 686 = .ok (.iload 5, 2) := by decide +kernel
theorem dL_law_688 : decode cL_law 688 = .ok (.if_icmp .eq 5, 3) := by decide +kernel
theorem dL_law_691 : decode cL_law 691 = .ok (.iconst 0, 1) := by decide +kernel
theorem dL_law_692 : decode cL_law 692 = .ok (.ireturn, 1) := by decide +kernel
theorem dL_law_693 : decode cL_law 693 = .ok (.iload 5, 2) := by decide +kernel
theorem dL_law_695 : decode cL_law 695 = .ok (.ifCond .ne 15, 3) := by decide +kernel
theorem dL_law_698 : decode cL_law 698 = .ok (.aload_n 3, 1) := by decide +kernel
theorem dL_law_699 : decode cL_law 699 = .ok (.iconst 0, 1) := by decide +kernel
theorem dL_law_700 : decode cL_law 700 = .ok (.laload, 1) := by decide +kernel
theorem dL_law_701 : decode cL_law 701 = .ok (.iload 6, 2) := by decide +kernel
theorem dL_law_703 : decode cL_law 703 = .ok (.i2l, 1) := by decide +kernel
theorem dL_law_704 : decode cL_law 704 = .ok (.lcmp, 1) := by decide +kernel
theorem dL_law_705 : decode cL_law 705 = .ok (.ifCond .eq 5, 3) := by decide +kernel
theorem dL_law_708 : decode cL_law 708 = .ok (.iconst 0, 1) := by decide +kernel
theorem dL_law_709 : decode cL_law 709 = .ok (.ireturn, 1) := by decide +kernel
theorem dL_law_710 : decode cL_law 710 = .ok (.goto 166, 3) := by decide +kernel
theorem dL_law_713 : decode cL_law 713 = .ok (.aload_n 1, 1) := by decide +kernel
theorem dL_law_714 : decode cL_law 714 = .ok (.aload_n 0, 1) := by decide +kernel
theorem dL_law_715 : decode cL_law 715 = .ok (.iload 4, 2) := by decide +kernel
theorem dL_law_717 : decode cL_law 717 = .ok (.iconst 1, 1) := by decide +kernel
theorem dL_law_718 : decode cL_law 718 = .ok (.iadd, 1) := by decide +kernel
theorem dL_law_719 : decode cL_law 719 = .ok (.iaload, 1) := by decide +kernel
theorem dL_law_720 : decode cL_law 720 = .ok (.aload_n 3, 1) := by decide +kernel
theorem dL_law_721 : decode cL_law 721 = .ok (.invokestatic 110, 3) := by decide +kernel
theorem dL_law_724 : decode cL_law 724 = .ok (.istore 5, 2) := by decide +kernel
theorem dL_law_726 : decode cL_law 726 = .ok (.aload_n 2, 1) := by decide +kernel
theorem dL_law_727 : decode cL_law 727 = .ok (.aload_n 0, 1) := by decide +kernel
theorem dL_law_728 : decode cL_law 728 = .ok (.iload 4, 2) := by decide +kernel
theorem dL_law_730 : decode cL_law 730 = .ok (.iconst 1, 1) := by decide +kernel
theorem dL_law_731 : decode cL_law 731 = .ok (.iadd, 1) := by decide +kernel
theorem dL_law_732 : decode cL_law 732 = .ok (.iaload, 1) := by decide +kernel
theorem dL_law_733 : decode cL_law 733 = .ok (.invokevirtual 112, 3) := by decide +kernel
theorem dL_law_736 : decode cL_law 736 = .ok (.istore 6, 2) := by decide +kernel
theorem dL_law_738 : decode cL_law 738 = .ok (.aload_n 2, 1) := by decide +kernel
theorem dL_law_739 : decode cL_law 739 = .ok (.invokevirtual 77, 3) := by decide +kernel
theorem dL_law_742 : decode cL_law 742 = .ok (.iload 5, 2) := by decide +kernel
theorem dL_law_744 : decode cL_law 744 = .ok (.if_icmp .eq 5, 3) := by decide +kernel
theorem dL_law_747 : decode cL_law 747 = .ok (.iconst 0, 1) := by decide +kernel
theorem dL_law_748 : decode cL_law 748 = .ok (.ireturn, 1) := by decide +kernel
theorem dL_law_749 : decode cL_law 749 = .ok (.iload 5, 2) := by decide +kernel
theorem dL_law_751 : decode cL_law 751 = .ok (.ifCond .ne 15, 3) := by decide +kernel
theorem dL_law_754 : decode cL_law 754 = .ok (.aload_n 3, 1) := by decide +kernel
theorem dL_law_755 : decode cL_law 755 = .ok (.iconst 0, 1) := by decide +kernel
theorem dL_law_756 : decode cL_law 756 = .ok (.laload, 1) := by decide +kernel
theorem dL_law_757 : decode cL_law 757 = .ok (.iload 6, 2) := by decide +kernel
theorem dL_law_759 : decode cL_law 759 = .ok (.i2l, 1) := by decide +kernel
theorem dL_law_760 : decode cL_law 760 = .ok (.lcmp, 1) := by decide +kernel
theorem dL_law_761 : decode cL_law 761 = .ok (.ifCond .eq 5, 3) := by decide +kernel
theorem dL_law_764 : decode cL_law 764 = .ok (.iconst 0, 1) := by decide +kernel
theorem dL_law_765 : decode cL_law 765 = .ok (.ireturn, 1) := by decide +kernel
theorem dL_law_766 : decode cL_law 766 = .ok (.goto 110, 3) := by decide +kernel
theorem dL_law_769 : decode cL_law 769 = .ok (.aload_n 1, 1) := by decide +kernel
theorem dL_law_770 : decode cL_law 770 = .ok (.invokevirtual 113, 3) := by decide +kernel
theorem dL_law_773 : decode cL_law 773 = .ok (.aload_n 2, 1) := by decide +kernel
theorem dL_law_774 : decode cL_law 774 = .ok (.invokevirtual 116, 3) := by decide +kernel
theorem dL_law_777 : decode cL_law 777 = .ok (.if_icmp .eq 99, 3) := by decide +kernel
theorem dL_law_780 : decode cL_law 780 = .ok (.iconst 0, 1) := by decide +kernel
theorem dL_law_781 : decode cL_law 781 = .ok (.ireturn, 1) := by decide +kernel
theorem dL_law_782 : decode cL_law 782 = .ok (.aload_n 1, 1) := by decide +kernel
theorem dL_law_783 : decode cL_law 783 = .ok (.aload_n 0, 1) := by decide +kernel
theorem dL_law_784 : decode cL_law 784 = .ok (.iload 4, 2) := by decide +kernel
theorem dL_law_786 : decode cL_law 786 = .ok (.iconst 1, 1) := by decide +kernel
theorem dL_law_787 : decode cL_law 787 = .ok (.iadd, 1) := by decide +kernel
theorem dL_law_788 : decode cL_law 788 = .ok (.iaload, 1) := by decide +kernel
theorem dL_law_789 : decode cL_law 789 = .ok (.aload_n 3, 1) := by decide +kernel
theorem dL_law_790 : decode cL_law 790 = .ok (.invokestatic 117, 3) := by decide +kernel
theorem dL_law_793 : decode cL_law 793 = .ok (.istore 5, 2) := by decide +kernel
theorem dL_law_795 : decode cL_law 795 = .ok (.aload_n 2, 1) := by decide +kernel
theorem dL_law_796 : decode cL_law 796 = .ok (.aload_n 0, 1) := by decide +kernel
theorem dL_law_797 : decode cL_law 797 = .ok (.iload 4, 2) := by decide +kernel
theorem dL_law_799 : decode cL_law 799 = .ok (.iconst 1, 1) := by decide +kernel
theorem dL_law_800 : decode cL_law 800 = .ok (.iadd, 1) := by decide +kernel
theorem dL_law_801 : decode cL_law 801 = .ok (.iaload, 1) := by decide +kernel
theorem dL_law_802 : decode cL_law 802 = .ok (.invokevirtual 119, 3) := by decide +kernel
theorem dL_law_805 : decode cL_law 805 = .ok (.istore 6, 2) := by decide +kernel
theorem dL_law_807 : decode cL_law 807 = .ok (.aload_n 2, 1) := by decide +kernel
theorem dL_law_808 : decode cL_law 808 = .ok (.invokevirtual 77, 3) := by decide +kernel
theorem dL_law_811 : decode cL_law 811 = .ok (.iload 5, 2) := by decide +kernel
theorem dL_law_813 : decode cL_law 813 = .ok (.if_icmp .eq 5, 3) := by decide +kernel
theorem dL_law_816 : decode cL_law 816 = .ok (.iconst 0, 1) := by decide +kernel
theorem dL_law_817 : decode cL_law 817 = .ok (.ireturn, 1) := by decide +kernel
theorem dL_law_818 : decode cL_law 818 = .ok (.iload 5, 2) := by decide +kernel
theorem dL_law_820 : decode cL_law 820 = .ok (.ifCond .ne 15, 3) := by decide +kernel
theorem dL_law_823 : decode cL_law 823 = .ok (.aload_n 3, 1) := by decide +kernel
theorem dL_law_824 : decode cL_law 824 = .ok (.iconst 0, 1) := by decide +kernel
theorem dL_law_825 : decode cL_law 825 = .ok (.laload, 1) := by decide +kernel
theorem dL_law_826 : decode cL_law 826 = .ok (.iload 6, 2) := by decide +kernel
theorem dL_law_828 : decode cL_law 828 = .ok (.i2l, 1) := by decide +kernel
theorem dL_law_829 : decode cL_law 829 = .ok (.lcmp, 1) := by decide +kernel
theorem dL_law_830 : decode cL_law 830 = .ok (.ifCond .eq 5, 3) := by decide +kernel
theorem dL_law_833 : decode cL_law 833 = .ok (.iconst 0, 1) := by decide +kernel
theorem dL_law_834 : decode cL_law 834 = .ok (.ireturn, 1) := by decide +kernel
theorem dL_law_835 : decode cL_law 835 = .ok (.goto 41, 3) := by decide +kernel
theorem dL_law_838 : decode cL_law 838 = .ok (.aload_n 1, 1) := by decide +kernel
theorem dL_law_839 : decode cL_law 839 = .ok (.aload_n 0, 1) := by decide +kernel
theorem dL_law_840 : decode cL_law 840 = .ok (.iload 4, 2) := by decide +kernel
theorem dL_law_842 : decode cL_law 842 = .ok (.iconst 1, 1) := by decide +kernel
theorem dL_law_843 : decode cL_law 843 = .ok (.iadd, 1) := by decide +kernel
theorem dL_law_844 : decode cL_law 844 = .ok (.iaload, 1) := by decide +kernel
theorem dL_law_845 : decode cL_law 845 = .ok (.invokevirtual 120, 3) := by decide +kernel
theorem dL_law_848 : decode cL_law 848 = .ok (.aload_n 2, 1) := by decide +kernel
theorem dL_law_849 : decode cL_law 849 = .ok (.aload_n 0, 1) := by decide +kernel
theorem dL_law_850 : decode cL_law 850 = .ok (.iload 4, 2) := by decide +kernel
theorem dL_law_852 : decode cL_law 852 = .ok (.iconst 1, 1) := by decide +kernel
theorem dL_law_853 : decode cL_law 853 = .ok (.iadd, 1) := by decide +kernel
theorem dL_law_854 : decode cL_law 854 = .ok (.iaload, 1) := by decide +kernel
theorem dL_law_855 : decode cL_law 855 = .ok (.invokevirtual 123, 3) := by decide +kernel
theorem dL_law_858 : decode cL_law 858 = .ok (.if_icmp .eq 18, 3) := by decide +kernel
theorem dL_law_861 : decode cL_law 861 = .ok (.iconst 0, 1) := by decide +kernel
theorem dL_law_862 : decode cL_law 862 = .ok (.ireturn, 1) := by decide +kernel
theorem dL_law_863 : decode cL_law 863 = .ok (.aload_n 1, 1) := by decide +kernel
theorem dL_law_864 : decode cL_law 864 = .ok (.invokevirtual 124, 3) := by decide +kernel
theorem dL_law_867 : decode cL_law 867 = .ok (.aload_n 2, 1) := by decide +kernel
theorem dL_law_868 : decode cL_law 868 = .ok (.invokevirtual 127, 3) := by decide +kernel
theorem dL_law_871 : decode cL_law 871 = .ok (.if_icmp .eq 5, 3) := by decide +kernel
theorem dL_law_874 : decode cL_law 874 = .ok (.iconst 0, 1) := by decide +kernel
theorem dL_law_875 : decode cL_law 875 = .ok (.ireturn, 1) := by decide +kernel
theorem dL_law_876 : decode cL_law 876 = .ok (.iinc 4 4, 3) := by decide +kernel
theorem dL_law_879 : decode cL_law 879 = .ok (.goto (-836), 3) := by decide +kernel
theorem dL_law_882 : decode cL_law 882 = .ok (.iconst 1, 1) := by decide +kernel
theorem dL_law_883 : decode cL_law 883 = .ok (.ireturn, 1) := by decide +kernel
end
section
/-! TREES, pure: a tree of addresses with colours (true: red), contexts (a hole in a tree), what the fields of the nodes hold, red-black rules. Slots of a Node: 3 left, 4 right, 5 parent, 6 red, 7 size -/
abbrev ob_t : Type := Std.DTreeMap.Internal.Impl Nat (fun _ => Bool)
abbrev ob_n (a : Nat) (c : Bool) (l r : ob_t) : ob_t := .inner 0 a c l r
def ob_top (nl : Nat) : ob_t → Nat
  | .leaf => nl
  | .inner _ a _ _ _ => a
def ob_ads : ob_t → List Nat
  | .leaf => []
  | .inner _ a _ l r => ob_ads l ++ a :: ob_ads r
def ob_siz : ob_t → Nat
  | .leaf => 0
  | .inner _ _ _ l r => ob_siz l + ob_siz r + 1
def ob_red : ob_t → Bool
  | .leaf => false
  | .inner _ _ c _ _ => c
def ob_cv (c : Bool) : Value := .int (if c then 1 else 0)
def ob_tm (V : Nat → Nat → Value) (nl : Nat) : ob_t → Nat → Prop
  | .leaf, _ => True
  | .inner _ a c l r, p => V a 3 = .ref (ob_top nl l) ∧ V a 4 = .ref (ob_top nl r) ∧ V a 5 = .ref p ∧ V a 6 = ob_cv c ∧ V a 7 = .int (nI (ob_siz l + ob_siz r + 1)) ∧ ob_tm V nl l a ∧ ob_tm V nl r a
abbrev ob_f : Type := Bool × Nat × Bool × ob_t × Nat
def ob_plug : List ob_f → ob_t → ob_t
  | [], t => t
  | (d, a, c, b, q) :: z, t => ob_plug z (if d then .inner q a c t b else .inner q a c b t)
def ob_zp (nl : Nat) : List ob_f → Nat
  | [] => nl
  | (_, a, _, _, _) :: _ => a
def ob_zm (V : Nat → Nat → Value) (nl : Nat) : List ob_f → Nat → Nat → Prop
  | [], _, _ => True
  | (d, a, c, b, q) :: z, h, n => V a 3 = .ref (if d then h else ob_top nl b) ∧ V a 4 = .ref (if d then ob_top nl b else h) ∧ V a 5 = .ref (ob_zp nl z) ∧ V a 6 = ob_cv c ∧ V a 7 = .int (nI (n + ob_siz b + 1)) ∧ ob_tm V nl b a ∧ ob_zm V nl z a (n + ob_siz b + 1)
def ob_zads : List ob_f → List Nat
  | [] => []
  | (_, a, _, b, _) :: z => a :: (ob_ads b ++ ob_zads z)
def ob_zl : List ob_f → List Nat
  | [] => []
  | (d, a, _, b, _) :: z => ob_zl z ++ (if d then [] else ob_ads b ++ [a])
def ob_zr : List ob_f → List Nat
  | [] => []
  | (d, a, _, b, _) :: z => (if d then a :: ob_ads b else []) ++ ob_zr z
def ob_zs : List ob_f → Nat
  | [] => 0
  | (_, _, _, b, _) :: z => ob_siz b + 1 + ob_zs z
theorem ob_siz_len : ∀ t : ob_t, ob_siz t = (ob_ads t).length
  | .leaf => rfl
  | .inner _ a c l r => by
    simp only [ob_siz, ob_ads, List.length_append, List.length_cons, ob_siz_len l, ob_siz_len r]; omega
theorem ob_ads_plug : ∀ (z : List ob_f) (t : ob_t), ob_ads (ob_plug z t) = ob_zl z ++ ob_ads t ++ ob_zr z
  | [], t => by simp [ob_plug, ob_zl, ob_zr]
  | (d, a, c, b, q) :: z, t => by
    cases d <;> simp [ob_plug, ob_zl, ob_zr, ob_ads_plug z, ob_ads, List.append_assoc]
theorem ob_perm_plug : ∀ (z : List ob_f) (t : ob_t), (ob_ads (ob_plug z t)).Perm (ob_zads z ++ ob_ads t)
  | [], t => by simp [ob_plug, ob_zads]
  | (d, a, c, b, q) :: z, t => by
    refine (ob_perm_plug z _).trans ?_
    cases d
    · simp only [ob_zads, ob_ads, Bool.false_eq_true, if_false]
      have : ((ob_zads z ++ (ob_ads b ++ a :: ob_ads t))).Perm (a :: (ob_ads b ++ ob_zads z) ++ ob_ads t) := by
        have e1 : (ob_zads z ++ (ob_ads b ++ a :: ob_ads t)).Perm ((ob_zads z ++ ob_ads b) ++ a :: ob_ads t) := by rw [List.append_assoc]
        refine e1.trans ?_
        refine (List.perm_middle).trans ?_
        rw [List.cons_append]
        exact List.Perm.cons a ((List.perm_append_comm).append_right _)
      exact this
    · simp only [ob_zads, ob_ads, if_true]
      have : (ob_zads z ++ (ob_ads t ++ a :: ob_ads b)).Perm (a :: (ob_ads b ++ ob_zads z) ++ ob_ads t) := by
        have e1 : (ob_zads z ++ (ob_ads t ++ a :: ob_ads b)).Perm ((ob_zads z ++ ob_ads t) ++ a :: ob_ads b) := by rw [List.append_assoc]
        refine e1.trans ((List.perm_middle).trans ?_)
        rw [List.cons_append]
        refine List.Perm.cons a ?_
        refine (List.perm_append_comm).trans ?_
        rw [List.append_assoc]
      exact this
theorem ob_nd_plug {z : List ob_f} {t : ob_t} : (ob_ads (ob_plug z t)).Nodup ↔ (ob_zads z ++ ob_ads t).Nodup := (ob_perm_plug z t).nodup_iff
theorem ob_mem_plug {z : List ob_f} {t : ob_t} {a : Nat} : a ∈ ob_ads (ob_plug z t) ↔ a ∈ ob_zads z ∨ a ∈ ob_ads t := by rw [(ob_perm_plug z t).mem_iff, List.mem_append]
theorem ob_tm_plug (V : Nat → Nat → Value) (nl : Nat) : ∀ (z : List ob_f) (t : ob_t), ob_tm V nl (ob_plug z t) nl ↔ ob_zm V nl z (ob_top nl t) (ob_siz t) ∧ ob_tm V nl t (ob_zp nl z)
  | [], t => by simp [ob_plug, ob_zm, ob_zp]
  | (d, a, c, b, q) :: z, t => by
    rw [ob_plug, ob_tm_plug V nl z]
    cases d
    · simp only [Bool.false_eq_true, if_false, ob_top, ob_siz, ob_tm, ob_zm, ob_zp, Nat.add_comm (ob_siz b) (ob_siz t)]
      constructor
      · rintro ⟨h1, h2, h3, h4, h5, h6, h7, h8⟩; exact ⟨⟨h2, h3, h4, h5, h6, h7, h1⟩, h8⟩
      · rintro ⟨⟨h2, h3, h4, h5, h6, h7, h1⟩, h8⟩; exact ⟨h1, h2, h3, h4, h5, h6, h7, h8⟩
    · simp only [if_true, ob_top, ob_siz, ob_tm, ob_zm, ob_zp]
      constructor
      · rintro ⟨h1, h2, h3, h4, h5, h6, h7, h8⟩; exact ⟨⟨h2, h3, h4, h5, h6, h8, h1⟩, h7⟩
      · rintro ⟨⟨h2, h3, h4, h5, h6, h8, h1⟩, h7⟩; exact ⟨h1, h2, h3, h4, h5, h6, h7, h8⟩
theorem ob_top_plug (nl : Nat) : ∀ (z : List ob_f) (t t' : ob_t), z ≠ [] → ob_top nl (ob_plug z t) = ob_top nl (ob_plug z t')
  | [], _, _, h => absurd rfl h
  | [(d, a, c, b, q)], t, t', _ => by cases d <;> rfl
  | (d, a, c, b, q) :: f :: z, t, t', _ => ob_top_plug nl (f :: z) _ _ (by simp)
/-- what a tree's fields are depends on its own nodes alone -/
theorem ob_tm_congr {V V' : Nat → Nat → Value} {nl : Nat} : ∀ {t : ob_t} {p : Nat}, (∀ a ∈ ob_ads t, ∀ k, 3 ≤ k → k ≤ 7 → V' a k = V a k) → ob_tm V nl t p → ob_tm V' nl t p
  | .leaf, _, _, _ => trivial
  | .inner q a c l r, p, h, ⟨h1, h2, h3, h4, h5, h6, h7⟩ => by
    have ha : a ∈ ob_ads (.inner q a c l r : ob_t) := by simp [ob_ads]
    refine ⟨?_, ?_, ?_, ?_, ?_, ob_tm_congr (fun x hx => h x (by simp [ob_ads, hx])) h6, ob_tm_congr (fun x hx => h x (by simp [ob_ads, hx])) h7⟩
    · rw [h a ha 3 (by omega) (by omega)]; exact h1
    · rw [h a ha 4 (by omega) (by omega)]; exact h2
    · rw [h a ha 5 (by omega) (by omega)]; exact h3
    · rw [h a ha 6 (by omega) (by omega)]; exact h4
    · rw [h a ha 7 (by omega) (by omega)]; exact h5
theorem ob_zm_congr {V V' : Nat → Nat → Value} {nl : Nat} : ∀ {z : List ob_f} {h n : Nat}, (∀ a ∈ ob_zads z, ∀ k, 3 ≤ k → k ≤ 7 → V' a k = V a k) → ob_zm V nl z h n → ob_zm V' nl z h n
  | [], _, _, _, _ => trivial
  | (d, a, c, b, q) :: z, hh, n, h, ⟨h1, h2, h3, h4, h5, h6, h7⟩ => by
    have ha : a ∈ ob_zads ((d, a, c, b, q) :: z) := by simp [ob_zads]
    refine ⟨?_, ?_, ?_, ?_, ?_, ob_tm_congr (fun x hx => h x (by simp [ob_zads, hx])) h6, ob_zm_congr (fun x hx => h x (by simp [ob_zads, hx])) h7⟩
    · rw [h a ha 3 (by omega) (by omega)]; exact h1
    · rw [h a ha 4 (by omega) (by omega)]; exact h2
    · rw [h a ha 5 (by omega) (by omega)]; exact h3
    · rw [h a ha 6 (by omega) (by omega)]; exact h4
    · rw [h a ha 7 (by omega) (by omega)]; exact h5
/-- every node of a tree stands in a context -/
theorem ob_split : ∀ (t : ob_t) (a : Nat) (z0 : List ob_f), a ∈ ob_ads t → ∃ (z : List ob_f) (q : Nat) (c : Bool) (l r : ob_t), ob_plug z0 t = ob_plug z (.inner q a c l r)
  | .leaf, a, _, h => by simp [ob_ads] at h
  | .inner q b c l r, a, z0, h => by
    simp only [ob_ads, List.mem_append, List.mem_cons] at h
    rcases h with h | rfl | h
    · exact (ob_split l a ((true, b, c, r, q) :: z0) h).imp fun z hz => hz
    · exact ⟨z0, q, c, l, r, rfl⟩
    · exact (ob_split r a ((false, b, c, l, q) :: z0) h).imp fun z hz => hz
end
section
/-! CALLS, the number of parameters said beside -/
section OBN
variable {X : ob_X} {y : ob_y} {R : Room} {Q : ob_r → ob_w → Prop} {pc : Nat} {lv : List (Nat × Value)} {st : List Value} {w : ob_w} {k n : Nat}
/-- a callee that never throws -/
theorem og_callVn {idx b ci n0 d mc ms np : Nat} {z : ob_y} {As stk : List Value} {Q2 : ob_r → ob_w → Prop} (hdg : decode y.2.1 pc = .ok (.invokevirtual idx, 3)) (hv : ob_mv y.1.cls idx z np) (hM : ob_C X z d mc ms (.ref b :: As) w Q2) (hnp : np = As.length) (hb : w.1 b = some (ci, n0)) (hci : (vwCl[ci]?).map (fun q => q.1) = some z.1.cls) (hstk : stk = As.reverse ++ .ref b :: st) (hR : d + 1 ≤ R.frames ∧ 8 + (z.2.2.1 + 11) + 60 * d ≤ R.locals) (hk : k + mc ≤ R.cells) (hs : n + ms ≤ R.slots) (hsum : (st.map fun v => v.category).sum ≤ 8) (hh : y.2.2.2.2 = [])
    (hno : ∀ E w', ¬ Q2 (.inr E) w') (kk : ∀ v w', Q2 (.inl v) w' → ob_G X y R Q (pc + 3) lv (v.toList ++ st) w' (k + mc) (n + ms)) : ob_G X y R Q pc lv stk w k n := by
  subst hnp
  exact og_callV hdg hv hM hb hci hstk hR hk hs hsum hh (fun E w' h => absurd h (hno E w')) kk
theorem og_callSn {idx d mc ms np : Nat} {z : ob_y} {As stk : List Value} {Q2 : ob_r → ob_w → Prop} (hdg : decode y.2.1 pc = .ok (.invokestatic idx, 3)) (hv : ob_ms y.1.cls idx z np) (hM : ob_C X z d mc ms As w Q2) (hnp : np = As.length) (hstk : stk = As.reverse ++ st) (hR : d + 1 ≤ R.frames ∧ 8 + (z.2.2.1 + 11) + 60 * d ≤ R.locals) (hk : k + mc ≤ R.cells) (hs : n + ms ≤ R.slots) (hsum : (st.map fun v => v.category).sum ≤ 8) (hh : y.2.2.2.2 = [])
    (hno : ∀ E w', ¬ Q2 (.inr E) w') (kk : ∀ v w', Q2 (.inl v) w' → ob_G X y R Q (pc + 3) lv (v.toList ++ st) w' (k + mc) (n + ms)) : ob_G X y R Q pc lv stk w k n := by
  subst hnp
  exact og_callS hdg hv hM hstk hR hk hs hsum hh (fun E w' h => absurd h (hno E w')) kk
/-- a callee that may throw: what it throws goes on -/
theorem og_callVx {idx b ci n0 d mc ms np : Nat} {z : ob_y} {As stk : List Value} {Q2 : ob_r → ob_w → Prop} (hdg : decode y.2.1 pc = .ok (.invokevirtual idx, 3)) (hv : ob_mv y.1.cls idx z np) (hM : ob_C X z d mc ms (.ref b :: As) w Q2) (hnp : np = As.length) (hb : w.1 b = some (ci, n0)) (hci : (vwCl[ci]?).map (fun q => q.1) = some z.1.cls) (hstk : stk = As.reverse ++ .ref b :: st) (hR : d + 1 ≤ R.frames ∧ 8 + (z.2.2.1 + 11) + 60 * d ≤ R.locals) (hk : k + mc ≤ R.cells) (hs : n + ms ≤ R.slots) (hsum : (st.map fun v => v.category).sum ≤ 8) (hh : y.2.2.2.2 = [])
    (kx : ∀ E w', Q2 (.inr E) w' → Q (.inr E) w') (kk : ∀ v w', Q2 (.inl v) w' → ob_G X y R Q (pc + 3) lv (v.toList ++ st) w' (k + mc) (n + ms)) : ob_G X y R Q pc lv stk w k n := by
  subst hnp
  exact og_callV hdg hv hM hb hci hstk hR hk hs hsum hh kx kk
end OBN
end
section
/-! LEAVES: Node, Block, Row, Tree.size, Tree.empty -/
/-- a side: true left (0), false right (1) -/
def ob_sd (d : Bool) : Int32 := if d then 0 else 1
def ob_sl (d : Bool) : Nat := if d then 3 else 4
theorem ob_sd_not (d : Bool) : (1 : Int32) - ob_sd d = ob_sd (!d) := by cases d <;> rfl
section OBL
variable {X : ob_X} {T : ob_T} {V : ob_V} {B : ob_B} {J : ob_J}
theorem ct_child {a b : Nat} {d : Bool} (ha : T a = some (2, 0)) (hv : V a (ob_sl d) = .ref b) : ob_C X mX2_child 0 0 0 [.ref a, .int (ob_sd d)] (T, V, B, J) (ob_e (some (.ref b)) (T, V, B, J)) := by
  refine ob_C_of (by decide) rfl (Nat.le_of_ble_eq_true rfl) ?_
  cases d
  · have hv : V a 4 = .ref b := hv
    refine og_iload_n dX2_child_0 rfl ?_
    refine og_if_ne (tgt := 11) dX2_child_1 (by decide) (fun _ => ?_) (fun z9 => absurd z9 (by decide))
    refine og_aload_n dX2_child_11 rfl rfl ?_
    refine og_getf dX2_child_12 kfX2_19 (by assumption) (by assumption) ?_
    exact og_areturn rfl (Or.inl ⟨_, rfl⟩) (Or.inr ⟨_, rfl⟩) dX2_child_15 (by decide) (by decide) ⟨rfl, rfl⟩
  · have hv : V a 3 = .ref b := hv
    refine og_iload_n dX2_child_0 rfl ?_
    refine og_if_ne (tgt := 11) dX2_child_1 (by decide) (fun z9 => absurd (by decide) z9) (fun _ => ?_)
    refine og_aload_n dX2_child_4 rfl rfl ?_
    refine og_getf dX2_child_5 kfX2_15 (by assumption) (by assumption) ?_
    refine og_goto (tgt := 15) dX2_child_8 (by decide) ?_
    exact og_areturn rfl (Or.inl ⟨_, rfl⟩) (Or.inr ⟨_, rfl⟩) dX2_child_15 (by decide) (by decide) ⟨rfl, rfl⟩
theorem ct_setChild {a b : Nat} {d : Bool} (ha : T a = some (2, 0)) : ob_C X mX2_setChild 0 0 0 [.ref a, .int (ob_sd d), .ref b] (T, V, B, J) (ob_e none (T, ob_set V a (ob_sl d) (.ref b), B, J)) := by
  refine ob_C_of (by decide) rfl (Nat.le_of_ble_eq_true rfl) ?_
  cases d
  · refine og_iload_n dX2_setChild_0 rfl ?_
    refine og_if_ne (tgt := 12) dX2_setChild_1 (by decide) (fun _ => ?_) (fun z9 => absurd z9 (by decide))
    refine og_aload_n dX2_setChild_12 rfl rfl ?_
    refine og_aload_n dX2_setChild_13 rfl rfl ?_
    refine og_put dX2_setChild_14 kfX2_19 (by assumption) rfl rfl ?_
    exact og_return rfl dX2_setChild_17 (by decide) (by decide) ⟨rfl, rfl⟩
  · refine og_iload_n dX2_setChild_0 rfl ?_
    refine og_if_ne (tgt := 12) dX2_setChild_1 (by decide) (fun z9 => absurd (by decide) z9) (fun _ => ?_)
    refine og_aload_n dX2_setChild_4 rfl rfl ?_
    refine og_aload_n dX2_setChild_5 rfl rfl ?_
    refine og_put dX2_setChild_6 kfX2_15 (by assumption) rfl rfl ?_
    refine og_goto (tgt := 17) dX2_setChild_9 (by decide) ?_
    exact og_return rfl dX2_setChild_17 (by decide) (by decide) ⟨rfl, rfl⟩
theorem ct_sideOf {a b l : Nat} (ha : T a = some (2, 0)) (hl : V a 3 = .ref l) : ob_C X mX2_sideOf 0 0 0 [.ref a, .ref b] (T, V, B, J) (ob_e (some (.int (if b = l then 0 else 1))) (T, V, B, J)) := by
  refine ob_C_of (by decide) rfl (Nat.le_of_ble_eq_true rfl) ?_
  by_cases h : b = l
  · rw [if_pos h]
    refine og_aload_n dX2_sideOf_0 rfl rfl ?_
    refine og_aload_n dX2_sideOf_1 rfl rfl ?_
    refine og_getf dX2_sideOf_2 kfX2_15 (by assumption) (by assumption) ?_
    refine og_acmp_ne (tgt := 12) dX2_sideOf_5 (by decide) (fun z9 => absurd (h) z9) (fun _ => ?_)
    refine og_iconst (v := 0) dX2_sideOf_8 (by decide) ?_
    refine og_goto (tgt := 13) dX2_sideOf_9 (by decide) ?_
    exact og_ireturn (ty := .int) rfl dX2_sideOf_13 rfl (by decide) (by decide) ⟨rfl, rfl⟩
  · rw [if_neg h]
    refine og_aload_n dX2_sideOf_0 rfl rfl ?_
    refine og_aload_n dX2_sideOf_1 rfl rfl ?_
    refine og_getf dX2_sideOf_2 kfX2_15 (by assumption) (by assumption) ?_
    refine og_acmp_ne (tgt := 12) dX2_sideOf_5 (by decide) (fun _ => ?_) (fun z9 => absurd z9 (h))
    refine og_iconst (v := 1) dX2_sideOf_12 (by decide) ?_
    exact og_ireturn (ty := .int) rfl dX2_sideOf_13 rfl (by decide) (by decide) ⟨rfl, rfl⟩
theorem ct_Node {a : Nat} {x : Int32} (ha : T a = some (2, 0)) : ob_C X mX2_init 1 0 0 [.ref a, .int x] (T, V, B, J) (ob_e none (T, ob_set V a 0 (.int x), B, J)) := by
  refine ob_C_of (by decide) rfl (Nat.le_of_ble_eq_true rfl) ?_
  refine og_aload_n dX2_init_0 rfl rfl ?_
  refine og_objInit dX2_init_1 kOX2_3 kOi kOc (by decide) (by decide) ?_
  refine og_aload_n dX2_init_4 rfl rfl ?_
  refine og_iload_n dX2_init_5 rfl ?_
  refine og_putF dX2_init_6 kfX2_9 rfl rfl (by assumption) rfl rfl ?_
  exact og_return rfl dX2_init_9 (by decide) (by decide) ⟨rfl, rfl⟩
theorem ct_Block {a : Nat} {x u : Int32} (ha : T a = some (0, 0)) : ob_C X mX0_init 1 0 0 [.ref a, .int x, .int u] (T, V, B, J) (ob_e none (T, ob_set (ob_set V a 0 (.int x)) a 1 (.int u), B, J)) := by
  refine ob_C_of (by decide) rfl (Nat.le_of_ble_eq_true rfl) ?_
  refine og_aload_n dX0_init_0 rfl rfl ?_
  refine og_objInit dX0_init_1 kOX0_1 kOi kOc (by decide) (by decide) ?_
  refine og_aload_n dX0_init_4 rfl rfl ?_
  refine og_iload_n dX0_init_5 rfl ?_
  refine og_put dX0_init_6 kfX0_7 (by assumption) rfl rfl ?_
  refine og_aload_n dX0_init_9 rfl rfl ?_
  refine og_iload_n dX0_init_10 rfl ?_
  refine og_put dX0_init_11 kfX0_13 (by assumption) rfl rfl ?_
  exact og_return rfl dX0_init_14 (by decide) (by decide) ⟨rfl, rfl⟩
theorem ct_size {t r : Nat} {x : Int32} (ht : T t = some (4, 0)) (hr : V t 2 = .ref r) (hrt : T r = some (2, 0)) (hx : V r 7 = .int x) : ob_C X mX4_size 0 0 0 [.ref t] (T, V, B, J) (ob_e (some (.int x)) (T, V, B, J)) := by
  refine ob_C_of (by decide) rfl (Nat.le_of_ble_eq_true rfl) ?_
  refine og_aload_n dX4_size_0 rfl rfl ?_
  refine og_getf dX4_size_1 kfX4_33 (by assumption) (by assumption) ?_
  refine og_getf dX4_size_4 kfX4_36 (by assumption) (by assumption) ?_
  exact og_ireturn (ty := .int) rfl dX4_size_7 rfl (by decide) (by decide) ⟨rfl, rfl⟩
theorem ct_Tempty {t nl : Nat} (ht : T t = some (4, 0)) (hn : V t 1 = .ref nl) : ob_C X mX4_empty 0 0 0 [.ref t] (T, V, B, J) (ob_e none (T, ob_set V t 2 (.ref nl), B, J)) := by
  refine ob_C_of (by decide) rfl (Nat.le_of_ble_eq_true rfl) ?_
  refine og_aload_n dX4_empty_0 rfl rfl ?_
  refine og_aload_n dX4_empty_1 rfl rfl ?_
  refine og_getf dX4_empty_2 kfX4_20 (by assumption) (by assumption) ?_
  refine og_put dX4_empty_5 kfX4_33 (by assumption) rfl rfl ?_
  exact og_return rfl dX4_empty_8 (by decide) (by decide) ⟨rfl, rfl⟩
theorem ct_append {a b len L : Nat} {x : Int32} (ha : T a = some (3, 0)) (hb : V a 0 = .ref b) (hbt : T b = some (7, L)) (hl : V a 1 = .int (nI len)) (hlen : len < L) (hL : L < 2 ^ 31) : ob_C X mX3_append 0 0 0 [.ref a, .int x] (T, V, B, J) (ob_e none (T, ob_set V a 1 (.int (nI (len + 1))), ob_set B b len x.toInt8.toInt32, J)) := by
  refine ob_C_of (by decide) rfl (Nat.le_of_ble_eq_true rfl) ?_
  refine og_aload_n dX3_append_0 rfl rfl ?_
  refine og_getf dX3_append_1 kfX3_13 (by assumption) (by assumption) ?_
  refine og_aload_n dX3_append_4 rfl rfl ?_
  refine og_getf dX3_append_5 kfX3_7 (by assumption) (by assumption) ?_
  refine og_alen dX3_append_8 (by assumption) (by decide) ?_
  refine og_icmp_ge (tgt := 32) dX3_append_9 (by decide) (fun z9 => absurd z9 (nI_ge hlen hL)) (fun _ => ?_)
  refine og_aload_n dX3_append_12 rfl rfl ?_
  refine og_getf dX3_append_13 kfX3_7 (by assumption) (by assumption) ?_
  refine og_aload_n dX3_append_16 rfl rfl ?_
  refine og_getf dX3_append_17 kfX3_13 (by assumption) (by assumption) ?_
  refine og_iload_n dX3_append_20 rfl ?_
  refine og_bast dX3_append_21 (by assumption) (vp_in_nI hlen hL) ?_
  refine og_aload_n dX3_append_22 rfl rfl ?_
  refine og_dup dX3_append_23 rfl ?_
  refine og_getf dX3_append_24 kfX3_13 (by assumption) (by assumption) ?_
  refine og_iconst (v := 1) dX3_append_27 (by decide) ?_
  refine og_iadd dX3_append_28 ?_
  refine og_put dX3_append_29 kfX3_13 (by assumption) rfl rfl ?_
  exact og_return rfl dX3_append_32 (by decide) (by decide) ⟨rfl, by rw [nI_clamp (by omega), nI_1]⟩
end OBL
end
section
/-! THE TREE, READ: pick, placeOf, least -/
/-- the node that stands where there is none -/
def ob_nil (T : ob_T) (V : ob_V) (nl : Nat) : Prop := T nl = some (2, 0) ∧ V nl 3 = .ref nl ∧ V nl 4 = .ref nl ∧ V nl 6 = .int 0 ∧ V nl 7 = .int 0
/-- a tree whose root's parent is p -/
def ob_sub (T : ob_T) (V : ob_V) (nl : Nat) (t : ob_t) (p : Nat) : Prop := ob_tm V nl t p ∧ ∀ a ∈ ob_ads t, T a = some (2, 0) ∧ a ≠ nl
theorem ob_sub.l {T : ob_T} {V : ob_V} {nl q a p : Nat} {c : Bool} {l r : ob_t} (h : ob_sub T V nl (.inner q a c l r) p) : ob_sub T V nl l a := ⟨h.1.2.2.2.2.2.1, fun x hx => h.2 x (by simp [ob_ads, hx])⟩
theorem ob_sub.r {T : ob_T} {V : ob_V} {nl q a p : Nat} {c : Bool} {l r : ob_t} (h : ob_sub T V nl (.inner q a c l r) p) : ob_sub T V nl r a := ⟨h.1.2.2.2.2.2.2, fun x hx => h.2 x (by simp [ob_ads, hx])⟩
theorem ob_sub.a {T : ob_T} {V : ob_V} {nl q a p : Nat} {c : Bool} {l r : ob_t} (h : ob_sub T V nl (.inner q a c l r) p) : T a = some (2, 0) ∧ a ≠ nl := h.2 a (by simp [ob_ads])
theorem ob_sub.top {T : ob_T} {V : ob_V} {nl p : Nat} {t : ob_t} (hn : ob_nil T V nl) (h : ob_sub T V nl t p) : T (ob_top nl t) = some (2, 0) ∧ V (ob_top nl t) 7 = .int (nI (ob_siz t)) ∧ V (ob_top nl t) 6 = ob_cv (ob_red t) := by
  cases t with
  | leaf => exact ⟨hn.1, hn.2.2.2.2, hn.2.2.2.1⟩
  | inner q a c l r => exact ⟨h.a.1, h.1.2.2.2.2.1, h.1.2.2.2.1⟩
theorem ob_top_eq {T : ob_T} {V : ob_V} {nl p : Nat} {t : ob_t} (h : ob_sub T V nl t p) : ob_top nl t = nl ↔ t = .leaf := by
  cases t with
  | leaf => simp [ob_top]
  | inner q a c l r => exact ⟨fun e => absurd e h.a.2, fun e => by cases e⟩
/-- the tree object at t: its nil, its tree -/
def ob_tr (T : ob_T) (V : ob_V) (t nl : Nat) (tt : ob_t) : Prop := T t = some (4, 0) ∧ V t 1 = .ref nl ∧ V t 2 = .ref (ob_top nl tt) ∧ ob_nil T V nl ∧ V nl 5 = .ref nl ∧ ob_sub T V nl tt nl ∧ (ob_ads tt).Nodup
section OBR
variable {X : ob_X} {T : ob_T} {V : ob_V} {B : ob_B} {J : ob_J} {R : Room} {Q : ob_r → ob_w → Prop} {k n : Nat}
theorem pick_loop {t nl : Nat} (ht : T t = some (4, 0)) (hnl : V t 1 = .ref nl) (hn : ob_nil T V nl) (hk : k ≤ R.cells) (hs : n ≤ R.slots) : ∀ (tt : ob_t) (p r : Nat), ob_sub T V nl tt p → r < 2 ^ 30 → ob_siz tt < 2 ^ 30 → Q (.inl (some (va_rf (ob_ads tt)[r]?))) (T, V, B, J) → ob_G X mX4_pick R Q 18 [(0, .ref t), (2, .int (nI r)), (3, .ref (ob_top nl tt))] [] (T, V, B, J) k n := by
  intro tt
  induction tt with
  | leaf =>
    intro p r h hr hz hq
    refine og_aload_n dX4_pick_18 rfl rfl ?_
    refine og_aload_n dX4_pick_19 rfl rfl ?_
    refine og_getf dX4_pick_20 kfX4_20 (by assumption) (by assumption) ?_
    refine og_acmp_eq (tgt := 76) dX4_pick_23 (by decide) (fun _ => ?_) (fun z9 => absurd (rfl) z9)
    refine og_aload_n dX4_pick_76 rfl rfl ?_
    refine og_aload_n dX4_pick_77 rfl rfl ?_
    refine og_getf dX4_pick_78 kfX4_20 (by assumption) (by assumption) ?_
    refine og_acmp_ne (tgt := 88) dX4_pick_81 (by decide) (fun z9 => absurd (rfl) z9) (fun _ => ?_)
    refine og_null dX4_pick_84 ?_
    refine og_goto (tgt := 89) dX4_pick_85 (by decide) ?_
    exact og_areturn rfl (Or.inl ⟨_, rfl⟩) (Or.inl rfl) dX4_pick_89 hk hs hq
  | inner q a c l r ihl ihr =>
    intro p i h hi hz hq
    obtain ⟨ha, hane⟩ := h.a
    have h3 := h.1.1
    have h4 := h.1.2.1
    obtain ⟨hl1, hl2, -⟩ := h.l.top hn
    simp only [ob_siz] at hz
    have elen : (ob_ads l).length = ob_siz l := (ob_siz_len l).symm
    refine og_aload_n dX4_pick_18 rfl rfl ?_
    refine og_aload_n dX4_pick_19 rfl rfl ?_
    refine og_getf dX4_pick_20 kfX4_20 (by assumption) (by assumption) ?_
    refine og_acmp_eq (tgt := 76) dX4_pick_23 (by decide) (fun z9 => absurd z9 (hane)) (fun _ => ?_)
    refine og_iload_n dX4_pick_26 rfl ?_
    refine og_aload_n dX4_pick_27 rfl rfl ?_
    refine og_getf dX4_pick_28 kfX4_24 (by assumption) (by assumption) ?_
    refine og_getf dX4_pick_31 kfX4_36 (by assumption) (by assumption) ?_
    refine og_icmp_eq (tgt := 76) dX4_pick_34 (by decide) (fun hc => ?_) (fun hc => ?_)
    · have e1 : i = ob_siz l := (nI_eq (by omega) (by omega)).mp hc
      refine og_aload_n dX4_pick_76 rfl rfl ?_
      refine og_aload_n dX4_pick_77 rfl rfl ?_
      refine og_getf dX4_pick_78 kfX4_20 (by assumption) (by assumption) ?_
      refine og_acmp_ne (tgt := 88) dX4_pick_81 (by decide) (fun _ => ?_) (fun z9 => absurd z9 (hane))
      refine og_aload_n dX4_pick_88 rfl rfl ?_
      refine og_areturn rfl (Or.inl ⟨_, rfl⟩) (Or.inr ⟨_, rfl⟩) dX4_pick_89 hk hs ?_
      have e2 : (ob_ads (.inner q a c l r))[i]? = some a := by simp [ob_ads, e1, ← elen]
      rw [e2] at hq
      exact hq
    · have e1 : i ≠ ob_siz l := fun e => hc (by rw [e])
      refine og_iload_n dX4_pick_37 rfl ?_
      refine og_aload_n dX4_pick_38 rfl rfl ?_
      refine og_getf dX4_pick_39 kfX4_24 (by assumption) (by assumption) ?_
      refine og_getf dX4_pick_42 kfX4_36 (by assumption) (by assumption) ?_
      refine og_icmp_ge (tgt := 56) dX4_pick_45 (by decide) (fun hd => ?_) (fun hd => ?_)
      · have e2 : ob_siz l ≤ i := (nI_leI (by omega) (by omega)).mp hd
        refine og_iload_n dX4_pick_56 rfl ?_
        refine og_aload_n dX4_pick_57 rfl rfl ?_
        refine og_getf dX4_pick_58 kfX4_24 (by assumption) (by assumption) ?_
        refine og_getf dX4_pick_61 kfX4_36 (by assumption) (by assumption) ?_
        refine og_iconst (v := 1) dX4_pick_64 (by decide) ?_
        refine og_iadd dX4_pick_65 ?_
        refine og_isub dX4_pick_66 ?_
        refine og_istore_n dX4_pick_67 (by decide) ?_
        refine og_aload_n dX4_pick_68 rfl rfl ?_
        refine og_getf dX4_pick_69 kfX4_27 (by assumption) (by assumption) ?_
        refine og_astore_n dX4_pick_72 (by decide) rfl ?_
        refine og_goto (tgt := 18) dX4_pick_73 (by decide) ?_
        refine og_lv [(0, .ref t), (2, .int (nI (i - (ob_siz l + 1)))), (3, .ref (ob_top nl r))] (by rw [nI_1, ← pk_sub (by omega)]; rfl) ?_
        refine ihr a _ h.r (by omega) (by omega) ?_
        have e3 : (ob_ads (.inner q a c l r))[i]? = (ob_ads r)[i - (ob_siz l + 1)]? := by
          rw [ob_ads, List.getElem?_append_right (by omega), elen, show i - ob_siz l = (i - (ob_siz l + 1)) + 1 by omega, List.getElem?_cons_succ]
        rw [← e3]
        exact hq
      · have e2 : i < ob_siz l := by
          rcases Nat.lt_or_ge i (ob_siz l) with h9 | h9
          · exact h9
          · exact absurd (nI_le h9 (by omega)) hd
        refine og_aload_n dX4_pick_48 rfl rfl ?_
        refine og_getf dX4_pick_49 kfX4_24 (by assumption) (by assumption) ?_
        refine og_astore_n dX4_pick_52 (by decide) rfl ?_
        refine og_goto (tgt := 18) dX4_pick_53 (by decide) ?_
        refine og_lv [(0, .ref t), (2, .int (nI i)), (3, .ref (ob_top nl l))] rfl ?_
        refine ihl a _ h.l (by omega) (by omega) ?_
        have e3 : (ob_ads (.inner q a c l r))[i]? = (ob_ads l)[i]? := by rw [ob_ads, List.getElem?_append_left (by omega)]
        rw [← e3]
        exact hq
theorem ct_pick {t nl i : Nat} {tt : ob_t} (h : ob_tr T V t nl tt) (hz : ob_siz tt < 2 ^ 30) (hi : i < 2 ^ 30) : ob_C X mX4_pick 0 0 0 [.ref t, .int (nI i)] (T, V, B, J) (ob_e (some (va_rf (ob_ads tt)[i]?)) (T, V, B, J)) := by
  refine ob_C_of (by decide) rfl (Nat.le_of_ble_eq_true rfl) ?_
  obtain ⟨ht, hnl, hroot, hn, -, hsub, -⟩ := h
  refine og_iload_n dX4_pick_0 rfl ?_
  refine og_istore_n dX4_pick_1 (by decide) ?_
  refine og_iload_n dX4_pick_2 rfl ?_
  refine og_if_ge (tgt := 13) dX4_pick_3 (by decide) (fun _ => ?_) (fun z9 => absurd (nI_pos' (by omega)) z9)
  refine og_aload_n dX4_pick_13 rfl rfl ?_
  refine og_getf dX4_pick_14 kfX4_33 (by assumption) (by assumption) ?_
  refine og_astore_n dX4_pick_17 (by decide) rfl ?_
  refine og_lv [(0, .ref t), (2, .int (nI i)), (3, .ref (ob_top nl tt))] rfl ?_
  exact pick_loop ht hnl hn (Nat.le_refl _) (Nat.le_refl _) tt nl i hsub hi hz ⟨rfl, rfl⟩
theorem ct_pickN {t nl : Nat} {x : Int32} {tt : ob_t} (h : ob_tr T V t nl tt) (hx : x < 0) : ob_C X mX4_pick 0 0 0 [.ref t, .int x] (T, V, B, J) (ob_e (some .null) (T, V, B, J)) := by
  refine ob_C_of (by decide) rfl (Nat.le_of_ble_eq_true rfl) ?_
  obtain ⟨ht, hnl, hroot, hn, -, hsub, -⟩ := h
  have hx' : ¬ (0 : Int32) ≤ x := Int32.not_le.mpr hx
  refine og_iload_n dX4_pick_0 rfl ?_
  refine og_istore_n dX4_pick_1 (by decide) ?_
  refine og_iload_n dX4_pick_2 rfl ?_
  refine og_if_ge (tgt := 13) dX4_pick_3 (by decide) (fun z9 => absurd z9 (hx')) (fun _ => ?_)
  refine og_aload_n dX4_pick_6 rfl rfl ?_
  refine og_getf dX4_pick_7 kfX4_20 (by assumption) (by assumption) ?_
  refine og_goto (tgt := 17) dX4_pick_10 (by decide) ?_
  refine og_astore_n dX4_pick_17 (by decide) rfl ?_
  refine og_aload_n dX4_pick_18 rfl rfl ?_
  refine og_aload_n dX4_pick_19 rfl rfl ?_
  refine og_getf dX4_pick_20 kfX4_20 (by assumption) (by assumption) ?_
  refine og_acmp_eq (tgt := 76) dX4_pick_23 (by decide) (fun _ => ?_) (fun z9 => absurd (rfl) z9)
  refine og_aload_n dX4_pick_76 rfl rfl ?_
  refine og_aload_n dX4_pick_77 rfl rfl ?_
  refine og_getf dX4_pick_78 kfX4_20 (by assumption) (by assumption) ?_
  refine og_acmp_ne (tgt := 88) dX4_pick_81 (by decide) (fun z9 => absurd (rfl) z9) (fun _ => ?_)
  refine og_null dX4_pick_84 ?_
  refine og_goto (tgt := 89) dX4_pick_85 (by decide) ?_
  exact og_areturn rfl (Or.inl ⟨_, rfl⟩) (Or.inl rfl) dX4_pick_89 (Nat.le_refl _) (Nat.le_refl _) ⟨rfl, rfl⟩
end OBR
end
section
/-! ROWS OF BYTES AND THEIR ORDER; the heap's comparisons -/
/-- how two rows compare: the first bytes that differ, then the lengths -/
def ob_cmp : List Nat → List Nat → Int
  | [], m => -(m.length : Int)
  | x :: k, [] => ((x :: k).length : Int)
  | x :: k, y :: m => if x = y then ob_cmp k m else (x : Int) - y
theorem ob_cmp_nil (k : List Nat) : ob_cmp k [] = (k.length : Int) := by cases k <;> simp [ob_cmp]
theorem ob_cmp_0 : ∀ {k m : List Nat}, ob_cmp k m = 0 ↔ k = m
  | [], m => by cases m <;> simp [ob_cmp]; omega
  | x :: k, [] => by simp [ob_cmp]; omega
  | x :: k, y :: m => by
    simp only [ob_cmp, List.cons.injEq]
    split
    · rename_i e; rw [ob_cmp_0]; simp [e]
    · rename_i e; constructor
      · intro h; omega
      · intro h; exact absurd h.1 e
theorem ob_cmp_neg : ∀ (k m : List Nat), ob_cmp m k = -ob_cmp k m
  | [], m => by simp [ob_cmp, ob_cmp_nil]
  | x :: k, [] => by simp [ob_cmp]
  | x :: k, y :: m => by
    simp only [ob_cmp]
    by_cases e : x = y
    · rw [if_pos e, if_pos e.symm, ob_cmp_neg k m]
    · rw [if_neg e, if_neg (Ne.symm e)]; omega
theorem ob_cmp_tr : ∀ {k m l : List Nat}, ob_cmp k m < 0 → ob_cmp m l < 0 → ob_cmp k l < 0
  | k, [], l, h1, h2 => by rw [ob_cmp_nil] at h1; omega
  | k, x :: m, [], h1, h2 => by simp [ob_cmp] at h2; omega
  | [], x :: m, y :: l, h1, h2 => by simp [ob_cmp]
  | z :: k, x :: m, y :: l, h1, h2 => by
    simp only [ob_cmp] at h1 h2 ⊢
    by_cases e1 : z = x
    · rw [if_pos e1] at h1
      by_cases e2 : x = y
      · rw [if_pos e2] at h2
        rw [if_pos (e1.trans e2)]
        exact ob_cmp_tr h1 h2
      · rw [if_neg e2] at h2
        rw [if_neg (fun e => e2 (e1.symm.trans e))]; omega
    · rw [if_neg e1] at h1
      by_cases e2 : x = y
      · rw [if_pos e2] at h2
        rw [if_neg (fun e => e1 (e.trans e2.symm))]; omega
      · rw [if_neg e2] at h2
        rw [if_neg (by omega)]; omega
theorem ob_cmp_small : ∀ {k m : List Nat}, (∀ x ∈ k, x < 256) → (∀ x ∈ m, x < 256) → k.length ≤ 1000000 → m.length ≤ 1000000 → -1000000 ≤ ob_cmp k m ∧ ob_cmp k m ≤ 1000000
  | [], m, h1, h2, h3, h4 => by simp only [ob_cmp]; omega
  | x :: k, [], h1, h2, h3, h4 => by simp only [ob_cmp]; omega
  | x :: k, y :: m, h1, h2, h3, h4 => by
    simp only [ob_cmp]
    split
    · refine ob_cmp_small (fun z hz => h1 z (List.mem_cons_of_mem _ hz)) (fun z hz => h2 z (List.mem_cons_of_mem _ hz)) ?_ ?_
      · simp only [List.length_cons] at h3; omega
      · simp only [List.length_cons] at h4; omega
    · have := h1 x List.mem_cons_self
      have := h2 y List.mem_cons_self
      omega
/-- small whole numbers -/
def iI (z : Int) : Int32 := Int32.ofInt z
theorem iI_toInt {z : Int} (h1 : -1000000 ≤ z) (h2 : z ≤ 1000000) : (iI z).toInt = z := by
  unfold iI
  rw [Int32.toInt_ofInt_of_le] <;> omega
theorem iI_sub (a b : Nat) : nI a - nI b = iI ((a : Int) - b) := by
  unfold iI nI
  rw [Int32.ofInt_sub, Int32.ofInt_eq_ofNat, Int32.ofInt_eq_ofNat]
theorem iI_0 {z : Int} (h1 : -1000000 ≤ z) (h2 : z ≤ 1000000) : iI z = 0 ↔ z = 0 := by
  rw [← Int32.toInt_inj, iI_toInt h1 h2]; rfl
theorem iI_lt {z : Int} (h1 : -1000000 ≤ z) (h2 : z ≤ 1000000) : iI z < 0 ↔ z < 0 := by
  rw [Int32.lt_iff_toInt_lt, iI_toInt h1 h2]; rfl
theorem iI_le {z : Int} (h1 : -1000000 ≤ z) (h2 : z ≤ 1000000) : 0 ≤ iI z ↔ 0 ≤ z := by
  rw [Int32.le_iff_toInt_le, iI_toInt h1 h2]; rfl
theorem iI_gt {z : Int} (h1 : -1000000 ≤ z) (h2 : z ≤ 1000000) : 0 < iI z ↔ 0 < z := by
  rw [Int32.lt_iff_toInt_lt, iI_toInt h1 h2]; rfl
/-- the byte row at a holds l from place i on -/
def ob_bs (B : ob_B) (a i : Nat) (l : List Nat) : Prop := ∀ j, (h : j < l.length) → l[j] < 256 ∧ B a (i + j) = sb_b l[j]
theorem ob_bs.lt {B : ob_B} {a i : Nat} {l : List Nat} (h : ob_bs B a i l) : ∀ x ∈ l, x < 256 := by
  intro x hx
  obtain ⟨j, hj, rfl⟩ := List.getElem_of_mem hx
  exact (h j hj).1
theorem ob_bs.fit {B : ob_B} {a i : Nat} {l : List Nat} (h : ob_bs B a i l) {j : Nat} (hj : j < l.length) : fits .byte (.int (B a (i + j))) = true := by rw [(h j hj).2]; exact sb_fitB _
theorem ob_bs.app {B : ob_B} {a i : Nat} {l m : List Nat} (h : ob_bs B a i (l ++ m)) : ob_bs B a i l ∧ ob_bs B a (i + l.length) m := by
  constructor
  · intro j hj
    have := h j (by rw [List.length_append]; omega)
    rwa [List.getElem_append_left hj] at this
  · intro j hj
    have := h (l.length + j) (by rw [List.length_append]; omega)
    rw [List.getElem_append_right (by omega)] at this
    simpa [Nat.add_assoc] using this
/-- the heap object hp: its bytes at hb, cap units -/
def ob_hb (T : ob_T) (V : ob_V) (hp hb cap : Nat) : Prop := T hp = some (1, 0) ∧ V hp 4 = .ref hb ∧ T hb = some (7, 16 * cap) ∧ cap ≤ 4096
/-- node a bears the key and the value -/
def ob_nd (T : ob_T) (V : ob_V) (B : ob_B) (hb cap a : Nat) (key val : List Nat) : Prop := T a = some (2, 0) ∧ V a 0 = .int (nI key.length) ∧ V a 1 = .int (nI val.length) ∧ ∃ b s, V a 2 = .ref b ∧ T b = some (0, 0) ∧ V b 0 = .int (nI s) ∧ ob_bs B hb (16 * s) (key ++ val) ∧ 16 * s + (key.length + val.length) ≤ 16 * cap
section OBM
variable {X : ob_X} {T : ob_T} {V : ob_V} {B : ob_B} {J : ob_J} {R : Room} {Q : ob_r → ob_w → Prop} {k n : Nat}
theorem cmp_loop {hp hb cap ra nr fr a s : Nat} {key ke va : List Nat} (h1 : ob_hb T V hp hb cap) (h2 : T ra = some (7, nr)) (h3 : fr + key.length ≤ nr) (hnr : nr < 1000000) (h4 : ob_bs B ra fr key) (ha : T a = some (2, 0)) (hk0 : V a 0 = .int (nI ke.length)) (h5 : ob_bs B hb (16 * s) (ke ++ va)) (h6 : 16 * s + (ke.length + va.length) ≤ 16 * cap) (hk : k ≤ R.cells) (hs : n ≤ R.slots) :
    ∀ (d i : Nat), i + d = min key.length ke.length → Q (.inl (some (.int (iI (ob_cmp (key.drop i) (ke.drop i)))))) (T, V, B, J) → ob_G X mX1_compareBytes R Q 27 [(0, .ref hp), (1, .ref ra), (2, .int (nI fr)), (3, .int (nI key.length)), (4, .ref a), (5, .int (nI (16 * s))), (6, .int (nI (min key.length ke.length))), (7, .int (nI i))] [] (T, V, B, J) k n := by
  obtain ⟨g1, g2, g3, g4⟩ := h1
  have h5k := h5.app.1
  intro d
  induction d with
  | zero =>
    intro i hi hq
    refine og_iload dX1_compareBytes_27 rfl ?_
    refine og_iload dX1_compareBytes_29 rfl ?_
    refine og_icmp_ge (tgt := 75) dX1_compareBytes_31 (by decide) (fun _ => ?_) (fun z9 => absurd (by rw [← hi]; exact nI_le (by omega) (by omega)) z9)
    refine og_iload_n dX1_compareBytes_75 rfl ?_
    refine og_aload dX1_compareBytes_76 rfl rfl ?_
    refine og_getf dX1_compareBytes_78 kfX1_90 (by assumption) (by assumption) ?_
    refine og_isub dX1_compareBytes_81 ?_
    refine og_ireturn (ty := .int) rfl dX1_compareBytes_82 rfl hk hs ?_
    rw [iI_sub]
    have e1 : ob_cmp (key.drop i) (ke.drop i) = (key.length : Int) - ke.length := by
      rcases Nat.le_total key.length ke.length with h | h
      · rw [List.drop_eq_nil_of_le (as := key) (by omega)]
        simp only [ob_cmp, List.length_drop]; omega
      · rw [List.drop_eq_nil_of_le (as := ke) (by omega), ob_cmp_nil, List.length_drop]; omega
    rw [e1] at hq
    exact hq
  | succ d ih =>
    intro i hi hq
    have hi1 : i < key.length := by omega
    have hi2 : i < ke.length := by omega
    obtain ⟨b1, b2⟩ := h4 i hi1
    obtain ⟨b3, b4⟩ := h5k i hi2
    refine og_iload dX1_compareBytes_27 rfl ?_
    refine og_iload dX1_compareBytes_29 rfl ?_
    refine og_icmp_ge (tgt := 75) dX1_compareBytes_31 (by decide) (fun z9 => absurd z9 (nI_ge (by omega) (by omega))) (fun _ => ?_)
    refine og_aload_n dX1_compareBytes_34 rfl rfl ?_
    refine og_iload_n dX1_compareBytes_35 rfl ?_
    refine og_iload dX1_compareBytes_36 rfl ?_
    refine og_iadd dX1_compareBytes_38 ?_
    refine og_bald dX1_compareBytes_39 (by assumption) (by rw [nI_add]; exact vp_in_nI (by omega) (by omega)) ?_
    rw [nI_add, nI_clamp (by omega)]
    refine og_st [.int (sb_b key[i])] (by rw [← b2]) ?_
    refine og_sipush (v := 255) dX1_compareBytes_40 (by decide) ?_
    refine og_iand dX1_compareBytes_43 ?_
    refine og_aload_n dX1_compareBytes_44 rfl rfl ?_
    refine og_getf dX1_compareBytes_45 kfX1_24 (by assumption) (by assumption) ?_
    refine og_iload dX1_compareBytes_48 rfl ?_
    refine og_iload dX1_compareBytes_50 rfl ?_
    refine og_iadd dX1_compareBytes_52 ?_
    refine og_bald dX1_compareBytes_53 (by assumption) (by rw [nI_add]; exact vp_in_nI (by omega) (by omega)) ?_
    rw [nI_add, nI_clamp (by omega)]
    refine og_st [.int (sb_b ke[i]), .int (nI key[i])] (by rw [← b4, ← (sb_byte _ b1).1]) ?_
    refine og_sipush (v := 255) dX1_compareBytes_54 (by decide) ?_
    refine og_iand dX1_compareBytes_57 ?_
    refine og_st [.int (nI ke[i]), .int (nI key[i])] (by rw [← (sb_byte _ b3).1]) ?_
    refine og_isub dX1_compareBytes_58 ?_
    refine og_istore dX1_compareBytes_59 (by decide) ?_
    refine og_iload dX1_compareBytes_61 rfl ?_
    refine og_lv [(0, .ref hp), (1, .ref ra), (2, .int (nI fr)), (3, .int (nI key.length)), (4, .ref a), (5, .int (nI (16 * s))), (6, .int (nI (min key.length ke.length))), (7, .int (nI i)), (8, .int (nI key[i] - nI ke[i]))] rfl ?_
    have e1 : ob_cmp (key.drop i) (ke.drop i) = if key[i] = ke[i] then ob_cmp (key.drop (i + 1)) (ke.drop (i + 1)) else (key[i] : Int) - ke[i] := by
      rw [List.drop_eq_getElem_cons hi1, List.drop_eq_getElem_cons hi2]; rfl
    refine og_if_eq (tgt := 69) dX1_compareBytes_63 (by decide) (fun hc => ?_) (fun hc => ?_)
    · have e2 : key[i] = ke[i] := by
        rw [iI_sub, iI_0 (by omega) (by omega)] at hc; omega
      rw [if_pos e2] at e1
      refine og_iinc dX1_compareBytes_69 rfl (nI_1 i) (by decide) ?_
      refine og_goto (tgt := 27) dX1_compareBytes_72 (by decide) ?_
      refine og_lv [(0, .ref hp), (1, .ref ra), (2, .int (nI fr)), (3, .int (nI key.length)), (4, .ref a), (5, .int (nI (16 * s))), (6, .int (nI (min key.length ke.length))), (7, .int (nI (i + 1)))] rfl ?_
      exact ih (i + 1) (by omega) (by rw [← e1]; exact hq)
    · have e2 : key[i] ≠ ke[i] := fun e => hc (by rw [e, iI_sub]; simp [iI])
      rw [if_neg e2] at e1
      refine og_iload dX1_compareBytes_66 rfl ?_
      refine og_ireturn (ty := .int) rfl dX1_compareBytes_68 rfl hk hs ?_
      rw [iI_sub, ← e1]
      exact hq
theorem ct_compareBytes {hp hb cap ra nr fr a : Nat} {key ke va : List Nat} (h1 : ob_hb T V hp hb cap) (h2 : T ra = some (7, nr)) (h3 : fr + key.length ≤ nr) (hnr : nr < 1000000) (h4 : ob_bs B ra fr key) (h5 : ob_nd T V B hb cap a ke va) : ob_C X mX1_compareBytes 1 0 0 [.ref hp, .ref ra, .int (nI fr), .int (nI key.length), .ref a] (T, V, B, J) (ob_e (some (.int (iI (ob_cmp key ke)))) (T, V, B, J)) := by
  refine ob_C_of (by decide) rfl (Nat.le_of_ble_eq_true rfl) ?_
  obtain ⟨ha, hk0, -, b, s, hb2, hbt, hbs, h6, h7⟩ := h5
  have g4 := h1.2.2.2
  refine og_aload dX1_compareBytes_0 rfl rfl ?_
  refine og_getf dX1_compareBytes_2 kfX1_85 (by assumption) (by assumption) ?_
  refine og_getf dX1_compareBytes_5 kfX1_69 (by assumption) (by assumption) ?_
  refine og_bipush (v := 16) dX1_compareBytes_8 (by decide) ?_
  refine og_imul dX1_compareBytes_10 ?_
  refine og_istore dX1_compareBytes_11 (by decide) ?_
  refine og_iload_n dX1_compareBytes_13 rfl ?_
  refine og_aload dX1_compareBytes_14 rfl rfl ?_
  refine og_getf dX1_compareBytes_16 kfX1_90 (by assumption) (by assumption) ?_
  refine og_mmin dX1_compareBytes_19 kMminX1_15 (by decide) (by decide) (by decide) (by decide) kMmins kMi kMminc ?_
  refine og_st [.int (nI (min key.length ke.length))] ?_ ?_
  · by_cases h : ke.length < key.length
    · rw [if_pos (nI_lt h (by omega)), Nat.min_eq_right (by omega)]
    · rw [if_neg (nI_nlt (by omega) (by omega)), Nat.min_eq_left (by omega)]
  refine og_istore dX1_compareBytes_22 (by decide) ?_
  refine og_iconst (v := 0) dX1_compareBytes_24 (by decide) ?_
  refine og_istore dX1_compareBytes_25 (by decide) ?_
  refine og_lv [(0, .ref hp), (1, .ref ra), (2, .int (nI fr)), (3, .int (nI key.length)), (4, .ref a), (5, .int (nI (16 * s))), (6, .int (nI (min key.length ke.length))), (7, .int (nI 0))] (by rw [Nat.mul_comm, ← pk_mul]; rfl) ?_
  exact cmp_loop h1 h2 h3 hnr h4 ha hk0 h6 h7 (Nat.le_refl _) (Nat.le_refl _) (min key.length ke.length) 0 (Nat.zero_add _) ⟨rfl, rfl⟩
theorem ct_compareRow {hp hb cap rw9 ra nr a : Nat} {key ke va : List Nat} (h1 : ob_hb T V hp hb cap) (h0 : T rw9 = some (3, 0)) (h00 : V rw9 0 = .ref ra) (h2 : T ra = some (7, nr)) (h3 : key.length ≤ nr) (hnr : nr < 1000000) (h4 : ob_bs B ra 0 key) (h5 : ob_nd T V B hb cap a ke va) : ob_C X mX1_compareRow 2 0 0 [.ref hp, .ref rw9, .int (nI key.length), .ref a] (T, V, B, J) (ob_e (some (.int (iI (ob_cmp key ke)))) (T, V, B, J)) := by
  refine ob_C_of (by decide) rfl (Nat.le_of_ble_eq_true rfl) ?_
  have g1 := h1.1
  refine og_aload_n dX1_compareRow_0 rfl rfl ?_
  refine og_aload_n dX1_compareRow_1 rfl rfl ?_
  refine og_getf dX1_compareRow_2 kfX1_66 (by assumption) (by assumption) ?_
  refine og_iconst (v := 0) dX1_compareRow_5 (by decide) ?_
  refine og_iload_n dX1_compareRow_6 rfl ?_
  refine og_aload_n dX1_compareRow_7 rfl rfl ?_
  refine og_callVe dX1_compareRow_8 kvX1_81 (ct_compareBytes (fr := 0) h1 h2 (by omega) hnr h4 h5) rfl g1 rfl rfl ⟨by decide, by decide⟩ (by decide) (by decide) (by decide) rfl ?_
  exact og_ireturn (ty := .int) rfl dX1_compareRow_11 rfl (by decide) (by decide) ⟨rfl, rfl⟩
theorem ct_compareNodes {hp hb cap a1 a : Nat} {key va1 ke va : List Nat} (h1 : ob_hb T V hp hb cap) (h4 : ob_nd T V B hb cap a1 key va1) (h5 : ob_nd T V B hb cap a ke va) : ob_C X mX1_compareNodes 2 0 0 [.ref hp, .ref a1, .ref a] (T, V, B, J) (ob_e (some (.int (iI (ob_cmp key ke)))) (T, V, B, J)) := by
  refine ob_C_of (by decide) rfl (Nat.le_of_ble_eq_true rfl) ?_
  obtain ⟨g1, g2, g3, g4⟩ := id h1
  obtain ⟨ha, hk0, -, b, s, hb2, hbt, hbs, h6, h7⟩ := h4
  refine og_aload_n dX1_compareNodes_0 rfl rfl ?_
  refine og_aload_n dX1_compareNodes_1 rfl rfl ?_
  refine og_getf dX1_compareNodes_2 kfX1_24 (by assumption) (by assumption) ?_
  refine og_aload_n dX1_compareNodes_5 rfl rfl ?_
  refine og_getf dX1_compareNodes_6 kfX1_85 (by assumption) (by assumption) ?_
  refine og_getf dX1_compareNodes_9 kfX1_69 (by assumption) (by assumption) ?_
  refine og_bipush (v := 16) dX1_compareNodes_12 (by decide) ?_
  refine og_imul dX1_compareNodes_14 ?_
  refine og_aload_n dX1_compareNodes_15 rfl rfl ?_
  refine og_getf dX1_compareNodes_16 kfX1_90 (by assumption) (by assumption) ?_
  refine og_aload_n dX1_compareNodes_19 rfl rfl ?_
  refine og_st [.ref a, .int (nI key.length), .int (nI (16 * s)), .ref hb, .ref hp] (by rw [Nat.mul_comm, ← pk_mul]; rfl) ?_
  refine og_callVe dX1_compareNodes_20 kvX1_81 (ct_compareBytes (fr := 16 * s) h1 g3 (by omega) (by omega) h6.app.1 h5) rfl g1 rfl rfl ⟨by decide, by decide⟩ (by decide) (by decide) (by decide) rfl ?_
  exact og_ireturn (ty := .int) rfl dX1_compareNodes_23 rfl (by decide) (by decide) ⟨rfl, rfl⟩
end OBM
end
section
/-! THE TREE, SEARCHED: find, keysBelow, placeOf, holds -/
/-- keys and values by the nodes' addresses; L's keys rise -/
abbrev ob_k : Type := Nat → List Nat × List Nat
def ob_so (K : ob_k) (L : List Nat) : Prop := L.Pairwise (fun a b => ob_cmp (K a).1 (K b).1 < 0)
/-- the tree's nodes bear their keys and values, in the heap hp -/
def ob_ns (T : ob_T) (V : ob_V) (B : ob_B) (hb cap : Nat) (K : ob_k) (L : List Nat) : Prop := ∀ a ∈ L, ob_nd T V B hb cap a (K a).1 (K a).2 ∧ (K a).1.length ≤ 64
theorem ob_so.split {K : ob_k} {l r : List Nat} {a : Nat} (h : ob_so K (l ++ a :: r)) : ob_so K l ∧ ob_so K r ∧ (∀ x ∈ l, ob_cmp (K x).1 (K a).1 < 0) ∧ (∀ x ∈ r, ob_cmp (K a).1 (K x).1 < 0) := by
  obtain ⟨h1, h2, h3⟩ := List.pairwise_append.mp h
  obtain ⟨h4, h5⟩ := List.pairwise_cons.mp h2
  exact ⟨h1, h5, fun x hx => h3 x hx a List.mem_cons_self, h4⟩
theorem ob_find_l {K : ob_k} {l r : List Nat} {a : Nat} {key : List Nat} (h : ob_so K (l ++ a :: r)) (hc : ob_cmp key (K a).1 < 0) : (l ++ a :: r).find? (fun x => decide ((K x).1 = key)) = l.find? (fun x => decide ((K x).1 = key)) := by
  obtain ⟨-, -, -, h4⟩ := h.split
  have : (a :: r).find? (fun x => decide ((K x).1 = key)) = none := by
    rw [List.find?_eq_none]
    intro x hx
    simp only [decide_eq_true_eq]
    intro e
    rcases List.mem_cons.mp hx with rfl | hx
    · rw [e, ob_cmp_0.mpr rfl] at hc; omega
    · have h5 := ob_cmp_tr hc (h4 x hx)
      rw [e, ob_cmp_0.mpr rfl] at h5; omega
  rw [List.find?_append, this, Option.or_none]
theorem ob_find_r {K : ob_k} {l r : List Nat} {a : Nat} {key : List Nat} (h : ob_so K (l ++ a :: r)) (hc : 0 < ob_cmp key (K a).1) : (l ++ a :: r).find? (fun x => decide ((K x).1 = key)) = r.find? (fun x => decide ((K x).1 = key)) := by
  obtain ⟨-, -, h3, -⟩ := h.split
  have hc' : ob_cmp (K a).1 key < 0 := by rw [ob_cmp_neg]; omega
  have : l.find? (fun x => decide ((K x).1 = key)) = none := by
    rw [List.find?_eq_none]
    intro x hx
    simp only [decide_eq_true_eq]
    intro e
    have h5 := ob_cmp_tr (h3 x hx) hc'
    rw [e, ob_cmp_0.mpr rfl] at h5; omega
  rw [List.find?_append, this, Option.none_or, List.find?_cons_of_neg]
  simp only [decide_eq_true_eq]
  intro e
  rw [e, ob_cmp_0.mpr rfl] at hc; omega
theorem ob_find_a {K : ob_k} {l r : List Nat} {a : Nat} {key : List Nat} (h : ob_so K (l ++ a :: r)) (hc : ob_cmp key (K a).1 = 0) : (l ++ a :: r).find? (fun x => decide ((K x).1 = key)) = some a := by
  obtain ⟨-, -, h3, -⟩ := h.split
  have e := ob_cmp_0.mp hc
  have : l.find? (fun x => decide ((K x).1 = key)) = none := by
    rw [List.find?_eq_none]
    intro x hx
    simp only [decide_eq_true_eq]
    intro e2
    have h5 := h3 x hx
    rw [e2, ← e, ob_cmp_0.mpr rfl] at h5; omega
  rw [List.find?_append, this, Option.none_or, List.find?_cons_of_pos]
  simp [e]
/-- is it below (or, when s, the same)? -/
def ob_bl (K : ob_k) (key : List Nat) (s : Bool) (x : Nat) : Bool := decide (0 < ob_cmp key (K x).1) || (s && decide (ob_cmp key (K x).1 = 0))
theorem ob_bl_r {K : ob_k} {l r : List Nat} {a : Nat} {key : List Nat} {s : Bool} (h : ob_so K (l ++ a :: r)) (hc : ob_bl K key s a = true) : (l ++ a :: r).countP (ob_bl K key s) = l.length + 1 + r.countP (ob_bl K key s) := by
  obtain ⟨-, -, h3, -⟩ := h.split
  have hc2 : 0 ≤ ob_cmp key (K a).1 := by
    simp only [ob_bl, Bool.or_eq_true, decide_eq_true_eq, Bool.and_eq_true] at hc
    omega
  have hl : l.countP (ob_bl K key s) = l.length := by
    rw [List.countP_eq_length]
    intro x hx
    have h5 := h3 x hx
    have : 0 < ob_cmp key (K x).1 := by
      rcases Int.lt_or_eq_of_le hc2 with h6 | h6
      · have h7 : ob_cmp (K a).1 key < 0 := by rw [ob_cmp_neg]; omega
        have h8 := ob_cmp_tr h5 h7
        rw [ob_cmp_neg]; omega
      · have e := ob_cmp_0.mp h6.symm
        rw [e, ob_cmp_neg]; omega
    simp [ob_bl, this]
  rw [List.countP_append, List.countP_cons_of_pos hc, hl]; omega
theorem ob_bl_l {K : ob_k} {l r : List Nat} {a : Nat} {key : List Nat} {s : Bool} (h : ob_so K (l ++ a :: r)) (hc : ¬ ob_bl K key s a = true) : (l ++ a :: r).countP (ob_bl K key s) = l.countP (ob_bl K key s) := by
  obtain ⟨-, -, -, h4⟩ := h.split
  have hc2 : ob_cmp key (K a).1 ≤ 0 := by
    simp only [ob_bl, Bool.or_eq_true, decide_eq_true_eq, Bool.and_eq_true] at hc
    omega
  have hr : r.countP (ob_bl K key s) = 0 := by
    rw [List.countP_eq_zero]
    intro x hx
    have h5 := h4 x hx
    have : ob_cmp key (K x).1 < 0 := by
      rcases Int.lt_or_eq_of_le hc2 with h6 | h6
      · exact ob_cmp_tr h6 h5
      · rw [ob_cmp_0.mp h6]; exact h5
    simp only [ob_bl, Bool.or_eq_true, decide_eq_true_eq, Bool.and_eq_true]
    omega
  rw [List.countP_append, List.countP_cons_of_neg hc, hr]; omega
section OBS
variable {X : ob_X} {T : ob_T} {V : ob_V} {B : ob_B} {J : ob_J} {R : Room} {Q : ob_r → ob_w → Prop} {k n : Nat}
theorem find_loop {t nl hp hb cap rw9 ra nr : Nat} {K : ob_k} {key : List Nat} (ht : T t = some (4, 0)) (hnl : V t 1 = .ref nl) (hth : V t 0 = .ref hp) (hn : ob_nil T V nl) (h1 : ob_hb T V hp hb cap) (h0 : T rw9 = some (3, 0)) (h00 : V rw9 0 = .ref ra) (h2 : T ra = some (7, nr)) (h3 : key.length ≤ nr) (hnr : nr < 1000000) (h4 : ob_bs B ra 0 key) (hk : k ≤ R.cells) (hs : n ≤ R.slots) (hR : 3 ≤ R.frames ∧ 180 ≤ R.locals) :
    ∀ (tt : ob_t) (p : Nat), ob_sub T V nl tt p → ob_ns T V B hb cap K (ob_ads tt) → ob_so K (ob_ads tt) → Q (.inl (some (va_rf ((ob_ads tt).find? (fun x => decide ((K x).1 = key)))))) (T, V, B, J) → ob_G X mX4_find R Q 5 [(0, .ref t), (1, .ref rw9), (2, .int (nI key.length)), (3, .ref (ob_top nl tt))] [] (T, V, B, J) k n := by
  intro tt
  induction tt with
  | leaf =>
    intro p h _ _ hq
    refine og_aload_n dX4_find_5 rfl rfl ?_
    refine og_aload_n dX4_find_6 rfl rfl ?_
    refine og_getf dX4_find_7 kfX4_20 (by assumption) (by assumption) ?_
    refine og_acmp_eq (tgt := 52) dX4_find_10 (by decide) (fun _ => ?_) (fun z9 => absurd (rfl) z9)
    refine og_null dX4_find_52 ?_
    exact og_areturn rfl (Or.inl ⟨_, rfl⟩) (Or.inl rfl) dX4_find_53 hk hs hq
  | inner q a c l r ihl ihr =>
    intro p h hns hso hq
    obtain ⟨ha, hane⟩ := h.a
    have hv3 := h.1.1
    have hv4 := h.1.2.1
    have g1 := h1.1
    obtain ⟨hnd, hlen⟩ := hns a (by simp [ob_ads])
    have hbl := hnd.2.2.2
    have hsm : -1000000 ≤ ob_cmp key (K a).1 ∧ ob_cmp key (K a).1 ≤ 1000000 := ob_cmp_small h4.lt (by obtain ⟨b, s, -, -, -, hbs, -⟩ := hbl; exact hbs.app.1.lt) (by omega) (by omega)
    refine og_aload_n dX4_find_5 rfl rfl ?_
    refine og_aload_n dX4_find_6 rfl rfl ?_
    refine og_getf dX4_find_7 kfX4_20 (by assumption) (by assumption) ?_
    refine og_acmp_eq (tgt := 52) dX4_find_10 (by decide) (fun z9 => absurd z9 (hane)) (fun _ => ?_)
    refine og_aload_n dX4_find_13 rfl rfl ?_
    refine og_getf dX4_find_14 kfX4_9 (by assumption) (by assumption) ?_
    refine og_aload_n dX4_find_17 rfl rfl ?_
    refine og_iload_n dX4_find_18 rfl ?_
    refine og_aload_n dX4_find_19 rfl rfl ?_
    refine og_callVe dX4_find_20 kvX4_40 (ct_compareRow h1 h0 h00 h2 h3 hnr h4 hnd) rfl g1 rfl rfl ⟨hR.1, Nat.le_trans (by decide) hR.2⟩ hk hs (by decide) rfl ?_
    refine og_istore dX4_find_23 (by decide) ?_
    refine og_iload dX4_find_25 rfl ?_
    refine og_lv [(0, .ref t), (1, .ref rw9), (2, .int (nI key.length)), (3, .ref a), (4, .int (iI (ob_cmp key (K a).1)))] rfl ?_
    simp only [ob_ads] at hso hq
    refine og_if_ne (tgt := 32) dX4_find_27 (by decide) (fun hc => ?_) (fun hc => ?_)
    · have hc1 : ob_cmp key (K a).1 ≠ 0 := fun e => hc ((iI_0 hsm.1 hsm.2).mpr e)
      refine og_iload dX4_find_32 rfl ?_
      refine og_if_ge (tgt := 44) dX4_find_34 (by decide) (fun hd => ?_) (fun hd => ?_)
      · have hd1 : 0 ≤ ob_cmp key (K a).1 := (iI_le hsm.1 hsm.2).mp hd
        refine og_aload_n dX4_find_44 rfl rfl ?_
        refine og_getf dX4_find_45 kfX4_27 (by assumption) (by assumption) ?_
        refine og_astore_n dX4_find_48 (by decide) rfl ?_
        refine og_goto (tgt := 5) dX4_find_49 (by decide) ?_
        refine og_lv [(0, .ref t), (1, .ref rw9), (2, .int (nI key.length)), (3, .ref (ob_top nl r))] rfl ?_
        refine ihr a h.r (fun x hx => hns x (by simp [ob_ads, hx])) hso.split.2.1 ?_
        rw [← ob_find_r hso (by omega)]
        exact hq
      · have hd1 : ob_cmp key (K a).1 < 0 := by
          rcases Int.lt_or_le (ob_cmp key (K a).1) 0 with h9 | h9
          · exact h9
          · exact absurd ((iI_le hsm.1 hsm.2).mpr h9) hd
        refine og_aload_n dX4_find_37 rfl rfl ?_
        refine og_getf dX4_find_38 kfX4_24 (by assumption) (by assumption) ?_
        refine og_goto (tgt := 48) dX4_find_41 (by decide) ?_
        refine og_astore_n dX4_find_48 (by decide) rfl ?_
        refine og_goto (tgt := 5) dX4_find_49 (by decide) ?_
        refine og_lv [(0, .ref t), (1, .ref rw9), (2, .int (nI key.length)), (3, .ref (ob_top nl l))] rfl ?_
        refine ihl a h.l (fun x hx => hns x (by simp [ob_ads, hx])) hso.split.1 ?_
        rw [← ob_find_l hso hd1]
        exact hq
    · have hc1 : ob_cmp key (K a).1 = 0 := (iI_0 hsm.1 hsm.2).mp hc
      refine og_aload_n dX4_find_30 rfl rfl ?_
      refine og_areturn rfl (Or.inl ⟨_, rfl⟩) (Or.inr ⟨_, rfl⟩) dX4_find_31 hk hs ?_
      rw [ob_find_a hso hc1] at hq
      exact hq
theorem ct_find {t nl hp hb cap rw9 ra nr : Nat} {K : ob_k} {key : List Nat} {tt : ob_t} (h : ob_tr T V t nl tt) (hth : V t 0 = .ref hp) (h1 : ob_hb T V hp hb cap) (h0 : T rw9 = some (3, 0)) (h00 : V rw9 0 = .ref ra) (h2 : T ra = some (7, nr)) (h3 : key.length ≤ nr) (hnr : nr < 1000000) (h4 : ob_bs B ra 0 key) (hns : ob_ns T V B hb cap K (ob_ads tt)) (hso : ob_so K (ob_ads tt)) : ob_C X mX4_find 3 0 0 [.ref t, .ref rw9, .int (nI key.length)] (T, V, B, J) (ob_e (some (va_rf ((ob_ads tt).find? (fun x => decide ((K x).1 = key))))) (T, V, B, J)) := by
  refine ob_C_of (by decide) rfl (Nat.le_of_ble_eq_true rfl) ?_
  obtain ⟨ht, hnl, hroot, hn, -, hsub, -⟩ := h
  refine og_aload_n dX4_find_0 rfl rfl ?_
  refine og_getf dX4_find_1 kfX4_33 (by assumption) (by assumption) ?_
  refine og_astore_n dX4_find_4 (by decide) rfl ?_
  refine og_lv [(0, .ref t), (1, .ref rw9), (2, .int (nI key.length)), (3, .ref (ob_top nl tt))] rfl ?_
  exact find_loop ht hnl hth hn h1 h0 h00 h2 h3 hnr h4 (Nat.le_refl _) (Nat.le_refl _) ⟨by decide, by decide⟩ tt nl hsub hns hso ⟨rfl, rfl⟩
theorem below_loop {t nl hp hb cap rw9 ra nr : Nat} {K : ob_k} {key : List Nat} {s : Bool} (ht : T t = some (4, 0)) (hnl : V t 1 = .ref nl) (hth : V t 0 = .ref hp) (hn : ob_nil T V nl) (h1 : ob_hb T V hp hb cap) (h0 : T rw9 = some (3, 0)) (h00 : V rw9 0 = .ref ra) (h2 : T ra = some (7, nr)) (h3 : key.length ≤ nr) (hnr : nr < 1000000) (h4 : ob_bs B ra 0 key) (hk : k ≤ R.cells) (hs : n ≤ R.slots) (hR : 3 ≤ R.frames ∧ 180 ≤ R.locals) :
    ∀ (tt : ob_t) (p m : Nat), ob_sub T V nl tt p → ob_ns T V B hb cap K (ob_ads tt) → ob_so K (ob_ads tt) → Q (.inl (some (.int (nI (m + (ob_ads tt).countP (ob_bl K key s)))))) (T, V, B, J) → ob_G X mX4_keysBelow R Q 9 [(0, .ref t), (1, .ref rw9), (2, .int (nI key.length)), (3, ob_cv s), (4, .int (nI m)), (5, .ref (ob_top nl tt))] [] (T, V, B, J) k n := by
  intro tt
  induction tt with
  | leaf =>
    intro p m h _ _ hq
    refine og_aload dX4_keysBelow_9 rfl rfl ?_
    refine og_aload_n dX4_keysBelow_11 rfl rfl ?_
    refine og_getf dX4_keysBelow_12 kfX4_20 (by assumption) (by assumption) ?_
    refine og_acmp_eq (tgt := 80) dX4_keysBelow_15 (by decide) (fun _ => ?_) (fun z9 => absurd (rfl) z9)
    refine og_iload dX4_keysBelow_80 rfl ?_
    exact og_ireturn (ty := .int) rfl dX4_keysBelow_82 rfl hk hs hq
  | inner q a c l r ihl ihr =>
    intro p m h hns hso hq
    obtain ⟨ha, hane⟩ := h.a
    have hv3 := h.1.1
    have hv4 := h.1.2.1
    have g1 := h1.1
    obtain ⟨hl1, hl2, -⟩ := h.l.top hn
    obtain ⟨hnd, hlen⟩ := hns a (by simp [ob_ads])
    have hbl := hnd.2.2.2
    have hsm : -1000000 ≤ ob_cmp key (K a).1 ∧ ob_cmp key (K a).1 ≤ 1000000 := ob_cmp_small h4.lt (by obtain ⟨b, s, -, -, -, hbs, -⟩ := hbl; exact hbs.app.1.lt) (by omega) (by omega)
    simp only [ob_ads] at hso hq
    have right : ob_bl K key s a = true → ob_G X mX4_keysBelow R Q 45 [(0, .ref t), (1, .ref rw9), (2, .int (nI key.length)), (3, ob_cv s), (4, .int (nI m)), (5, .ref a)] [] (T, V, B, J) k n := by
      intro hb9
      refine og_iload dX4_keysBelow_45 rfl ?_
      refine og_aload dX4_keysBelow_47 rfl rfl ?_
      refine og_getf dX4_keysBelow_49 kfX4_24 (by assumption) (by assumption) ?_
      refine og_getf dX4_keysBelow_52 kfX4_36 (by assumption) (by assumption) ?_
      refine og_iconst (v := 1) dX4_keysBelow_55 (by decide) ?_
      refine og_iadd dX4_keysBelow_56 ?_
      refine og_iadd dX4_keysBelow_57 ?_
      refine og_istore dX4_keysBelow_58 (by decide) ?_
      refine og_aload dX4_keysBelow_60 rfl rfl ?_
      refine og_getf dX4_keysBelow_62 kfX4_27 (by assumption) (by assumption) ?_
      refine og_astore dX4_keysBelow_65 (by decide) rfl ?_
      refine og_goto (tgt := 77) dX4_keysBelow_67 (by decide) ?_
      refine og_goto (tgt := 9) dX4_keysBelow_77 (by decide) ?_
      refine og_lv [(0, .ref t), (1, .ref rw9), (2, .int (nI key.length)), (3, ob_cv s), (4, .int (nI (m + (ob_siz l + 1)))), (5, .ref (ob_top nl r))] (by rw [← nI_add, ← nI_1]; cases s <;> rfl) ?_
      refine ihr a _ h.r (fun x hx => hns x (by simp [ob_ads, hx])) hso.split.2.1 ?_
      rw [ob_bl_r hso hb9, ← ob_siz_len] at hq
      rw [Nat.add_assoc]
      exact hq
    have left : ¬ ob_bl K key s a = true → ob_G X mX4_keysBelow R Q 70 [(0, .ref t), (1, .ref rw9), (2, .int (nI key.length)), (3, ob_cv s), (4, .int (nI m)), (5, .ref a)] [] (T, V, B, J) k n := by
      intro hb9
      refine og_aload dX4_keysBelow_70 rfl rfl ?_
      refine og_getf dX4_keysBelow_72 kfX4_24 (by assumption) (by assumption) ?_
      refine og_astore dX4_keysBelow_75 (by decide) rfl ?_
      refine og_goto (tgt := 9) dX4_keysBelow_77 (by decide) ?_
      refine og_lv [(0, .ref t), (1, .ref rw9), (2, .int (nI key.length)), (3, ob_cv s), (4, .int (nI m)), (5, .ref (ob_top nl l))] (by cases s <;> rfl) ?_
      refine ihl a _ h.l (fun x hx => hns x (by simp [ob_ads, hx])) hso.split.1 ?_
      rw [ob_bl_l hso hb9] at hq
      exact hq
    refine og_aload dX4_keysBelow_9 rfl rfl ?_
    refine og_aload_n dX4_keysBelow_11 rfl rfl ?_
    refine og_getf dX4_keysBelow_12 kfX4_20 (by assumption) (by assumption) ?_
    refine og_acmp_eq (tgt := 80) dX4_keysBelow_15 (by decide) (fun z9 => absurd z9 (hane)) (fun _ => ?_)
    refine og_aload_n dX4_keysBelow_18 rfl rfl ?_
    refine og_getf dX4_keysBelow_19 kfX4_9 (by assumption) (by assumption) ?_
    refine og_aload_n dX4_keysBelow_22 rfl rfl ?_
    refine og_iload_n dX4_keysBelow_23 rfl ?_
    refine og_aload dX4_keysBelow_24 rfl rfl ?_
    refine og_callVe dX4_keysBelow_26 kvX4_40 (ct_compareRow h1 h0 h00 h2 h3 hnr h4 hnd) rfl g1 rfl rfl ⟨hR.1, Nat.le_trans (by decide) hR.2⟩ hk hs (by decide) rfl ?_
    refine og_istore dX4_keysBelow_29 (by decide) ?_
    refine og_iload dX4_keysBelow_31 rfl ?_
    refine og_lv [(0, .ref t), (1, .ref rw9), (2, .int (nI key.length)), (3, ob_cv s), (4, .int (nI m)), (5, .ref a), (6, .int (iI (ob_cmp key (K a).1)))] (by cases s <;> rfl) ?_
    have back : ∀ {pc : Nat}, ob_G X mX4_keysBelow R Q pc [(0, .ref t), (1, .ref rw9), (2, .int (nI key.length)), (3, ob_cv s), (4, .int (nI m)), (5, .ref a)] [] (T, V, B, J) k n → ob_G X mX4_keysBelow R Q pc [(0, .ref t), (1, .ref rw9), (2, .int (nI key.length)), (3, ob_cv s), (4, .int (nI m)), (5, .ref a), (6, .int (iI (ob_cmp key (K a).1)))] [] (T, V, B, J) k n := fun hG => og_lv _ rfl hG
    refine og_if_gt (tgt := 45) dX4_keysBelow_33 (by decide) (fun hc => ?_) (fun hc => ?_)
    · have hc1 : 0 < ob_cmp key (K a).1 := (iI_gt hsm.1 hsm.2).mp hc
      exact back (right (by simp [ob_bl, hc1]))
    · have hc1 : ¬ 0 < ob_cmp key (K a).1 := fun e => hc ((iI_gt hsm.1 hsm.2).mpr e)
      cases s with
      | false =>
        refine og_iload_n (x := 0) dX4_keysBelow_36 rfl ?_
        refine og_if_eq (tgt := 70) dX4_keysBelow_37 (by decide) (fun _ => ?_) (fun z9 => absurd (rfl) z9)
        exact back (left (by simp [ob_bl, hc1]))
      | true =>
        refine og_iload_n (x := 1) dX4_keysBelow_36 rfl ?_
        refine og_if_eq (tgt := 70) dX4_keysBelow_37 (by decide) (fun z9 => absurd z9 (by decide)) (fun _ => ?_)
        refine og_iload dX4_keysBelow_40 rfl ?_
        refine og_if_ne (tgt := 70) dX4_keysBelow_42 (by decide) (fun hd => ?_) (fun hd => ?_)
        · have hd1 : ob_cmp key (K a).1 ≠ 0 := fun e => hd ((iI_0 hsm.1 hsm.2).mpr e)
          exact back (left (by simp [ob_bl, hc1, hd1]))
        · have hd1 : ob_cmp key (K a).1 = 0 := (iI_0 hsm.1 hsm.2).mp hd
          exact back (right (by simp [ob_bl, hd1]))
theorem ct_keysBelow {t nl hp hb cap rw9 ra nr : Nat} {K : ob_k} {key : List Nat} {s : Bool} {tt : ob_t} (h : ob_tr T V t nl tt) (hth : V t 0 = .ref hp) (h1 : ob_hb T V hp hb cap) (h0 : T rw9 = some (3, 0)) (h00 : V rw9 0 = .ref ra) (h2 : T ra = some (7, nr)) (h3 : key.length ≤ nr) (hnr : nr < 1000000) (h4 : ob_bs B ra 0 key) (hns : ob_ns T V B hb cap K (ob_ads tt)) (hso : ob_so K (ob_ads tt)) : ob_C X mX4_keysBelow 3 0 0 [.ref t, .ref rw9, .int (nI key.length), ob_cv s] (T, V, B, J) (ob_e (some (.int (nI ((ob_ads tt).countP (ob_bl K key s))))) (T, V, B, J)) := by
  refine ob_C_of (by decide) rfl (by cases s <;> exact Nat.le_of_ble_eq_true rfl) ?_
  obtain ⟨ht, hnl, hroot, hn, -, hsub, -⟩ := h
  refine og_lv [(0, .ref t), (1, .ref rw9), (2, .int (nI key.length)), (3, ob_cv s)] (by cases s <;> rfl) ?_
  refine og_iconst (v := 0) dX4_keysBelow_0 (by decide) ?_
  refine og_istore dX4_keysBelow_1 (by decide) ?_
  refine og_aload_n dX4_keysBelow_3 rfl rfl ?_
  refine og_getf dX4_keysBelow_4 kfX4_33 (by assumption) (by assumption) ?_
  refine og_astore dX4_keysBelow_7 (by decide) rfl ?_
  refine og_lv [(0, .ref t), (1, .ref rw9), (2, .int (nI key.length)), (3, ob_cv s), (4, .int (nI 0)), (5, .ref (ob_top nl tt))] (by cases s <;> rfl) ?_
  exact below_loop ht hnl hth hn h1 h0 h00 h2 h3 hnr h4 (Nat.le_refl _) (Nat.le_refl _) ⟨by decide, by decide⟩ tt nl 0 hsub hns hso ⟨by rw [Nat.zero_add], rfl⟩
theorem place_loop {t nl : Nat} (ht : T t = some (4, 0)) (hnl : V t 1 = .ref nl) (hn : ob_nil T V nl) (hk : k ≤ R.cells) (hs : n ≤ R.slots) : ∀ (z : List ob_f) (h n0 m : Nat), ob_zm V nl z h n0 → (∀ a ∈ ob_zads z, T a = some (2, 0) ∧ a ≠ nl) → (ob_zads z).Nodup → h ∉ ob_zads z → h ≠ nl → T h = some (2, 0) → V h 5 = .ref (ob_zp nl z) → Q (.inl (some (.int (nI (m + (ob_zl z).length))))) (T, V, B, J) → ob_G X mX4_placeOf R Q 10 [(0, .ref t), (2, .int (nI m)), (3, .ref h)] [] (T, V, B, J) k n := by
  intro z
  induction z with
  | nil =>
    intro h n0 m hz hT hd hh hne hth hp hq
    have hp : V h 5 = .ref nl := hp
    refine og_aload_n dX4_placeOf_10 rfl rfl ?_
    refine og_getf dX4_placeOf_11 kfX4_30 (by assumption) (by assumption) ?_
    refine og_aload_n dX4_placeOf_14 rfl rfl ?_
    refine og_getf dX4_placeOf_15 kfX4_20 (by assumption) (by assumption) ?_
    refine og_acmp_eq (tgt := 55) dX4_placeOf_18 (by decide) (fun _ => ?_) (fun z9 => absurd (rfl) z9)
    refine og_iload_n dX4_placeOf_55 rfl ?_
    exact og_ireturn (ty := .int) rfl dX4_placeOf_56 rfl hk hs hq
  | cons f z ih =>
    obtain ⟨d, a, c, b, q⟩ := f
    intro h n0 m hz hT hd hh hne hth hp hq
    have hp : V h 5 = .ref a := hp
    obtain ⟨z3, z4, z5, z6, z7, zb, zz⟩ := hz
    obtain ⟨ha, hane⟩ := hT a (by simp [ob_zads])
    have hsubb : ob_sub T V nl b a := ⟨zb, fun x hx => hT x (by simp [ob_zads, hx])⟩
    obtain ⟨hb1, hb2, -⟩ := hsubb.top hn
    simp only [ob_zads, List.nodup_cons, List.mem_append, not_or] at hd
    obtain ⟨⟨hd1, hd2⟩, hd3⟩ := hd
    have hdz : (ob_zads z).Nodup := (List.nodup_append.mp hd3).2.1
    have next : ∀ m', Q (.inl (some (.int (nI (m' + (ob_zl z).length))))) (T, V, B, J) → ob_G X mX4_placeOf R Q 47 [(0, .ref t), (2, .int (nI m')), (3, .ref h)] [] (T, V, B, J) k n := by
      intro m' hq'
      refine og_aload_n dX4_placeOf_47 rfl rfl ?_
      refine og_getf dX4_placeOf_48 kfX4_30 (by assumption) (by assumption) ?_
      refine og_astore_n dX4_placeOf_51 (by decide) rfl ?_
      refine og_goto (tgt := 10) dX4_placeOf_52 (by decide) ?_
      refine og_lv [(0, .ref t), (2, .int (nI m')), (3, .ref a)] rfl ?_
      exact ih a _ m' zz (fun x hx => hT x (by simp [ob_zads, hx])) hdz hd2 hane ha z5 hq'
    cases d with
    | true =>
      simp only [if_true] at z3 z4
      have hne2 : h ≠ ob_top nl b := by
        cases b with
        | leaf => exact hne
        | inner q2 a2 c2 l2 r2 => intro e; exact hh (by simp [ob_zads, ob_ads, e, ob_top])
      refine og_aload_n dX4_placeOf_10 rfl rfl ?_
      refine og_getf dX4_placeOf_11 kfX4_30 (by assumption) (by assumption) ?_
      refine og_aload_n dX4_placeOf_14 rfl rfl ?_
      refine og_getf dX4_placeOf_15 kfX4_20 (by assumption) (by assumption) ?_
      refine og_acmp_eq (tgt := 55) dX4_placeOf_18 (by decide) (fun z9 => absurd z9 (hane)) (fun _ => ?_)
      refine og_aload_n dX4_placeOf_21 rfl rfl ?_
      refine og_aload_n dX4_placeOf_22 rfl rfl ?_
      refine og_getf dX4_placeOf_23 kfX4_30 (by assumption) (by assumption) ?_
      refine og_getf dX4_placeOf_26 kfX4_27 (by assumption) (by assumption) ?_
      refine og_acmp_ne (tgt := 47) dX4_placeOf_29 (by decide) (fun _ => ?_) (fun z9 => absurd z9 (hne2))
      refine next m ?_
      simpa [ob_zl] using hq
    | false =>
      simp only [Bool.false_eq_true, if_false] at z3 z4
      refine og_aload_n dX4_placeOf_10 rfl rfl ?_
      refine og_getf dX4_placeOf_11 kfX4_30 (by assumption) (by assumption) ?_
      refine og_aload_n dX4_placeOf_14 rfl rfl ?_
      refine og_getf dX4_placeOf_15 kfX4_20 (by assumption) (by assumption) ?_
      refine og_acmp_eq (tgt := 55) dX4_placeOf_18 (by decide) (fun z9 => absurd z9 (hane)) (fun _ => ?_)
      refine og_aload_n dX4_placeOf_21 rfl rfl ?_
      refine og_aload_n dX4_placeOf_22 rfl rfl ?_
      refine og_getf dX4_placeOf_23 kfX4_30 (by assumption) (by assumption) ?_
      refine og_getf dX4_placeOf_26 kfX4_27 (by assumption) (by assumption) ?_
      refine og_acmp_ne (tgt := 47) dX4_placeOf_29 (by decide) (fun z9 => absurd (rfl) z9) (fun _ => ?_)
      refine og_iload_n dX4_placeOf_32 rfl ?_
      refine og_aload_n dX4_placeOf_33 rfl rfl ?_
      refine og_getf dX4_placeOf_34 kfX4_30 (by assumption) (by assumption) ?_
      refine og_getf dX4_placeOf_37 kfX4_24 (by assumption) (by assumption) ?_
      refine og_getf dX4_placeOf_40 kfX4_36 (by assumption) (by assumption) ?_
      refine og_iconst (v := 1) dX4_placeOf_43 (by decide) ?_
      refine og_iadd dX4_placeOf_44 ?_
      refine og_iadd dX4_placeOf_45 ?_
      refine og_istore_n dX4_placeOf_46 (by decide) ?_
      refine og_lv [(0, .ref t), (2, .int (nI (m + (ob_siz b + 1)))), (3, .ref h)] (by rw [← nI_add, ← nI_1]; rfl) ?_
      refine next _ ?_
      have e : m + (ob_siz b + 1) + (ob_zl z).length = m + (ob_zl ((false, a, c, b, q) :: z)).length := by
        simp [ob_zl, ob_siz_len]; omega
      rw [e]
      exact hq
theorem ct_placeOf {t nl a q : Nat} {c : Bool} {z : List ob_f} {l r : ob_t} (h : ob_tr T V t nl (ob_plug z (.inner q a c l r))) : ob_C X mX4_placeOf 0 0 0 [.ref t, .ref a] (T, V, B, J) (ob_e (some (.int (nI ((ob_zl z).length + ob_siz l)))) (T, V, B, J)) := by
  refine ob_C_of (by decide) rfl (Nat.le_of_ble_eq_true rfl) ?_
  obtain ⟨ht, hnl, hroot, hn, -, hsub, hnd⟩ := h
  obtain ⟨hz, htm⟩ := (ob_tm_plug V nl z _).mp hsub.1
  have hnd2 := ob_nd_plug.mp hnd
  have hT : ∀ x ∈ ob_zads z, T x = some (2, 0) ∧ x ≠ nl := fun x hx => hsub.2 x (ob_mem_plug.mpr (Or.inl hx))
  have hT2 : ∀ x ∈ ob_ads (.inner q a c l r), T x = some (2, 0) ∧ x ≠ nl := fun x hx => hsub.2 x (ob_mem_plug.mpr (Or.inr hx))
  have hs2 : ob_sub T V nl (.inner q a c l r) (ob_zp nl z) := ⟨htm, hT2⟩
  obtain ⟨ha, hane⟩ := hs2.a
  have h3 := htm.1
  have h5 := htm.2.2.1
  obtain ⟨hl1, hl2, -⟩ := hs2.l.top hn
  have hin : a ∈ ob_ads (.inner q a c l r) := by simp [ob_ads]
  have hnot : a ∉ ob_zads z := fun hx => (List.nodup_append.mp hnd2).2.2 a hx a hin rfl
  refine og_aload_n dX4_placeOf_0 rfl rfl ?_
  refine og_getf dX4_placeOf_1 kfX4_24 (by assumption) (by assumption) ?_
  refine og_getf dX4_placeOf_4 kfX4_36 (by assumption) (by assumption) ?_
  refine og_istore_n dX4_placeOf_7 (by decide) ?_
  refine og_aload_n dX4_placeOf_8 rfl rfl ?_
  refine og_astore_n dX4_placeOf_9 (by decide) rfl ?_
  refine og_lv [(0, .ref t), (2, .int (nI (ob_siz l))), (3, .ref a)] rfl ?_
  exact place_loop ht hnl hn (Nat.le_refl _) (Nat.le_refl _) z a _ _ hz hT (List.nodup_append.mp hnd2).1 hnot hane ha h5 ⟨by rw [Nat.add_comm], rfl⟩
end OBS
end
section
/-! TURNING: nodes by sides, contexts, replace, rotate -/
/-- a node with s on the side d and u on the other -/
def ob_mkn (d : Bool) (q a : Nat) (c : Bool) (s u : ob_t) : ob_t := if d then .inner q a c s u else .inner q a c u s
theorem ob_tm_mk {V : ob_V} {nl : Nat} (d : Bool) {q a : Nat} {c : Bool} {s u : ob_t} {p : Nat} : ob_tm V nl (ob_mkn d q a c s u) p ↔ V a (ob_sl d) = .ref (ob_top nl s) ∧ V a (ob_sl (!d)) = .ref (ob_top nl u) ∧ V a 5 = .ref p ∧ V a 6 = ob_cv c ∧ V a 7 = .int (nI (ob_siz s + ob_siz u + 1)) ∧ ob_tm V nl s a ∧ ob_tm V nl u a := by
  cases d
  · simp only [ob_mkn, Bool.false_eq_true, if_false, ob_tm, ob_sl, Bool.not_false, if_true, Nat.add_comm (ob_siz u) (ob_siz s)]
    constructor
    · rintro ⟨h1, h2, h3, h4, h5, h6, h7⟩; exact ⟨h2, h1, h3, h4, h5, h7, h6⟩
    · rintro ⟨h1, h2, h3, h4, h5, h6, h7⟩; exact ⟨h2, h1, h3, h4, h5, h7, h6⟩
  · simp only [ob_mkn, if_true, ob_tm, ob_sl, Bool.not_true, Bool.false_eq_true, if_false]
theorem ob_zm_cons {V : ob_V} {nl : Nat} {d : Bool} {a q : Nat} {c : Bool} {b : ob_t} {z : List ob_f} {h m : Nat} : ob_zm V nl ((d, a, c, b, q) :: z) h m ↔ V a (ob_sl d) = .ref h ∧ V a (ob_sl (!d)) = .ref (ob_top nl b) ∧ V a 5 = .ref (ob_zp nl z) ∧ V a 6 = ob_cv c ∧ V a 7 = .int (nI (m + ob_siz b + 1)) ∧ ob_tm V nl b a ∧ ob_zm V nl z a (m + ob_siz b + 1) := by
  cases d
  · simp only [ob_zm, Bool.false_eq_true, if_false, ob_sl, Bool.not_false, if_true]
    constructor
    · rintro ⟨h1, h2, h3⟩; exact ⟨h2, h1, h3⟩
    · rintro ⟨h1, h2, h3⟩; exact ⟨h2, h1, h3⟩
  · simp only [ob_zm, if_true, ob_sl, Bool.not_true, Bool.false_eq_true, if_false]
theorem ob_top_mk (nl : Nat) (d : Bool) (q a : Nat) (c : Bool) (s u : ob_t) : ob_top nl (ob_mkn d q a c s u) = a := by cases d <;> rfl
theorem ob_siz_mk (d : Bool) (q a : Nat) (c : Bool) (s u : ob_t) : ob_siz (ob_mkn d q a c s u) = ob_siz s + ob_siz u + 1 := by cases d <;> simp [ob_mkn, ob_siz, Nat.add_comm]
theorem ob_red_mk (d : Bool) (q a : Nat) (c : Bool) (s u : ob_t) : ob_red (ob_mkn d q a c s u) = c := by cases d <;> rfl
theorem ob_mem_mk {d : Bool} {q a : Nat} {c : Bool} {s u : ob_t} {x : Nat} : x ∈ ob_ads (ob_mkn d q a c s u) ↔ x = a ∨ x ∈ ob_ads s ∨ x ∈ ob_ads u := by
  cases d <;> simp [ob_mkn, ob_ads] <;> grind
theorem ob_nd_mk {d : Bool} {q a : Nat} {c : Bool} {s u : ob_t} : (ob_ads (ob_mkn d q a c s u)).Nodup ↔ a ∉ ob_ads s ∧ a ∉ ob_ads u ∧ (ob_ads s).Nodup ∧ (ob_ads u).Nodup ∧ ∀ x ∈ ob_ads s, x ∉ ob_ads u := by
  cases d <;> simp [ob_mkn, ob_ads, List.nodup_append] <;> grind
theorem ob_ads_rot (d : Bool) (q1 q2 q3 q4 x y : Nat) (c1 c2 c3 c4 : Bool) (A Bt C : ob_t) : ob_ads (ob_mkn d q1 x c1 A (ob_mkn d q2 y c2 Bt C)) = ob_ads (ob_mkn d q3 y c3 (ob_mkn d q4 x c4 A Bt) C) := by
  cases d <;> simp [ob_mkn, ob_ads]
theorem ob_plug_mk (d : Bool) (a q : Nat) (c : Bool) (b t : ob_t) (z : List ob_f) : ob_plug ((d, a, c, b, q) :: z) t = ob_plug z (ob_mkn d q a c t b) := by cases d <;> rfl
theorem ob_sl_ne (d : Bool) : ob_sl d ≠ ob_sl (!d) := by cases d <;> decide
theorem ob_sl_ne' (d : Bool) : ob_sl (!d) ≠ ob_sl d := by cases d <;> decide
theorem ob_sl_rg (d : Bool) : 3 ≤ ob_sl d ∧ ob_sl d ≤ 4 := by cases d <;> decide
/-- what changes: the tree's root, links, colours and sizes of the nodes A -/
def ob_fr (t : Nat) (A : List Nat) (V V' : ob_V) : Prop := ∀ a k, ¬ ((a = t ∧ k = 2) ∨ (a ∈ A ∧ 3 ≤ k ∧ k ≤ 7)) → V' a k = V a k
theorem ob_fr.rf {t : Nat} {A : List Nat} {V : ob_V} : ob_fr t A V V := fun _ _ _ => rfl
theorem ob_fr.tr {t : Nat} {A A' : List Nat} {V V1 V2 : ob_V} (h1 : ob_fr t A V V1) (h2 : ob_fr t A' V1 V2) (hA : ∀ a ∈ A', a ∈ A) : ob_fr t A V V2 := fun a k h => (h2 a k (fun q => h (q.imp id (fun r => ⟨hA a r.1, r.2⟩)))).trans (h1 a k h)
theorem ob_fr.set {t a k : Nat} {A : List Nat} {V V1 : ob_V} {v : Value} (h : ob_fr t A V V1) (ha : a ∈ A) (hk : 3 ≤ k ∧ k ≤ 7) : ob_fr t A V (ob_set V1 a k v) := fun b j hb => by
  rw [← h b j hb]
  simp only [ob_set]
  rw [if_neg]
  rintro ⟨rfl, rfl⟩
  exact hb (Or.inr ⟨ha, hk⟩)
theorem ob_fr.root {t : Nat} {A : List Nat} {V V1 : ob_V} {v : Value} (h : ob_fr t A V V1) : ob_fr t A V (ob_set V1 t 2 v) := fun b j hb => by
  rw [← h b j hb]
  simp only [ob_set]
  rw [if_neg]
  rintro ⟨rfl, rfl⟩
  exact hb (Or.inl ⟨rfl, rfl⟩)
/-- a tree at work: the context z, the tree tt in its hole -/
def ob_zt (T : ob_T) (V : ob_V) (t nl : Nat) (z : List ob_f) (tt : ob_t) : Prop :=
  T t = some (4, 0) ∧ V t 1 = .ref nl ∧ V t 2 = .ref (ob_top nl (ob_plug z tt)) ∧ ob_nil T V nl ∧ ob_zm V nl z (ob_top nl tt) (ob_siz tt) ∧ ob_tm V nl tt (ob_zp nl z) ∧ (∀ a ∈ ob_zads z ++ ob_ads tt, T a = some (2, 0) ∧ a ≠ nl) ∧ (ob_zads z ++ ob_ads tt).Nodup
theorem ob_tr.zt {T : ob_T} {V : ob_V} {t nl : Nat} {z : List ob_f} {tt : ob_t} (h : ob_tr T V t nl (ob_plug z tt)) : ob_zt T V t nl z tt := by
  obtain ⟨h1, h2, h3, h4, h5, h6, h7⟩ := h
  obtain ⟨g1, g2⟩ := (ob_tm_plug V nl z tt).mp h6.1
  exact ⟨h1, h2, h3, h4, g1, g2, fun a ha => h6.2 a (ob_mem_plug.mpr (List.mem_append.mp ha)), ob_nd_plug.mp h7⟩
theorem ob_zt.tr {T : ob_T} {V : ob_V} {t nl : Nat} {z : List ob_f} {tt : ob_t} (h : ob_zt T V t nl z tt) (h5 : V nl 5 = .ref nl) : ob_tr T V t nl (ob_plug z tt) := by
  obtain ⟨h1, h2, h3, h4, g1, g2, g3, g4⟩ := h
  exact ⟨h1, h2, h3, h4, h5, ⟨(ob_tm_plug V nl z tt).mpr ⟨g1, g2⟩, fun a ha => g3 a (List.mem_append.mpr (ob_mem_plug.mp ha))⟩, ob_nd_plug.mpr g4⟩
/-- the hole's tree and the frame above it are one tree -/
theorem ob_zt.up {T : ob_T} {V : ob_V} {t nl a q : Nat} {d c : Bool} {b tt : ob_t} {z : List ob_f} (h : ob_zt T V t nl ((d, a, c, b, q) :: z) tt) : ob_zt T V t nl z (ob_mkn d q a c tt b) := by
  obtain ⟨h1, h2, h3, h4, g1, g2, g3, g4⟩ := h
  rw [ob_zm_cons] at g1
  obtain ⟨e1, e2, e3, e4, e5, e6, e7⟩ := g1
  refine ⟨h1, h2, by rw [← ob_plug_mk]; exact h3, h4, ?_, (ob_tm_mk d).mpr ⟨e1, e2, e3, e4, e5, g2, e6⟩, ?_, ?_⟩
  · rw [ob_top_mk, ob_siz_mk]; exact e7
  · intro x hx
    refine g3 x ?_
    simp only [List.mem_append, ob_mem_mk, ob_zads, List.mem_cons] at hx ⊢
    grind
  · have g5 := g4
    simp only [ob_zads, List.cons_append, List.nodup_cons, List.mem_append, List.append_assoc, List.nodup_append, ob_nd_mk, ob_mem_mk] at g4 ⊢
    grind
theorem ob_zt.down {T : ob_T} {V : ob_V} {t nl a q : Nat} (d : Bool) {c : Bool} {b tt : ob_t} {z : List ob_f} (h : ob_zt T V t nl z (ob_mkn d q a c tt b)) : ob_zt T V t nl ((d, a, c, b, q) :: z) tt := by
  obtain ⟨h1, h2, h3, h4, g1, g2, g3, g4⟩ := h
  obtain ⟨e1, e2, e3, e4, e5, e6, e7⟩ := (ob_tm_mk d).mp g2
  rw [ob_top_mk, ob_siz_mk] at g1
  refine ⟨h1, h2, by rw [ob_plug_mk]; exact h3, h4, ob_zm_cons.mpr ⟨e1, e2, e3, e4, e5, e7, g1⟩, e6, ?_, ?_⟩
  · intro x hx
    refine g3 x ?_
    simp only [List.mem_append, ob_mem_mk, ob_zads, List.mem_cons] at hx ⊢
    grind
  · simp only [ob_zads, List.cons_append, List.nodup_cons, List.mem_append, List.append_assoc, List.nodup_append, ob_nd_mk, ob_mem_mk] at g4 ⊢
    grind
end
section
/-! replace, rotate -/
/-- the frame right above the hole, and the old thing in it -/
def ob_hd (T : ob_T) (V : ob_V) (nl old : Nat) : List ob_f → Prop
  | [] => True
  | (d, a, _, b, _) :: _ => T a = some (2, 0) ∧ a ≠ nl ∧ V a 3 = .ref (if d then old else ob_top nl b) ∧ (d = false → old ≠ ob_top nl b)
def ob_rep (V : ob_V) (t nl : Nat) (z : List ob_f) (h : Nat) : ob_V := match z with
  | [] => ob_set (ob_set V t 2 (.ref h)) h 5 (.ref nl)
  | (d, a, _, _, _) :: _ => ob_set (ob_set V a (ob_sl d) (.ref h)) h 5 (.ref a)
theorem ob_zm_hole {V V' : ob_V} {nl x y m : Nat} {z : List ob_f} (h : ob_zm V nl z x m) (hnd : (ob_zads z).Nodup) (hh : match z with | [] => True | (d, a, _, _, _) :: _ => V' a (ob_sl d) = .ref y ∧ ∀ k, k ≠ ob_sl d → V' a k = V a k) (hr : ∀ b ∈ ob_zads z, b ≠ ob_zp nl z → ∀ k, V' b k = V b k) : ob_zm V' nl z y m := by
  cases z with
  | nil => trivial
  | cons f z =>
    obtain ⟨d, a, c, b, q⟩ := f
    rw [ob_zm_cons] at h ⊢
    obtain ⟨e1, e2, e3, e4, e5, e6, e7⟩ := h
    simp only [ob_zads, List.nodup_cons, List.mem_append, not_or] at hnd
    obtain ⟨⟨n1, n2⟩, n3⟩ := hnd
    obtain ⟨k1, k2⟩ := hh
    have sr := ob_sl_rg d
    refine ⟨k1, by rw [k2 _ (ob_sl_ne' d)]; exact e2, by rw [k2 5 (by omega)]; exact e3, by rw [k2 6 (by omega)]; exact e4, by rw [k2 7 (by omega)]; exact e5, ?_, ?_⟩
    · exact ob_tm_congr (fun x hx k _ _ => hr x (by simp [ob_zads, hx]) (fun e => n1 (by have e : x = a := e; rw [← e]; exact hx)) k) e6
    · exact ob_zm_congr (fun x hx k _ _ => hr x (by simp [ob_zads, hx]) (fun e => n2 (by have e : x = a := e; rw [← e]; exact hx)) k) e7
section OBQ
variable {X : ob_X} {T : ob_T} {V : ob_V} {B : ob_B} {J : ob_J} {R : Room} {Q : ob_r → ob_w → Prop} {k n : Nat}
theorem ct_replace {t nl old h : Nat} {z : List ob_f} (ht : T t = some (4, 0)) (hnl : V t 1 = .ref nl) (ho : T old = some (2, 0)) (hp : V old 5 = .ref (ob_zp nl z)) (hh : T h = some (2, 0)) (hz : ob_hd T V nl old z) : ob_C X mX4_replace 1 0 0 [.ref t, .ref old, .ref h] (T, V, B, J) (ob_e none (T, ob_rep V t nl z h, B, J)) := by
  refine ob_C_of (by decide) rfl (Nat.le_of_ble_eq_true rfl) ?_
  cases z with
  | nil =>
    have hp : V old 5 = .ref nl := hp
    refine og_aload_n dX4_replace_0 rfl rfl ?_
    refine og_getf dX4_replace_1 kfX4_30 (by assumption) (by assumption) ?_
    refine og_astore_n dX4_replace_4 (by decide) rfl ?_
    refine og_aload_n dX4_replace_5 rfl rfl ?_
    refine og_aload_n dX4_replace_6 rfl rfl ?_
    refine og_getf dX4_replace_7 kfX4_20 (by assumption) (by assumption) ?_
    refine og_acmp_ne (tgt := 21) dX4_replace_10 (by decide) (fun z9 => absurd (rfl) z9) (fun _ => ?_)
    refine og_aload_n dX4_replace_13 rfl rfl ?_
    refine og_aload_n dX4_replace_14 rfl rfl ?_
    refine og_put dX4_replace_15 kfX4_33 (by assumption) rfl rfl ?_
    refine og_goto (tgt := 31) dX4_replace_18 (by decide) ?_
    refine og_aload_n dX4_replace_31 rfl rfl ?_
    refine og_aload_n dX4_replace_32 rfl rfl ?_
    refine og_put dX4_replace_33 kfX4_30 (by assumption) rfl rfl ?_
    exact og_return rfl dX4_replace_36 (by decide) (by decide) ⟨rfl, rfl⟩
  | cons f z =>
    obtain ⟨d, a, c, b, q⟩ := f
    obtain ⟨ha, hane, h3, hne⟩ := hz
    have hp : V old 5 = .ref a := hp
    refine og_aload_n dX4_replace_0 rfl rfl ?_
    refine og_getf dX4_replace_1 kfX4_30 (by assumption) (by assumption) ?_
    refine og_astore_n dX4_replace_4 (by decide) rfl ?_
    refine og_aload_n dX4_replace_5 rfl rfl ?_
    refine og_aload_n dX4_replace_6 rfl rfl ?_
    refine og_getf dX4_replace_7 kfX4_20 (by assumption) (by assumption) ?_
    refine og_acmp_ne (tgt := 21) dX4_replace_10 (by decide) (fun _ => ?_) (fun z9 => absurd z9 (hane))
    refine og_aload_n dX4_replace_21 rfl rfl ?_
    refine og_aload_n dX4_replace_22 rfl rfl ?_
    refine og_aload_n dX4_replace_23 rfl rfl ?_
    refine og_callVe dX4_replace_24 kvX4_87 (ct_sideOf ha h3) rfl ha rfl rfl ⟨by decide, by decide⟩ (by decide) (by decide) (Nat.le_of_ble_eq_true rfl) rfl ?_
    refine og_st [.int (ob_sd d), .ref a] ?_ ?_
    · cases d
      · simp [ob_sd, hne rfl]
      · simp [ob_sd]
    refine og_aload_n dX4_replace_27 rfl rfl ?_
    refine og_callVe dX4_replace_28 kvX4_65 (ct_setChild (d := d) ha) rfl ha rfl rfl ⟨by decide, by decide⟩ (by decide) (by decide) (Nat.le_of_ble_eq_true rfl) rfl ?_
    refine og_aload_n dX4_replace_31 rfl rfl ?_
    refine og_aload_n dX4_replace_32 rfl rfl ?_
    refine og_put dX4_replace_33 kfX4_30 (by assumption) rfl rfl ?_
    exact og_return rfl dX4_replace_36 (by decide) (by decide) ⟨rfl, rfl⟩
/-- rotate: y rises over x on the side d -/
theorem ct_rotate {t nl qx qy x y : Nat} {d cx cy : Bool} {z : List ob_f} {A Bt C : ob_t} (h : ob_zt T V t nl z (ob_mkn d qx x cx A (ob_mkn d qy y cy Bt C))) : ob_C X mX4_rotate 2 0 0 [.ref t, .ref x, .int (ob_sd d)] (T, V, B, J) (fun r w' => r = .inl none ∧ ∃ V', w' = (T, V', B, J) ∧ ob_zt T V' t nl z (ob_mkn d qy y cy (ob_mkn d qx x cx A Bt) C) ∧ ob_fr t (ob_zads z ++ ob_ads (ob_mkn d qx x cx A (ob_mkn d qy y cy Bt C))) V V') := by
  refine ob_C_of (by decide) rfl (Nat.le_of_ble_eq_true rfl) ?_
  obtain ⟨ht, hnl, hroot, hn, hz, htm, hTa, hnd⟩ := h
  rw [ob_top_mk, ob_siz_mk, ob_siz_mk] at hz
  obtain ⟨x1, x2, x5, x6, x7, tA, ty⟩ := (ob_tm_mk d).mp htm
  rw [ob_top_mk] at x2
  rw [ob_siz_mk] at x7
  obtain ⟨y1, y2, y5, y6, y7, tB, tC⟩ := (ob_tm_mk d).mp ty
  -- addresses
  have hx := hTa x (by simp [ob_mem_mk])
  have hy := hTa y (by simp [ob_mem_mk])
  have hTA : ∀ b ∈ ob_ads A, T b = some (2, 0) ∧ b ≠ nl := fun b hb => hTa b (by simp [ob_mem_mk, hb])
  have hTB : ∀ b ∈ ob_ads Bt, T b = some (2, 0) ∧ b ≠ nl := fun b hb => hTa b (by simp [ob_mem_mk, hb])
  have hTC : ∀ b ∈ ob_ads C, T b = some (2, 0) ∧ b ≠ nl := fun b hb => hTa b (by simp [ob_mem_mk, hb])
  have hTz : ∀ b ∈ ob_zads z, T b = some (2, 0) ∧ b ≠ nl := fun b hb => hTa b (by simp [hb])
  obtain ⟨hA1, hA2, -⟩ := ob_sub.top (p := x) hn ⟨tA, hTA⟩
  obtain ⟨hB1, hB2, -⟩ := ob_sub.top (p := y) hn ⟨tB, hTB⟩
  have hT2 : ∀ b, T b = some (2, 0) → b ≠ t := fun b hb e => by rw [e, ht] at hb; cases hb
  have hnd2 := hnd
  simp only [List.nodup_append, ob_nd_mk, ob_mem_mk] at hnd2
  obtain ⟨nz, ⟨nxA, nxy, nA, ⟨nyB, nyC, nB, nC, nBC⟩, nA2⟩, nzz⟩ := hnd2
  have hxy : x ≠ y := fun e => nxy (Or.inl e)
  have hxB : x ∉ ob_ads Bt := fun e => nxy (Or.inr (Or.inl e))
  have hxC : x ∉ ob_ads C := fun e => nxy (Or.inr (Or.inr e))
  have hyA : y ∉ ob_ads A := fun e => nA2 y e (Or.inl rfl)
  have tin : ∀ (tt : ob_t) (b : Nat), b ≠ nl → b ∉ ob_ads tt → ob_top nl tt ≠ b := by
    intro tt b hb hbt e
    cases tt with
    | leaf => exact hb e.symm
    | inner q9 a9 c9 l9 r9 => exact hbt (by rw [← e]; simp [ob_ads, ob_top])
  have hBx := tin Bt x hx.2 hxB
  have hBy := tin Bt y hy.2 nyB
  have hAx := tin A x hx.2 nxA
  have hAy := tin A y hy.2 hyA
  have hxt := hT2 x hx.1
  have hyt := hT2 y hy.1
  have hBt := hT2 _ hB1
  have hAt := hT2 _ hA1
  have hnt := hT2 _ hn.1
  have sr := ob_sl_rg d
  have sr' := ob_sl_rg (!d)
  have sn := ob_sl_ne d
  have hx1 := hx.1
  have hy1 := hy.1
  refine og_lv [(0, .ref t), (1, .ref x), (2, .int (ob_sd d))] rfl ?_
  refine og_aload_n dX4_rotate_0 rfl rfl ?_
  refine og_iconst (v := 1) dX4_rotate_1 (by decide) ?_
  refine og_iload_n dX4_rotate_2 rfl ?_
  refine og_isub dX4_rotate_3 ?_
  refine og_st [.int (ob_sd (!d)), .ref x] (by first | (rw [← ob_sd_not]; done) | (rw [← ob_sd_not]; rfl)) ?_
  refine og_callVe dX4_rotate_4 kvX4_58 (ct_child (d := !d) hx.1 x2) rfl hx1 rfl rfl ⟨by decide, by decide⟩ (by decide) (by decide) (Nat.le_of_ble_eq_true rfl) rfl ?_
  refine og_astore_n dX4_rotate_7 (by decide) rfl ?_
  refine og_aload_n dX4_rotate_8 rfl rfl ?_
  refine og_iload_n dX4_rotate_9 rfl ?_
  refine og_callVe dX4_rotate_10 kvX4_58 (ct_child (d := d) hy.1 y1) rfl hy1 rfl rfl ⟨by decide, by decide⟩ (by decide) (by decide) (Nat.le_of_ble_eq_true rfl) rfl ?_
  refine og_astore dX4_rotate_13 (by decide) rfl ?_
  refine og_aload_n dX4_rotate_15 rfl rfl ?_
  refine og_iconst (v := 1) dX4_rotate_16 (by decide) ?_
  refine og_iload_n dX4_rotate_17 rfl ?_
  refine og_isub dX4_rotate_18 ?_
  refine og_st [.int (ob_sd (!d)), .ref x] (by first | (rw [← ob_sd_not]; done) | (rw [← ob_sd_not]; rfl)) ?_
  refine og_aload dX4_rotate_19 rfl rfl ?_
  refine og_callVe dX4_rotate_21 kvX4_65 (ct_setChild (d := !d) hx.1) rfl hx1 rfl rfl ⟨by decide, by decide⟩ (by decide) (by decide) (Nat.le_of_ble_eq_true rfl) rfl ?_
  refine og_lv [(0, .ref t), (1, .ref x), (2, .int (ob_sd d)), (3, .ref y), (4, .ref (ob_top nl Bt))] rfl ?_
  -- behind the join at 39
  have rest : ∀ V2 : ob_V, (∀ b j, V2 b j = if ob_top nl Bt ≠ nl ∧ b = ob_top nl Bt ∧ j = 5 then .ref x else ob_set V x (ob_sl (!d)) (.ref (ob_top nl Bt)) b j) → ob_G X mX4_rotate (ob_rm 2 0 0) (fun r w' => r = .inl none ∧ ∃ V', w' = (T, V', B, J) ∧ ob_zt T V' t nl z (ob_mkn d qy y cy (ob_mkn d qx x cx A Bt) C) ∧ ob_fr t (ob_zads z ++ ob_ads (ob_mkn d qx x cx A (ob_mkn d qy y cy Bt C))) V V') 39 [(0, .ref t), (1, .ref x), (2, .int (ob_sd d)), (3, .ref y), (4, .ref (ob_top nl Bt))] [] (T, V2, B, J) 0 0 := by
    intro V2 hV2
    have v2 : ∀ b j, b ≠ ob_top nl Bt → b ≠ x → V2 b j = V b j := fun b j h1 h2 => by simp [hV2, h1, ob_set, h2]
    have v2x : ∀ j, j ≠ ob_sl (!d) → V2 x j = V x j := fun j hj => by simp [hV2, Ne.symm hBx, ob_set, hj]
    have v2B : ∀ j, j ≠ 5 → V2 (ob_top nl Bt) j = V (ob_top nl Bt) j := fun j hj => by simp [hV2, ob_set, hj, hBx]
    have hnl2 : V2 t 1 = .ref nl := by rw [v2 t 1 (Ne.symm hBt) (Ne.symm hxt)]; exact hnl
    have hx52 : V2 x 5 = .ref (ob_zp nl z) := by rw [v2x 5 (by omega)]; exact x5
    have hzn : ∀ b ∈ ob_zads z, b ≠ x ∧ b ≠ y ∧ b ≠ ob_top nl Bt ∧ b ≠ t := by
      intro b hb
      refine ⟨fun e => nzz b hb x (Or.inl rfl) e, fun e => nzz b hb y (Or.inr (Or.inr (Or.inl rfl))) e, ?_, hT2 b (hTz b hb).1⟩
      exact (tin Bt b (hTz b hb).2 (fun h9 => nzz b hb b (Or.inr (Or.inr (Or.inr (Or.inl h9)))) rfl)).symm
    have hhd : ob_hd T V2 nl x z := by
      cases z with
      | nil => trivial
      | cons f z =>
        obtain ⟨d', a, c, b, q⟩ := f
        obtain ⟨a1, a2, a3, a4⟩ := hzn a (by simp [ob_zads])
        obtain ⟨b1, b2⟩ := hTz a (by simp [ob_zads])
        refine ⟨b1, b2, by rw [v2 a 3 a3 a1]; exact hz.1, fun _ => ?_⟩
        exact (tin b x hx.2 (fun h9 => (hzn x (by simp [ob_zads, h9])).1 rfl)).symm
    refine og_aload_n dX4_rotate_39 rfl rfl ?_
    refine og_aload_n dX4_rotate_40 rfl rfl ?_
    refine og_aload_n dX4_rotate_41 rfl rfl ?_
    refine og_callVe dX4_rotate_42 kvX4_77 (ct_replace (z := z) ht hnl2 hx.1 hx52 hy.1 hhd) rfl ht rfl rfl ⟨by decide, by decide⟩ (by decide) (by decide) (Nat.le_of_ble_eq_true rfl) rfl ?_
    generalize hV3 : ob_rep V2 t nl z y = V3
    -- what V3 is
    have v3 : ∀ b j, b ≠ t → b ≠ y → b ≠ ob_zp nl z → V3 b j = V2 b j := by
      intro b j h1 h2 h3
      rw [← hV3]
      cases z with
      | nil => simp [ob_rep, ob_set, h1, h2]
      | cons f z => obtain ⟨d', a, c, b9, q⟩ := f; simp [ob_rep, ob_set, h2, show b ≠ a from h3]
    have hzp : ob_zp nl z ≠ x ∧ ob_zp nl z ≠ y ∧ (z ≠ [] → ob_zp nl z ≠ ob_top nl Bt) ∧ ob_zp nl z ≠ t := by
      cases z with
      | nil => exact ⟨hx.2.symm, hy.2.symm, fun h9 => absurd rfl h9, hnt⟩
      | cons f z =>
        obtain ⟨d', a, c, b, q⟩ := f
        obtain ⟨a1, a2, a3, a4⟩ := hzn a (by simp [ob_zads])
        exact ⟨a1, a2, fun _ => a3, a4⟩
    have v3x : ∀ j, V3 x j = V2 x j := fun j => v3 x j hxt hxy (Ne.symm hzp.1)
    have v3y5 : V3 y 5 = .ref (ob_zp nl z) := by
      rw [← hV3]
      cases z with
      | nil => simp [ob_rep, ob_set, ob_zp]
      | cons f z => obtain ⟨d', a, c, b9, q⟩ := f; simp [ob_rep, ob_set, ob_zp]
    have v3y : ∀ j, j ≠ 5 → V3 y j = V y j := by
      intro j hj
      have e1 : V3 y j = V2 y j := by
        rw [← hV3]
        cases z with
        | nil => simp [ob_rep, ob_set, hj, hyt]
        | cons f z => obtain ⟨d', a, c, b9, q⟩ := f; simp [ob_rep, ob_set, hj, show y ≠ a from Ne.symm hzp.2.1]
      rw [e1, v2 y j (Ne.symm hBy) (Ne.symm hxy)]
    have v3t1 : V3 t 1 = .ref nl := by
      rw [← hnl2, ← hV3]
      cases z with
      | nil => simp [ob_rep, ob_set, Ne.symm hyt]
      | cons f z => obtain ⟨d', a, c, b9, q⟩ := f; simp [ob_rep, ob_set, Ne.symm hyt, show t ≠ a from Ne.symm hzp.2.2.2]
    refine og_aload_n dX4_rotate_45 rfl rfl ?_
    refine og_iload_n dX4_rotate_46 rfl ?_
    refine og_aload_n dX4_rotate_47 rfl rfl ?_
    refine og_callVe dX4_rotate_48 kvX4_65 (ct_setChild (d := d) hy.1) rfl hy1 rfl rfl ⟨by decide, by decide⟩ (by decide) (by decide) (Nat.le_of_ble_eq_true rfl) rfl ?_
    refine og_aload_n dX4_rotate_51 rfl rfl ?_
    refine og_aload_n dX4_rotate_52 rfl rfl ?_
    refine og_put dX4_rotate_53 kfX4_30 hx1 rfl rfl ?_
    have s1 : ob_set (ob_set V3 y (ob_sl d) (.ref x)) x 5 (.ref y) x 7 = .int (nI (ob_siz A + (ob_siz Bt + ob_siz C + 1) + 1)) := by
      simp [ob_set, hxy, v3x, v2x 7 (by omega), x7]
    refine og_aload_n dX4_rotate_56 rfl rfl ?_
    refine og_aload_n dX4_rotate_57 rfl rfl ?_
    refine og_getf dX4_rotate_58 kfX4_36 (by assumption) (s1) ?_
    refine og_put dX4_rotate_61 kfX4_36 hy1 rfl rfl ?_
    generalize hV6 : ob_set (ob_set (ob_set V3 y (ob_sl d) (.ref x)) x 5 (.ref y)) y 7 (.int (nI (ob_siz A + (ob_siz Bt + ob_siz C + 1) + 1))) = V6
    have v6x : ∀ j, j ≠ 5 → V6 x j = V2 x j := fun j hj => by rw [← hV6]; simp [ob_set, hxy, hj, v3x]
    have v6 : ∀ b j, b ≠ x → b ≠ y → V6 b j = V3 b j := fun b j h1 h2 => by rw [← hV6]; simp [ob_set, h1, h2]
    have v6s : V6 x (ob_sl d) = .ref (ob_top nl A) := by rw [v6x _ (by omega), v2x _ sn, x1]
    have v6u : V6 x (ob_sl (!d)) = .ref (ob_top nl Bt) := by rw [v6x _ (by omega), hV2]; simp [Ne.symm hBx, ob_set]
    have szA : V6 (ob_top nl A) 7 = .int (nI (ob_siz A)) := by
      rw [v6 _ _ hAx hAy]
      have e1 : V3 (ob_top nl A) 7 = V2 (ob_top nl A) 7 := by
        rw [← hV3]
        cases z with
        | nil => simp [ob_rep, ob_set, hAt]
        | cons f z => obtain ⟨d', a, c, b9, q⟩ := f; cases d' <;> simp [ob_rep, ob_set, ob_sl]
      rw [e1, hV2]
      have e2 : (7 : Nat) ≠ ob_sl (!d) := by omega
      simp [ob_set, e2, hA2]
    have szB : V6 (ob_top nl Bt) 7 = .int (nI (ob_siz Bt)) := by
      rw [v6 _ _ hBx hBy]
      have e1 : V3 (ob_top nl Bt) 7 = V2 (ob_top nl Bt) 7 := by
        rw [← hV3]
        cases z with
        | nil => simp [ob_rep, ob_set, hBt]
        | cons f z => obtain ⟨d', a, c, b9, q⟩ := f; cases d' <;> simp [ob_rep, ob_set, ob_sl]
      rw [e1, v2B 7 (by decide), hB2]
    have fin : ob_G X mX4_rotate (ob_rm 2 0 0) (fun r w' => r = .inl none ∧ ∃ V', w' = (T, V', B, J) ∧ ob_zt T V' t nl z (ob_mkn d qy y cy (ob_mkn d qx x cx A Bt) C) ∧ ob_fr t (ob_zads z ++ ob_ads (ob_mkn d qx x cx A (ob_mkn d qy y cy Bt C))) V V') 85 [(0, .ref t), (1, .ref x), (2, .int (ob_sd d)), (3, .ref y), (4, .ref (ob_top nl Bt))] [] (T, ob_set V6 x 7 (.int (nI (ob_siz A + ob_siz Bt + 1))), B, J) 0 0 := by
      refine og_return rfl dX4_rotate_85 (by decide) (by decide) ⟨rfl, _, rfl, ?_, ?_⟩
      · generalize hV7 : ob_set V6 x 7 (.int (nI (ob_siz A + ob_siz Bt + 1))) = V7
        have v7 : ∀ b j, b ≠ x → V7 b j = V6 b j := fun b j h1 => by rw [← hV7]; simp [ob_set, h1]
        have v7x : ∀ j, j ≠ 7 → V7 x j = V6 x j := fun j h1 => by rw [← hV7]; simp [ob_set, h1]
        -- a cell that is none of the five
        have far : ∀ b j, b ≠ x → b ≠ y → b ≠ t → b ≠ ob_top nl Bt → b ≠ ob_zp nl z → V7 b j = V b j := fun b j h1 h2 h3 h4 h5 => by
          rw [v7 b j h1, v6 b j h1 h2, v3 b j h3 h2 h5, v2 b j h4 h1]
        have nilf : ∀ j, j ≠ 5 → V7 nl j = V nl j := by
          intro j hj
          rw [v7 nl j hx.2.symm, v6 nl j hx.2.symm hy.2.symm]
          have e1 : V3 nl j = V2 nl j := by
            rw [← hV3]
            cases z with
            | nil => simp [ob_rep, ob_set, hnt, hj, hy.2.symm]
            | cons f z =>
              obtain ⟨d', a, c, b9, q⟩ := f
              have : nl ≠ a := (hTz a (by simp [ob_zads])).2.symm
              simp [ob_rep, ob_set, this, hj]
          rw [e1, hV2]
          have : ¬ (ob_top nl Bt ≠ nl ∧ nl = ob_top nl Bt ∧ j = 5) := fun h9 => hj h9.2.2
          rw [if_neg this]
          simp [ob_set, hx.2.symm]
        have hn7 : ob_nil T V7 nl := ⟨hn.1, by rw [nilf 3 (by decide)]; exact hn.2.1, by rw [nilf 4 (by decide)]; exact hn.2.2.1, by rw [nilf 6 (by decide)]; exact hn.2.2.2.1, by rw [nilf 7 (by decide)]; exact hn.2.2.2.2⟩
        have tA7 : ob_tm V7 nl A x := ob_tm_congr (fun b hb j _ _ => far b j (fun e => nxA (by rw [← e]; exact hb)) (fun e => hyA (by rw [← e]; exact hb)) (hT2 b (hTA b hb).1) (fun e => by
          cases Bt with
          | leaf => exact (hTA b hb).2 e
          | inner q9 a9 c9 l9 r9 => exact nA2 b hb (Or.inr (Or.inl (by rw [e]; simp [ob_ads, ob_top])))) (fun e => by
          cases z with
          | nil => exact (hTA b hb).2 e
          | cons f z => obtain ⟨d', a, c, b9, q⟩ := f; exact nzz a (by simp [ob_zads]) b (Or.inr (Or.inl hb)) e.symm)) tA
        have tC7 : ob_tm V7 nl C y := ob_tm_congr (fun b hb j _ _ => far b j (fun e => hxC (by rw [← e]; exact hb)) (fun e => nyC (by rw [← e]; exact hb)) (hT2 b (hTC b hb).1) (fun e => by
          cases Bt with
          | leaf => exact (hTC b hb).2 e
          | inner q9 a9 c9 l9 r9 => exact nBC b (by rw [e]; simp [ob_ads, ob_top]) hb) (fun e => by
          cases z with
          | nil => exact (hTC b hb).2 e
          | cons f z => obtain ⟨d', a, c, b9, q⟩ := f; exact nzz a (by simp [ob_zads]) b (Or.inr (Or.inr (Or.inr (Or.inr hb)))) e.symm)) tC
        have tB7 : ob_tm V7 nl Bt x := by
          cases hBe : Bt with
          | leaf => trivial
          | inner q9 a9 c9 l9 r9 =>
            subst hBe
            obtain ⟨g3, g4, g5, g6, g7, gl, gr⟩ := tB
            have ha9 : a9 ∈ ob_ads (.inner q9 a9 c9 l9 r9 : ob_t) := by simp [ob_ads]
            have hz9 : a9 ≠ ob_zp nl z := by
              cases z with
              | nil => exact (hTB a9 ha9).2
              | cons f z => obtain ⟨d', a, c, b9, q⟩ := f; exact fun e => nzz a (by simp [ob_zads]) a9 (Or.inr (Or.inr (Or.inr (Or.inl ha9)))) e.symm
            have a7 : ∀ j, V7 a9 j = V2 a9 j := fun j => by rw [v7 a9 j hBx, v6 a9 j hBx hBy, v3 a9 j hBt hBy hz9]
            have a7' : ∀ j, j ≠ 5 → V7 a9 j = V a9 j := fun j hj => by rw [a7]; exact v2B j hj
            have a75 : V7 a9 5 = .ref x := by rw [a7, hV2]; simp [ob_top, (hTB a9 ha9).2]
            have sub9 : ∀ b, b ∈ ob_ads l9 ∨ b ∈ ob_ads r9 → ∀ j, V7 b j = V b j := by
              intro b hb j
              have hbB : b ∈ ob_ads (.inner q9 a9 c9 l9 r9 : ob_t) := by simp only [ob_ads, List.mem_append, List.mem_cons]; rcases hb with h | h <;> simp [h]
              refine far b j (fun e => hxB (by rw [← e]; exact hbB)) (fun e => nyB (by rw [← e]; exact hbB)) (hT2 b (hTB b hbB).1) (fun e => ?_) (fun e => ?_)
              · have e : b = a9 := e
                subst e
                simp only [ob_ads, List.nodup_append, List.nodup_cons] at nB
                rcases hb with h | h
                · exact nB.2.2 b h b List.mem_cons_self rfl
                · exact nB.2.1.1 h
              · cases z with
                | nil => exact (hTB b hbB).2 e
                | cons f z => obtain ⟨d', a, c, b9, q⟩ := f; exact nzz a (by simp [ob_zads]) b (Or.inr (Or.inr (Or.inr (Or.inl hbB)))) e.symm
            exact ⟨by rw [a7' 3 (by decide)]; exact g3, by rw [a7' 4 (by decide)]; exact g4, a75, by rw [a7' 6 (by decide)]; exact g6, by rw [a7' 7 (by decide)]; exact g7, ob_tm_congr (fun b hb j _ _ => sub9 b (Or.inl hb) j) gl, ob_tm_congr (fun b hb j _ _ => sub9 b (Or.inr hb) j) gr⟩
        have y7f : ∀ j, j ≠ ob_sl d → j ≠ 5 → j ≠ 7 → V7 y j = V y j := fun j h1 h2 h3 => by
          rw [v7 y j (Ne.symm hxy), ← hV6]
          simp [ob_set, h1, h2, h3, Ne.symm hxy, v3y j h2]
        have y7d : V7 y (ob_sl d) = .ref x := by
          rw [v7 y _ (Ne.symm hxy), ← hV6]
          have : ob_sl d ≠ 7 := by omega
          simp [ob_set, this, Ne.symm hxy]
        have y75 : V7 y 5 = .ref (ob_zp nl z) := by
          rw [v7 y _ (Ne.symm hxy), ← hV6]
          have : (5 : Nat) ≠ ob_sl d := by omega
          simp [ob_set, this, Ne.symm hxy, v3y5]
        have y77 : V7 y 7 = .int (nI (ob_siz A + (ob_siz Bt + ob_siz C + 1) + 1)) := by
          rw [v7 y _ (Ne.symm hxy), ← hV6]
          simp [ob_set]
        have x75 : V7 x 5 = .ref y := by
          rw [v7x 5 (by decide), ← hV6]
          simp [ob_set, hxy]
        have x7s : V7 x (ob_sl d) = .ref (ob_top nl A) := by rw [v7x _ (by omega)]; exact v6s
        have x7u : V7 x (ob_sl (!d)) = .ref (ob_top nl Bt) := by rw [v7x _ (by omega)]; exact v6u
        have x76 : V7 x 6 = ob_cv cx := by rw [v7x 6 (by decide), v6x 6 (by decide), v2x 6 (by omega)]; exact x6
        have x77 : V7 x 7 = .int (nI (ob_siz A + ob_siz Bt + 1)) := by rw [← hV7]; simp [ob_set]
        have tx7 : ob_tm V7 nl (ob_mkn d qx x cx A Bt) y := (ob_tm_mk d).mpr ⟨x7s, x7u, x75, x76, x77, tA7, tB7⟩
        have ty7 : ob_tm V7 nl (ob_mkn d qy y cy (ob_mkn d qx x cx A Bt) C) (ob_zp nl z) := (ob_tm_mk d).mpr ⟨by rw [ob_top_mk]; exact y7d, by rw [y7f _ (Ne.symm sn) (by omega) (by omega)]; exact y2, y75, by rw [y7f 6 (by omega) (by decide) (by decide)]; exact y6, by rw [ob_siz_mk, y77]; congr 2; omega, tx7, tC7⟩
        have hz7 : ob_zm V7 nl z y (ob_siz A + (ob_siz Bt + ob_siz C + 1) + 1) := by
          refine ob_zm_hole hz nz ?_ ?_
          · cases z with
            | nil => trivial
            | cons f z =>
              obtain ⟨d', a, c, b9, q⟩ := f
              obtain ⟨a1, a2, a3, a4⟩ := hzn a (by simp [ob_zads])
              have e1 : ∀ j, V7 a j = V3 a j := fun j => by rw [v7 a j a1, v6 a j a1 a2]
              refine ⟨?_, fun j hj => ?_⟩
              · rw [e1, ← hV3]; simp [ob_rep, ob_set, a2]
              · rw [e1, ← hV3, ← v2 a j a3 a1]; simp [ob_rep, ob_set, hj, a2]
          · intro b hb hbz j
            obtain ⟨a1, a2, a3, a4⟩ := hzn b hb
            exact far b j a1 a2 a4 a3 hbz
        have hr7 : V7 t 2 = .ref (ob_top nl (ob_plug z (ob_mkn d qy y cy (ob_mkn d qx x cx A Bt) C))) := by
          rw [v7 t 2 (Ne.symm hxt), v6 t 2 (Ne.symm hxt) (Ne.symm hyt), ← hV3]
          cases z with
          | nil => simp [ob_rep, ob_set, ob_plug, ob_top_mk, Ne.symm hyt]
          | cons f z =>
            obtain ⟨d', a, c, b9, q⟩ := f
            have e9 : t ≠ a := Ne.symm hzp.2.2.2
            simp only [ob_rep, ob_set]
            rw [if_neg (by simp [Ne.symm hyt]), if_neg (by simp [e9]), v2 t 2 (Ne.symm hBt) (Ne.symm hxt), hroot]
            congr 1
            exact ob_top_plug nl _ _ _ (by simp)
        have ht17 : V7 t 1 = .ref nl := by rw [v7 t 1 (Ne.symm hxt), v6 t 1 (Ne.symm hxt) (Ne.symm hyt)]; exact v3t1
        refine ⟨ht, ht17, hr7, hn7, by rw [ob_top_mk, ob_siz_mk, ob_siz_mk]; rw [show ob_siz A + ob_siz Bt + 1 + ob_siz C + 1 = ob_siz A + (ob_siz Bt + ob_siz C + 1) + 1 by omega]; exact hz7, ty7, ?_, ?_⟩
        · intro b hb
          refine hTa b ?_
          simp only [List.mem_append, ob_mem_mk] at hb ⊢
          grind
        · simp only [List.nodup_append, ob_nd_mk, ob_mem_mk] at hnd ⊢
          grind
      · have inx : x ∈ ob_zads z ++ ob_ads (ob_mkn d qx x cx A (ob_mkn d qy y cy Bt C)) := by simp [ob_mem_mk]
        have iny : y ∈ ob_zads z ++ ob_ads (ob_mkn d qx x cx A (ob_mkn d qy y cy Bt C)) := by simp [ob_mem_mk]
        generalize hAA : ob_zads z ++ ob_ads (ob_mkn d qx x cx A (ob_mkn d qy y cy Bt C)) = AA at inx iny ⊢
        have f2 : ob_fr t AA V V2 := by
          intro b j hb
          rw [hV2]
          by_cases h9 : ob_top nl Bt ≠ nl ∧ b = ob_top nl Bt ∧ j = 5
          · exfalso
            refine hb (Or.inr ⟨?_, by omega, by omega⟩)
            rw [← hAA, h9.2.1]
            cases Bt with
            | leaf => exact absurd rfl h9.1
            | inner q9 a9 c9 l9 r9 => simp [ob_mem_mk, ob_top, ob_ads]
          · rw [if_neg h9]
            exact (ob_fr.rf (t := t) (A := AA) (V := V)).set inx (by omega) b j hb
        have f3 : ob_fr t AA V V3 := by
          rw [← hV3]
          cases z with
          | nil => exact f2.root.set iny (by omega)
          | cons f z =>
            obtain ⟨d', a, c, b9, q⟩ := f
            have sr9 := ob_sl_rg d'
            exact (f2.set (by rw [← hAA]; simp [ob_zads]) (by omega)).set iny (by omega)
        rw [← hV6]
        exact (((f3.set iny (by omega)).set inx (by omega)).set iny (by omega)).set inx (by omega)
    cases d with
    | false =>
      have v6s : V6 x 4 = .ref (ob_top nl A) := v6s
      have v6u : V6 x 3 = .ref (ob_top nl Bt) := v6u
      refine og_aload_n dX4_rotate_64 rfl rfl ?_
      refine og_aload_n dX4_rotate_65 rfl rfl ?_
      refine og_getf dX4_rotate_66 kfX4_24 (by assumption) (by assumption) ?_
      refine og_getf dX4_rotate_69 kfX4_36 (by assumption) (by assumption) ?_
      refine og_aload_n dX4_rotate_72 rfl rfl ?_
      refine og_getf dX4_rotate_73 kfX4_27 (by assumption) (by assumption) ?_
      refine og_getf dX4_rotate_76 kfX4_36 (by assumption) (by assumption) ?_
      refine og_iadd dX4_rotate_79 ?_
      refine og_iconst (v := 1) dX4_rotate_80 (by decide) ?_
      refine og_iadd dX4_rotate_81 ?_
      refine og_put dX4_rotate_82 kfX4_36 (by assumption) rfl rfl ?_
      refine og_w (T, ob_set V6 x 7 (.int (nI (ob_siz A + ob_siz Bt + 1))), B, J) (by rw [nI_add, nI_1, Nat.add_comm (ob_siz Bt) (ob_siz A)]) ?_
      exact fin
    | true =>
      have v6s : V6 x 3 = .ref (ob_top nl A) := v6s
      have v6u : V6 x 4 = .ref (ob_top nl Bt) := v6u
      refine og_aload_n dX4_rotate_64 rfl rfl ?_
      refine og_aload_n dX4_rotate_65 rfl rfl ?_
      refine og_getf dX4_rotate_66 kfX4_24 (by assumption) (by assumption) ?_
      refine og_getf dX4_rotate_69 kfX4_36 (by assumption) (by assumption) ?_
      refine og_aload_n dX4_rotate_72 rfl rfl ?_
      refine og_getf dX4_rotate_73 kfX4_27 (by assumption) (by assumption) ?_
      refine og_getf dX4_rotate_76 kfX4_36 (by assumption) (by assumption) ?_
      refine og_iadd dX4_rotate_79 ?_
      refine og_iconst (v := 1) dX4_rotate_80 (by decide) ?_
      refine og_iadd dX4_rotate_81 ?_
      refine og_put dX4_rotate_82 kfX4_36 (by assumption) rfl rfl ?_
      refine og_w (T, ob_set V6 x 7 (.int (nI (ob_siz A + ob_siz Bt + 1))), B, J) (by rw [nI_add, nI_1]) ?_
      exact fin
  have hnl1 : ob_set V x (ob_sl (!d)) (.ref (ob_top nl Bt)) t 1 = .ref nl := by simp [ob_set, Ne.symm hxt, hnl]
  refine og_aload dX4_rotate_24 rfl rfl ?_
  refine og_aload_n dX4_rotate_26 rfl rfl ?_
  refine og_getf dX4_rotate_27 kfX4_20 (by assumption) (by assumption) ?_
  refine og_acmp_eq (tgt := 39) dX4_rotate_30 (by decide) (fun hc => ?_) (fun hc => ?_)
  · refine rest _ (fun b j => ?_)
    rw [if_neg]
    rintro ⟨h9, -⟩
    exact h9 hc
  · refine og_aload dX4_rotate_33 rfl rfl ?_
    refine og_aload_n dX4_rotate_35 rfl rfl ?_
    refine og_put dX4_rotate_36 kfX4_30 (by assumption) rfl rfl ?_
    refine rest _ (fun b j => ?_)
    by_cases h9 : b = ob_top nl Bt ∧ j = 5
    · rw [if_pos ⟨hc, h9⟩]
      exact if_pos h9
    · rw [if_neg (fun q => h9 q.2)]
      exact if_neg h9
end OBQ
end
section
/-! RED-BLACK RULES; mendRedBelowRed -/
def ob_rb : ob_t → Nat → Prop
  | .leaf, m => m = 0
  | .inner _ _ c l r, m => (c = true ∧ ob_red l = false ∧ ob_red r = false ∧ ob_rb l m ∧ ob_rb r m) ∨ (c = false ∧ ∃ j, m = j + 1 ∧ ob_rb l j ∧ ob_rb r j)
theorem ob_rb_r {d : Bool} {q a m : Nat} {s u : ob_t} : ob_rb (ob_mkn d q a true s u) m ↔ ob_red s = false ∧ ob_red u = false ∧ ob_rb s m ∧ ob_rb u m := by
  cases d <;> simp [ob_mkn, ob_rb] <;> grind
theorem ob_rb_b {d : Bool} {q a m : Nat} {s u : ob_t} : ob_rb (ob_mkn d q a false s u) (m + 1) ↔ ob_rb s m ∧ ob_rb u m := by
  cases d <;> simp [ob_mkn, ob_rb] <;> grind
theorem ob_rb_b' {d : Bool} {q a m : Nat} {s u : ob_t} : ob_rb (ob_mkn d q a false s u) m ↔ ∃ j, m = j + 1 ∧ ob_rb s j ∧ ob_rb u j := by
  cases d <;> simp [ob_mkn, ob_rb] <;> grind
theorem ob_mkn_swap (d : Bool) (q a : Nat) (c : Bool) (s u : ob_t) : ob_mkn d q a c s u = ob_mkn (!d) q a c u s := by cases d <;> rfl
theorem ob_mkn_of (d : Bool) (q a : Nat) (c : Bool) (l r : ob_t) : (.inner q a c l r : ob_t) = ob_mkn d q a c (if d then l else r) (if d then r else l) := by cases d <;> rfl
/-- black at the hole's side: the frame above is black -/
def ob_zb : List ob_f → Prop
  | (_, _, false, _, _) :: _ => True
  | _ => False
/-- a context that is right for a tree of black height m -/
def ob_zk : List ob_f → Nat → Prop
  | [], _ => True
  | (_, _, true, b, _) :: z, m => ob_rb b m ∧ ob_red b = false ∧ ob_zb z ∧ ob_zk z m
  | (_, _, false, b, _) :: z, m => ob_rb b m ∧ ob_zk z (m + 1)
/-- the frame above is red -/
def ob_zr9 : List ob_f → Prop
  | (_, _, true, _, _) :: _ => True
  | _ => False
theorem ob_rb_pow : ∀ {t : ob_t} {m : Nat}, ob_rb t m → 2 ^ m ≤ ob_siz t + 1
  | .leaf, m, h => by simp [ob_rb] at h; subst h; simp [ob_siz]
  | .inner q a c l r, m, h => by
    rcases h with ⟨-, -, -, h1, h2⟩ | ⟨-, j, rfl, h1, h2⟩
    · have := ob_rb_pow h1
      simp only [ob_siz]; omega
    · have g1 := ob_rb_pow h1
      have g2 := ob_rb_pow h2
      simp only [ob_siz, Nat.pow_succ]; omega
/-- a context and a right tree make a right tree -/
theorem ob_zk_plug : ∀ {z : List ob_f} {t : ob_t} {m : Nat}, ob_zk z m → ob_rb t m → (ob_zr9 z → ob_red t = false) → ∃ N, ob_rb (ob_plug z t) N ∧ (z ≠ [] → ob_red (ob_plug z t) = false) ∧ m ≤ N ∧ z.length ≤ 2 * (N - m) + (if ob_red t = true then 0 else 1)
  | [], t, m, _, h, _ => ⟨m, h, fun e => absurd rfl e, Nat.le_refl _, by simp⟩
  | (d, a, true, b, q) :: z, t, m, ⟨h1, h2, h3, h4⟩, h, hr => by
    have hr' := hr trivial
    rw [ob_plug_mk]
    obtain ⟨N, g1, g2, g3, g4⟩ := ob_zk_plug (t := ob_mkn d q a true t b) h4 (ob_rb_r.mpr ⟨hr', h2, h, h1⟩) (fun e => by
      cases z with
      | nil => exact absurd e id
      | cons f z => obtain ⟨d', a', c', b', q'⟩ := f; cases c' <;> simp [ob_zr9, ob_zb] at e h3)
    refine ⟨N, g1, fun _ => g2 (by cases z with | nil => exact absurd h3 id | cons f z => simp), g3, ?_⟩
    rw [ob_red_mk, if_pos rfl] at g4
    simp only [hr', Bool.false_eq_true, if_false, List.length_cons]; omega
  | (d, a, false, b, q) :: z, t, m, ⟨h1, h2⟩, h, hr => by
    rw [ob_plug_mk]
    obtain ⟨N, g1, g2, g3, g4⟩ := ob_zk_plug (t := ob_mkn d q a false t b) h2 (ob_rb_b.mpr ⟨h, h1⟩) (fun _ => ob_red_mk ..)
    refine ⟨N, g1, fun _ => ?_, by omega, ?_⟩
    · cases z with
      | nil => exact ob_red_mk ..
      | cons f z => exact g2 (by simp)
    · rw [ob_red_mk] at g4
      simp only [Bool.false_eq_true, if_false] at g4
      simp only [List.length_cons]; split <;> omega
/-- and back -/
theorem ob_plug_zk : ∀ {z : List ob_f} {t : ob_t} {N : Nat}, ob_rb (ob_plug z t) N → ob_red (ob_plug z t) = false → ∃ m, ob_zk z m ∧ ob_rb t m ∧ (ob_zr9 z → ob_red t = false) ∧ (z = [] → ob_red t = false)
  | [], t, N, h, hr => ⟨N, trivial, h, fun e => absurd e id, fun _ => hr⟩
  | (d, a, c, b, q) :: z, t, N, h, hr => by
    rw [ob_plug_mk] at h hr
    obtain ⟨m, g1, g2, g3, g4⟩ := ob_plug_zk h hr
    cases c with
    | true =>
      obtain ⟨e1, e2, e3, e4⟩ := ob_rb_r.mp g2
      refine ⟨m, ⟨e4, e2, ?_, g1⟩, e3, fun _ => e1, fun e => by simp at e⟩
      cases z with
      | nil => have := g4 rfl; rw [ob_red_mk] at this; cases this
      | cons f z =>
        obtain ⟨d', a', c', b', q'⟩ := f
        cases c' with
        | false => trivial
        | true => have := g3 trivial; rw [ob_red_mk] at this; cases this
    | false =>
      obtain ⟨j, rfl, e1, e2⟩ := ob_rb_b'.mp g2
      exact ⟨j, ⟨e2, g1⟩, e1, fun e => absurd e id, fun e => by simp at e⟩
theorem ob_zt.foc {T : ob_T} {V : ob_V} {t nl a q : Nat} {d c : Bool} {s u : ob_t} {z : List ob_f} (h : ob_zt T V t nl z (ob_mkn d q a c s u)) : T a = some (2, 0) ∧ a ≠ nl ∧ V a (ob_sl d) = .ref (ob_top nl s) ∧ V a (ob_sl (!d)) = .ref (ob_top nl u) ∧ V a 5 = .ref (ob_zp nl z) ∧ V a 6 = ob_cv c := by
  obtain ⟨h1, h2, h3, h4, g1, g2, g3, g4⟩ := h
  obtain ⟨e1, e2, e3, e4, e5, e6, e7⟩ := (ob_tm_mk d).mp g2
  obtain ⟨k1, k2⟩ := g3 a (by simp [ob_mem_mk])
  exact ⟨k1, k2, e1, e2, e3, e4⟩
theorem ob_zt.foc2 {T : ob_T} {V : ob_V} {t nl a q : Nat} {d c : Bool} {s u : ob_t} {z : List ob_f} (h : ob_zt T V t nl z (ob_mkn d q a c s u)) : (T (ob_top nl s) = some (2, 0) ∧ V (ob_top nl s) 6 = ob_cv (ob_red s)) ∧ (T (ob_top nl u) = some (2, 0) ∧ V (ob_top nl u) 6 = ob_cv (ob_red u)) := by
  obtain ⟨h1, h2, h3, h4, g1, g2, g3, g4⟩ := h
  obtain ⟨e1, e2, e3, e4, e5, e6, e7⟩ := (ob_tm_mk d).mp g2
  obtain ⟨k1, -, k3⟩ := ob_sub.top (p := a) h4 ⟨e6, fun x hx => g3 x (by simp [ob_mem_mk, hx])⟩
  obtain ⟨j1, -, j3⟩ := ob_sub.top (p := a) h4 ⟨e7, fun x hx => g3 x (by simp [ob_mem_mk, hx])⟩
  exact ⟨⟨k1, k3⟩, j1, j3⟩
/-- a new colour -/
theorem ob_zt.col {T : ob_T} {V : ob_V} {t nl a q : Nat} {d c : Bool} (c' : Bool) {s u : ob_t} {z : List ob_f} (h : ob_zt T V t nl z (ob_mkn d q a c s u)) : ob_zt T (ob_set V a 6 (ob_cv c')) t nl z (ob_mkn d q a c' s u) := by
  obtain ⟨h1, h2, h3, h4, g1, g2, g3, g4⟩ := h
  obtain ⟨e1, e2, e3, e4, e5, e6, e7⟩ := (ob_tm_mk d).mp g2
  obtain ⟨k1, k2⟩ := g3 a (by simp [ob_mem_mk])
  have hat : a ≠ t := fun e => by rw [e, h1] at k1; cases k1
  have hna : nl ≠ a := Ne.symm k2
  have sr := ob_sl_rg d
  have sr' := ob_sl_rg (!d)
  have hnd := g4
  simp only [List.nodup_append, ob_nd_mk, ob_mem_mk] at hnd
  obtain ⟨n1, ⟨n2, n3, -⟩, n4⟩ := hnd
  have far : ∀ b j, b ≠ a → ob_set V a 6 (ob_cv c') b j = V b j := fun b j hb => ob_set_a _ _ _ _ j hb
  have own : ∀ j, j ≠ 6 → ob_set V a 6 (ob_cv c') a j = V a j := fun j hj => ob_set_k _ _ _ _ _ hj
  refine ⟨h1, by rw [far t 1 (Ne.symm hat)]; exact h2, ?_, ⟨h4.1, by rw [far nl 3 hna]; exact h4.2.1, by rw [far nl 4 hna]; exact h4.2.2.1, by rw [far nl 6 hna]; exact h4.2.2.2.1, by rw [far nl 7 hna]; exact h4.2.2.2.2⟩, ?_, ?_, ?_, ?_⟩
  · rw [far t 2 (Ne.symm hat), h3]
    cases z with
    | nil => simp [ob_plug, ob_top_mk]
    | cons f z => rw [ob_top_plug nl (f :: z) _ (ob_mkn d q a c' s u) (by simp)]
  · rw [ob_top_mk, ob_siz_mk] at g1 ⊢
    exact ob_zm_congr (fun b hb j _ _ => far b j (fun e => n4 b hb a (Or.inl rfl) e)) g1
  · exact (ob_tm_mk d).mpr ⟨by rw [own _ (by omega)]; exact e1, by rw [own _ (by omega)]; exact e2, by rw [own 5 (by decide)]; exact e3, ob_set_s _ _ _ _, by rw [own 7 (by decide)]; exact e5, ob_tm_congr (fun b hb j _ _ => far b j (fun e => n2 (by rw [← e]; exact hb))) e6, ob_tm_congr (fun b hb j _ _ => far b j (fun e => n3 (by rw [← e]; exact hb))) e7⟩
  · intro x hx
    refine g3 x ?_
    simp only [List.mem_append, ob_mem_mk] at hx ⊢
    exact hx
  · simp only [List.nodup_append, ob_nd_mk, ob_mem_mk] at g4 ⊢
    exact g4
theorem ob_zt.top6 {T : ob_T} {V : ob_V} {t nl : Nat} {z : List ob_f} {tt : ob_t} (h : ob_zt T V t nl z tt) : T (ob_zp nl z) = some (2, 0) ∧ V (ob_zp nl z) 6 = ob_cv (match z with | (_, _, true, _, _) :: _ => true | _ => false) := by
  obtain ⟨h1, h2, h3, h4, g1, g2, g3, g4⟩ := h
  cases z with
  | nil => exact ⟨h4.1, h4.2.2.2.1⟩
  | cons f z =>
    obtain ⟨d, a, c, b, q⟩ := f
    rw [ob_zm_cons] at g1
    obtain ⟨k1, -⟩ := g3 a (by simp [ob_zads])
    refine ⟨k1, ?_⟩
    cases c <;> exact g1.2.2.2.1
theorem ob_ads_col (d : Bool) (q a : Nat) (c c' : Bool) (s u : ob_t) : ob_ads (ob_mkn d q a c s u) = ob_ads (ob_mkn d q a c' s u) := by cases d <;> rfl
theorem ob_ads_mk2 {d : Bool} {q a q' : Nat} {c c' : Bool} {s s' u u' : ob_t} (h1 : ob_ads s = ob_ads s') (h2 : ob_ads u = ob_ads u') : ob_ads (ob_mkn d q a c s u) = ob_ads (ob_mkn d q' a c' s' u') := by cases d <;> simp [ob_mkn, ob_ads, h1, h2]
theorem ob_ads_plug2 {z : List ob_f} {t t' : ob_t} (h : ob_ads t = ob_ads t') : ob_ads (ob_plug z t) = ob_ads (ob_plug z t') := by rw [ob_ads_plug, ob_ads_plug, h]
theorem ob_64 {i : Nat} (h : i < 64) : ¬ (64 : Int32) ≤ nI i := nI_ge (b := 64) h (by omega)
section OBF
variable {X : ob_X} {T : ob_T} {B : ob_B} {J : ob_J} {R : Room} {k n : Nat}
/-- the end of mending: some right tree, of the same nodes in the same order -/
def ob_mended (T : ob_T) (B : ob_B) (J : ob_J) (t nl : Nat) (L : List Nat) (V : ob_V) : ob_r → ob_w → Prop := fun r w' => r = .inl none ∧ ∃ V' tt N, w' = (T, V', B, J) ∧ ob_zt T V' t nl [] tt ∧ ob_rb tt N ∧ ob_ads tt = L ∧ ob_fr t L V V'
theorem ob_zt.whole {V : ob_V} {t nl : Nat} {z : List ob_f} {tt : ob_t} (h : ob_zt T V t nl z tt) : ob_zt T V t nl [] (ob_plug z tt) := by
  induction z generalizing tt with
  | nil => exact h
  | cons f z ih =>
    obtain ⟨d, a, c, b, q⟩ := f
    rw [ob_plug_mk]
    exact ih h.up
theorem red_loop {V0 : ob_V} {t nl : Nat} {L : List Nat} (hR : 3 ≤ R.frames ∧ 180 ≤ R.locals) (hk : k ≤ R.cells) (hs : n ≤ R.slots) : ∀ (f : Nat) (V : ob_V) (z : List ob_f) (q low m i : Nat) (l r : ob_t), z.length ≤ f → z.length + 2 * i ≤ 120 → ob_zt T V t nl z (.inner q low true l r) → ob_zk z m → ob_rb l m → ob_rb r m → ob_red l = false → ob_red r = false → ob_ads (ob_plug z (.inner q low true l r)) = L → ob_fr t L V0 V →
    ob_G X mX4_mendRedBelowRed R (ob_mended T B J t nl L V0) 4 [(0, .ref t), (2, .ref low), (3, .int (nI i))] [] (T, V, B, J) k n := by
  intro f
  induction f with
  | zero =>
    intro V z q low m i l r hf hi h hz hl hr hlr hrr hL hfr
    have ez : z = [] := List.length_eq_zero_iff.mp (by omega)
    subst ez
    obtain ⟨t1, t6⟩ := h.top6
    obtain ⟨f1, f2, f3, f4, f5, f6⟩ := (show ob_zt T V t nl [] (ob_mkn true q low true l r) from h).foc
    refine og_iload_n dX4_mendRedBelowRed_4 rfl ?_
    refine og_bipush (v := 64) dX4_mendRedBelowRed_5 (by decide) ?_
    refine og_icmp_ge (tgt := 130) dX4_mendRedBelowRed_7 (by decide) (fun z9 => absurd z9 (ob_64 (by omega))) (fun _ => ?_)
    refine og_aload_n dX4_mendRedBelowRed_10 rfl rfl ?_
    refine og_getf dX4_mendRedBelowRed_11 kfX4_30 (by assumption) (by assumption) ?_
    refine og_getf dX4_mendRedBelowRed_14 kfX4_61 (by assumption) (by assumption) ?_
    refine og_if_eq (tgt := 130) dX4_mendRedBelowRed_17 (by decide) (fun _ => ?_) (fun z9 => absurd (rfl) z9)
    exact og_return rfl dX4_mendRedBelowRed_130 hk hs ⟨rfl, V, _, m, rfl, h, Or.inl ⟨rfl, hlr, hrr, hl, hr⟩, hL, hfr⟩
  | succ f ih =>
    intro V z q low m i l r hf hi h hz hl hr hlr hrr hL hfr
    obtain ⟨t1, t6⟩ := h.top6
    have h' : ob_zt T V t nl z (ob_mkn true q low true l r) := h
    obtain ⟨f1, f2, f3, f4, f5, f6⟩ := h'.foc
    have htree : ob_rb (.inner q low true l r) m := Or.inl ⟨rfl, hlr, hrr, hl, hr⟩
    have ht := h.1
    cases z with
    | nil =>
      refine og_iload_n dX4_mendRedBelowRed_4 rfl ?_
      refine og_bipush (v := 64) dX4_mendRedBelowRed_5 (by decide) ?_
      refine og_icmp_ge (tgt := 130) dX4_mendRedBelowRed_7 (by decide) (fun z9 => absurd z9 (ob_64 (by omega))) (fun _ => ?_)
      refine og_aload_n dX4_mendRedBelowRed_10 rfl rfl ?_
      refine og_getf dX4_mendRedBelowRed_11 kfX4_30 (by assumption) (by assumption) ?_
      refine og_getf dX4_mendRedBelowRed_14 kfX4_61 (by assumption) (by assumption) ?_
      refine og_if_eq (tgt := 130) dX4_mendRedBelowRed_17 (by decide) (fun _ => ?_) (fun z9 => absurd (rfl) z9)
      exact og_return rfl dX4_mendRedBelowRed_130 hk hs ⟨rfl, V, _, m, rfl, h, htree, hL, hfr⟩
    | cons fr1 z =>
      obtain ⟨d1, mid, c1, b1, q1⟩ := fr1
      cases c1 with
      | false =>
        refine og_iload_n dX4_mendRedBelowRed_4 rfl ?_
        refine og_bipush (v := 64) dX4_mendRedBelowRed_5 (by decide) ?_
        refine og_icmp_ge (tgt := 130) dX4_mendRedBelowRed_7 (by decide) (fun z9 => absurd z9 (ob_64 (by omega))) (fun _ => ?_)
        refine og_aload_n dX4_mendRedBelowRed_10 rfl rfl ?_
        refine og_getf dX4_mendRedBelowRed_11 kfX4_30 (by assumption) (by assumption) ?_
        refine og_getf dX4_mendRedBelowRed_14 kfX4_61 (by assumption) (by assumption) ?_
        refine og_if_eq (tgt := 130) dX4_mendRedBelowRed_17 (by decide) (fun _ => ?_) (fun z9 => absurd (rfl) z9)
        obtain ⟨N, g1, -⟩ := ob_zk_plug (t := .inner q low true l r) hz htree (fun e => absurd e id)
        exact og_return rfl dX4_mendRedBelowRed_130 hk hs ⟨rfl, V, _, N, rfl, h.whole, g1, hL, hfr⟩
      | true =>
        obtain ⟨zb1, zr1, zbl, zk1⟩ := hz
        cases z with
        | nil => exact absurd zbl id
        | cons fr2 z =>
          obtain ⟨d2, top, c2, unc, q2⟩ := fr2
          cases c2 with
          | true => exact absurd zbl id
          | false =>
            obtain ⟨zb2, zk2⟩ := zk1
            have hup := h.up
            have hup2 := hup.up
            obtain ⟨m1, m2, m3, m4, m5, m6⟩ := hup.foc
            obtain ⟨p1, p2, p3, p4, p5, p6⟩ := hup2.foc
            rw [ob_top_mk] at p3
            obtain ⟨-, u1, u6⟩ := hup2.foc2
            have m5 : V mid 5 = .ref top := m5
            have f5 : V low 5 = .ref mid := f5
            have hsd : V top 3 = .ref (if d2 then mid else ob_top nl unc) := by cases d2 <;> assumption
            have hne : d2 = false → mid ≠ ob_top nl unc := by
              intro _ e
              have hnd := hup2.2.2.2.2.2.2.2
              simp only [List.nodup_append, ob_nd_mk, ob_mem_mk] at hnd
              cases unc with
              | leaf => exact m2 e
              | inner q9 a9 c9 l9 r9 =>
                have e : mid = a9 := e
                exact hnd.2.1.2.2.2.2 mid (Or.inl rfl) (by rw [e]; simp [ob_ads])
            refine og_iload_n dX4_mendRedBelowRed_4 rfl ?_
            refine og_bipush (v := 64) dX4_mendRedBelowRed_5 (by decide) ?_
            refine og_icmp_ge (tgt := 130) dX4_mendRedBelowRed_7 (by decide) (fun z9 => absurd z9 (ob_64 (by omega))) (fun _ => ?_)
            refine og_aload_n dX4_mendRedBelowRed_10 rfl rfl ?_
            refine og_getf dX4_mendRedBelowRed_11 kfX4_30 (by assumption) (by assumption) ?_
            refine og_getf dX4_mendRedBelowRed_14 kfX4_61 (by assumption) (by assumption) ?_
            refine og_if_eq (tgt := 130) dX4_mendRedBelowRed_17 (by decide) (fun z9 => absurd z9 (by decide)) (fun _ => ?_)
            refine og_aload_n dX4_mendRedBelowRed_20 rfl rfl ?_
            refine og_getf dX4_mendRedBelowRed_21 kfX4_30 (by assumption) (by assumption) ?_
            refine og_astore dX4_mendRedBelowRed_24 (by decide) rfl ?_
            refine og_aload dX4_mendRedBelowRed_26 rfl rfl ?_
            refine og_getf dX4_mendRedBelowRed_28 kfX4_30 (by assumption) (by assumption) ?_
            refine og_astore dX4_mendRedBelowRed_31 (by decide) rfl ?_
            refine og_aload dX4_mendRedBelowRed_33 rfl rfl ?_
            refine og_aload dX4_mendRedBelowRed_35 rfl rfl ?_
            refine og_callVe dX4_mendRedBelowRed_37 kvX4_87 (ct_sideOf p1 hsd) rfl p1 rfl rfl ⟨Nat.le_trans (by decide) hR.1, Nat.le_trans (by decide) hR.2⟩ hk hs (Nat.le_of_ble_eq_true rfl) rfl ?_
            refine og_st [.int (ob_sd d2)] (by cases d2 with | false => simp [ob_sd, hne rfl] | true => simp [ob_sd]) ?_
            refine og_istore dX4_mendRedBelowRed_40 (by decide) ?_
            refine og_aload dX4_mendRedBelowRed_42 rfl rfl ?_
            refine og_iconst (v := 1) dX4_mendRedBelowRed_44 (by decide) ?_
            refine og_iload dX4_mendRedBelowRed_45 rfl ?_
            refine og_isub dX4_mendRedBelowRed_47 ?_
            refine og_st [.int (ob_sd (!d2)), .ref top] (by first | (rw [← ob_sd_not]; done) | (rw [← ob_sd_not]; rfl)) ?_
            refine og_callVe dX4_mendRedBelowRed_48 kvX4_58 (ct_child (d := !d2) p1 p4) rfl p1 rfl rfl ⟨Nat.le_trans (by decide) hR.1, Nat.le_trans (by decide) hR.2⟩ hk hs (Nat.le_of_ble_eq_true rfl) rfl ?_
            refine og_astore dX4_mendRedBelowRed_51 (by decide) rfl ?_
            refine og_aload dX4_mendRedBelowRed_53 rfl rfl ?_
            refine og_iconst (v := 1) dX4_mendRedBelowRed_55 (by decide) ?_
            refine og_put dX4_mendRedBelowRed_56 kfX4_61 (by assumption) rfl rfl ?_
            refine og_aload dX4_mendRedBelowRed_59 rfl rfl ?_
            refine og_lv [(0, .ref t), (2, .ref low), (3, .int (nI i)), (4, .ref mid), (5, .ref top), (6, .int (ob_sd d2)), (7, .ref (ob_top nl unc))] rfl ?_
            have hA := hup2.col true
            have frA : ob_fr t L V0 (ob_set V top 6 (ob_cv true)) := hfr.set (by rw [← hL]; simp [ob_plug_mk, ob_mem_plug, ob_mem_mk]) (by omega)
            have hu6 : ob_set V top 6 (ob_cv true) (ob_top nl unc) 6 = ob_cv (ob_red unc) := by
              obtain ⟨-, -, v6⟩ := hA.foc2
              exact v6
            generalize hVA : ob_set V top 6 (ob_cv true) = VA at hA frA hu6
            have hVA' : ob_set V top 6 (.int 1) = VA := hVA
            rw [hVA']
            cases hred : ob_red unc with
            | true =>
              rw [hred] at hu6
              cases unc with
              | leaf => cases hred
              | inner q3 u3 c3 l3 r3 =>
                have c3t : c3 = true := hred
                subst c3t
                refine og_getf dX4_mendRedBelowRed_61 kfX4_61 (by assumption) (by assumption) ?_
                refine og_if_eq (tgt := 85) dX4_mendRedBelowRed_64 (by decide) (fun z9 => absurd z9 (by decide)) (fun _ => ?_)
                refine og_aload dX4_mendRedBelowRed_67 rfl rfl ?_
                refine og_iconst (v := 0) dX4_mendRedBelowRed_69 (by decide) ?_
                refine og_put dX4_mendRedBelowRed_70 kfX4_61 m1 rfl rfl ?_
                refine og_aload dX4_mendRedBelowRed_73 rfl rfl ?_
                refine og_iconst (v := 0) dX4_mendRedBelowRed_75 (by decide) ?_
                refine og_put dX4_mendRedBelowRed_76 kfX4_61 (by assumption) rfl rfl ?_
                refine og_aload dX4_mendRedBelowRed_79 rfl rfl ?_
                refine og_astore_n dX4_mendRedBelowRed_81 (by decide) rfl ?_
                refine og_goto (tgt := 124) dX4_mendRedBelowRed_82 (by decide) ?_
                refine og_iinc dX4_mendRedBelowRed_124 rfl (nI_1 i) (by decide) ?_
                refine og_goto (tgt := 4) dX4_mendRedBelowRed_127 (by decide) ?_
                refine og_lv [(0, .ref t), (2, .ref top), (3, .int (nI (i + 1)))] rfl ?_
                -- mid black, uncle black
                have hB := (hA.down d2).col false
                have hC := hB.up
                rw [ob_mkn_swap] at hC
                have hD := ob_zt.col (d := true) false (hC.down (!d2))
                have hE := hD.up
                rw [ob_mkn_swap, Bool.not_not] at hE
                have hE' : ob_zt T (ob_set (ob_set VA mid 6 (ob_cv false)) u3 6 (ob_cv false)) t nl z (.inner q2 top true (if d2 then ob_mkn d1 q1 mid false (.inner q low true l r) b1 else ob_mkn true q3 u3 false l3 r3) (if d2 then ob_mkn true q3 u3 false l3 r3 else ob_mkn d1 q1 mid false (.inner q low true l r) b1)) := by
                  cases d2 <;> exact hE
                have hadsE : ob_ads (ob_plug z (.inner q2 top true (if d2 then ob_mkn d1 q1 mid false (.inner q low true l r) b1 else ob_mkn true q3 u3 false l3 r3) (if d2 then ob_mkn true q3 u3 false l3 r3 else ob_mkn d1 q1 mid false (.inner q low true l r) b1))) = L := by
                  rw [← hL, ob_plug_mk, ob_plug_mk]
                  refine ob_ads_plug2 ?_
                  have e1 := ob_ads_col d1 q1 mid false true (.inner q low true l r) b1
                  have e2 : ob_ads (ob_mkn true q3 u3 false l3 r3) = ob_ads (.inner q3 u3 true l3 r3) := rfl
                  cases d2 <;> simp [ob_mkn, ob_ads] at e1 e2 ⊢ <;> (try rw [e1]) <;> simp
                obtain ⟨z3a, z3b, z3c, z3d⟩ := (ob_rb_r (d := true) (q := q3) (a := u3)).mp zb2
                have rM : ob_rb (ob_mkn d1 q1 mid false (.inner q low true l r) b1) (m + 1) := ob_rb_b.mpr ⟨htree, zb1⟩
                have rU : ob_rb (ob_mkn true q3 u3 false l3 r3) (m + 1) := ob_rb_b.mpr ⟨z3c, z3d⟩
                have kM : ob_red (ob_mkn d1 q1 mid false (.inner q low true l r) b1) = false := ob_red_mk ..
                have kU : ob_red (ob_mkn true q3 u3 false l3 r3) = false := ob_red_mk ..
                refine ih _ z q2 top (m + 1) (i + 1) _ _ ?_ ?_ hE' zk2 ?_ ?_ ?_ ?_ hadsE ?_
                · simp only [List.length_cons] at hf; omega
                · simp only [List.length_cons] at hi; omega
                · cases d2 <;> assumption
                · cases d2 <;> assumption
                · cases d2 <;> assumption
                · cases d2 <;> assumption
                · refine (frA.set ?_ (by omega)).set ?_ (by omega)
                  · rw [← hL]; simp [ob_plug_mk, ob_mem_plug, ob_mem_mk]
                  · rw [← hL]; simp [ob_plug_mk, ob_mem_plug, ob_mem_mk, ob_ads, ob_top]
            | false =>
              rw [hred] at hu6
              refine og_getf dX4_mendRedBelowRed_61 kfX4_61 (by assumption) (by assumption) ?_
              refine og_if_eq (tgt := 85) dX4_mendRedBelowRed_64 (by decide) (fun _ => ?_) (fun z9 => absurd (rfl) z9)
              refine og_aload_n dX4_mendRedBelowRed_85 rfl rfl ?_
              refine og_aload dX4_mendRedBelowRed_86 rfl rfl ?_
              refine og_iload dX4_mendRedBelowRed_88 rfl ?_
              -- behind the first turn: mm rises
              have fin : ∀ (V3 : ob_V) (mm q4 : Nat) (P S : ob_t), ob_zt T V3 t nl z (ob_mkn d2 q2 top true (ob_mkn d2 q4 mm true P S) unc) → ob_fr t L V0 V3 → ob_ads (ob_plug z (ob_mkn d2 q2 top true (ob_mkn d2 q4 mm true P S) unc)) = L → ob_rb P m → ob_rb S m → ob_red S = false →
                  ob_G X mX4_mendRedBelowRed R (ob_mended T B J t nl L V0) 107 [(0, .ref t), (4, .ref mm), (5, .ref top), (6, .int (ob_sd d2))] [] (T, V3, B, J) k n := by
                intro V3 mm q4 P S hz3 fr3 hL3 rP rS kS
                obtain ⟨w1, w2, -⟩ := (hz3.down d2).foc
                have ht3 := hz3.1
                refine og_aload dX4_mendRedBelowRed_107 rfl rfl ?_
                refine og_iconst (v := 0) dX4_mendRedBelowRed_109 (by decide) ?_
                refine og_put dX4_mendRedBelowRed_110 kfX4_61 w1 rfl rfl ?_
                refine og_aload_n dX4_mendRedBelowRed_113 rfl rfl ?_
                refine og_aload dX4_mendRedBelowRed_114 rfl rfl ?_
                refine og_iconst (v := 1) dX4_mendRedBelowRed_116 (by decide) ?_
                refine og_iload dX4_mendRedBelowRed_117 rfl ?_
                refine og_isub dX4_mendRedBelowRed_119 ?_
                refine og_st [.int (ob_sd (!d2)), .ref top, .ref t] (by first | (rw [← ob_sd_not]; done) | (rw [← ob_sd_not]; rfl)) ?_
                have hz4 := ((hz3.down d2).col false).up
                have hz5 : ob_zt T (ob_set V3 mm 6 (ob_cv false)) t nl z (ob_mkn (!d2) q2 top true unc (ob_mkn (!d2) q4 mm false S P)) := by
                  have e1 : ob_mkn d2 q2 top true (ob_mkn d2 q4 mm false P S) unc = ob_mkn (!d2) q2 top true unc (ob_mkn (!d2) q4 mm false S P) := by
                    rw [ob_mkn_swap d2 q2, ob_mkn_swap d2 q4]
                  rw [← e1]; exact hz4
                refine og_callVn dX4_mendRedBelowRed_120 kvX4_90 (ct_rotate hz5) rfl ht3 rfl rfl ⟨hR.1, Nat.le_trans (by decide) hR.2⟩ hk hs (Nat.le_of_ble_eq_true rfl) rfl (fun E w' h9 => by cases h9.1) (fun v w' h9 => ?_)
                obtain ⟨hv, V', rfl, hz6, hfr6⟩ := h9
                cases hv
                have hmem : mm ∈ L := by rw [← hL3]; simp [ob_mem_plug, ob_mem_mk]
                have hL6 : ob_ads (ob_plug z (ob_mkn (!d2) q4 mm false (ob_mkn (!d2) q2 top true unc S) P)) = L := by
                  rw [← hL3]
                  refine ob_ads_plug2 ?_
                  rw [← ob_ads_rot (!d2) q2 q4 q4 q2 top mm true false false true unc S P, ob_mkn_swap d2 q2]
                  refine ob_ads_mk2 rfl ?_
                  rw [ob_mkn_swap d2 q4]
                  exact ob_ads_col ..
                obtain ⟨N, g1, -⟩ := ob_zk_plug (t := ob_mkn (!d2) q4 mm false (ob_mkn (!d2) q2 top true unc S) P) zk2 (ob_rb_b.mpr ⟨ob_rb_r.mpr ⟨hred, kS, zb2, rS⟩, rP⟩) (fun _ => ob_red_mk ..)
                refine og_return rfl dX4_mendRedBelowRed_123 hk hs ⟨rfl, V', _, N, rfl, hz6.whole, g1, hL6, ?_⟩
                refine ob_fr.tr (fr3.set hmem (by omega)) hfr6 (fun a ha => ?_)
                rw [← hL3]
                simp only [List.mem_append, ob_mem_mk, ob_mem_plug] at ha ⊢
                grind
              have hA1 := hA.down d2
              have pc1 : V mid (ob_sl d1) = .ref low := m3
              have pcA : VA mid (ob_sl d1) = .ref low ∧ VA mid (ob_sl (!d1)) = .ref (ob_top nl b1) := by
                obtain ⟨-, -, a3, a4, -⟩ := hA1.foc
                exact ⟨a3, a4⟩
              by_cases hd : d1 = d2
              · subst hd
                refine og_callVe dX4_mendRedBelowRed_90 kvX4_58 (ct_child (d := d1) m1 pcA.1) rfl m1 rfl rfl ⟨Nat.le_trans (by decide) hR.1, Nat.le_trans (by decide) hR.2⟩ hk hs (Nat.le_of_ble_eq_true rfl) rfl ?_
                refine og_acmp_eq (tgt := 107) dX4_mendRedBelowRed_93 (by decide) (fun _ => ?_) (fun z9 => absurd (rfl) z9)
                refine og_lv [(0, .ref t), (4, .ref mid), (5, .ref top), (6, .int (ob_sd d1))] rfl ?_
                exact fin VA mid q1 _ b1 hA frA (by rw [← hL, ob_plug_mk, ob_plug_mk]; exact ob_ads_plug2 (ob_ads_col ..)) htree zb1 zr1
              · have hd' : d1 = !d2 := by cases d1 <;> cases d2 <;> simp at hd ⊢
                subst hd'
                rw [Bool.not_not] at pcA
                have hlb : low ≠ ob_top nl b1 := by
                  intro e
                  have hnd := hup.2.2.2.2.2.2.2
                  simp only [List.nodup_append, ob_nd_mk, ob_mem_mk] at hnd
                  cases b1 with
                  | leaf => exact f2 e
                  | inner q9 a9 c9 l9 r9 =>
                    have e : low = a9 := e
                    exact hnd.2.1.2.2.2.2 low (by simp [ob_ads]) (by rw [e]; simp [ob_ads])
                refine og_callVe dX4_mendRedBelowRed_90 kvX4_58 (ct_child (d := d2) m1 pcA.2) rfl m1 rfl rfl ⟨Nat.le_trans (by decide) hR.1, Nat.le_trans (by decide) hR.2⟩ hk hs (Nat.le_of_ble_eq_true rfl) rfl ?_
                refine og_acmp_eq (tgt := 107) dX4_mendRedBelowRed_93 (by decide) (fun z9 => absurd z9 (hlb)) (fun _ => ?_)
                refine og_aload_n dX4_mendRedBelowRed_96 rfl rfl ?_
                refine og_aload dX4_mendRedBelowRed_97 rfl rfl ?_
                refine og_iload dX4_mendRedBelowRed_99 rfl ?_
                have hr1 : ob_zt T VA t nl ((d2, top, true, unc, q2) :: z) (ob_mkn d2 q1 mid true b1 (ob_mkn d2 q low true (if d2 then l else r) (if d2 then r else l))) := by
                  have e1 : ob_mkn (!d2) q1 mid true (.inner q low true l r) b1 = ob_mkn d2 q1 mid true b1 (ob_mkn d2 q low true (if d2 then l else r) (if d2 then r else l)) := by
                    rw [← ob_mkn_of d2, ob_mkn_swap (!d2), Bool.not_not]
                  rw [← e1]; exact hA1
                refine og_callVn dX4_mendRedBelowRed_101 kvX4_90 (ct_rotate hr1) rfl ht rfl rfl ⟨hR.1, Nat.le_trans (by decide) hR.2⟩ hk hs (Nat.le_of_ble_eq_true rfl) rfl (fun E w' h9 => by cases h9.1) (fun v w' h9 => ?_)
                obtain ⟨hv, V', rfl, hz6, hfr6⟩ := h9
                cases hv
                refine og_aload_n dX4_mendRedBelowRed_104 rfl rfl ?_
                refine og_astore dX4_mendRedBelowRed_105 (by decide) rfl ?_
                refine og_lv [(0, .ref t), (4, .ref low), (5, .ref top), (6, .int (ob_sd d2))] rfl ?_
                have hL7 : ob_ads (ob_plug z (ob_mkn d2 q2 top true (ob_mkn d2 q low true (ob_mkn d2 q1 mid true b1 (if d2 then l else r)) (if d2 then r else l)) unc)) = L := by
                  rw [← hL, ob_plug_mk, ob_plug_mk]
                  refine ob_ads_plug2 (ob_ads_mk2 ?_ rfl)
                  rw [ob_mkn_swap (!d2), Bool.not_not, ob_mkn_of d2 q low true l r]
                  exact (ob_ads_rot d2 q1 q q q1 mid low true true true true b1 _ _).symm
                have rl : ob_rb (if d2 then l else r) m := by cases d2 <;> assumption
                have rr : ob_rb (if d2 then r else l) m := by cases d2 <;> assumption
                have kl : ob_red (if d2 then l else r) = false := by cases d2 <;> assumption
                have kr : ob_red (if d2 then r else l) = false := by cases d2 <;> assumption
                refine fin V' low q _ _ hz6.up (ob_fr.tr frA hfr6 (fun a ha => ?_)) hL7 (ob_rb_r.mpr ⟨zr1, kl, zb1, rl⟩) rr kr
                rw [← hL7]
                simp only [List.mem_append, ob_mem_mk, ob_mem_plug, ob_zads, List.mem_cons] at ha ⊢
                grind
theorem ct_mendRed {V : ob_V} {t nl q low m : Nat} {z : List ob_f} {l r : ob_t} (h : ob_zt T V t nl z (.inner q low true l r)) (hz : z.length ≤ 120) (hk : ob_zk z m) (hl : ob_rb l m) (hr : ob_rb r m) (hlr : ob_red l = false) (hrr : ob_red r = false) : ob_C X mX4_mendRedBelowRed 3 0 0 [.ref t, .ref low] (T, V, B, J) (ob_mended T B J t nl (ob_ads (ob_plug z (.inner q low true l r))) V) := by
  refine ob_C_of (by decide) rfl (Nat.le_of_ble_eq_true rfl) ?_
  refine og_aload_n dX4_mendRedBelowRed_0 rfl rfl ?_
  refine og_astore_n dX4_mendRedBelowRed_1 (by decide) rfl ?_
  refine og_iconst (v := 0) dX4_mendRedBelowRed_2 (by decide) ?_
  refine og_istore_n dX4_mendRedBelowRed_3 (by decide) ?_
  refine og_lv [(0, .ref t), (2, .ref low), (3, .int (nI 0))] rfl ?_
  exact red_loop ⟨by decide, by decide⟩ (Nat.le_refl _) (Nat.le_refl _) _ V z q low m 0 l r (Nat.le_refl _) (by omega) h hk hl hr hlr hrr rfl ob_fr.rf
end OBF
end
section
/-! link: a new node into the tree -/
theorem ob_fr.nd {T : ob_T} {V V' : ob_V} {B : ob_B} {t hb cap a : Nat} {A : List Nat} {ke va : List Nat} (ht : T t = some (4, 0)) (h : ob_fr t A V V') (hn : ob_nd T V B hb cap a ke va) : ob_nd T V' B hb cap a ke va := by
  obtain ⟨h1, h2, h3, b, s, h4, h5, h6, h7⟩ := hn
  have e : ∀ x j, j < 3 → x ≠ t → V' x j = V x j := fun x j hj hx => h x j (by omega)
  have hat : a ≠ t := fun e => by rw [e, ht] at h1; cases h1
  have hbt : b ≠ t := fun e => by rw [e, ht] at h5; cases h5
  exact ⟨h1, by rw [e a 0 (by omega) hat]; exact h2, by rw [e a 1 (by omega) hat]; exact h3, b, s, by rw [e a 2 (by omega) hat]; exact h4, h5, by rw [e b 0 (by omega) hbt]; exact h6, h7⟩
theorem ob_fr.hb {T : ob_T} {V V' : ob_V} {t hp hb cap : Nat} {A : List Nat} (ht : T t = some (4, 0)) (hA : ∀ a ∈ A, T a = some (2, 0)) (h : ob_fr t A V V') (hn : ob_hb T V hp hb cap) : ob_hb T V' hp hb cap := by
  obtain ⟨h1, h2, h3, h4⟩ := hn
  refine ⟨h1, ?_, h3, h4⟩
  rw [h hp 4, h2]
  rintro (⟨rfl, h9⟩ | ⟨h9, -⟩)
  · cases h9
  · rw [hA hp h9] at h1; cases h1
/-- the side on which the hole lies -/
def ob_zs9 : List ob_f → Int32
  | [] => 0
  | (d, _, _, _, _) :: _ => ob_sd d
theorem ob_len_z {z : List ob_f} {tt : ob_t} {m : Nat} (hz : ob_zk z m) (ht : ob_rb tt m) (hr : ob_zr9 z → ob_red tt = false) (hs : ob_siz (ob_plug z tt) ≤ 1024) : z.length ≤ 40 := by
  obtain ⟨N, h1, -, h3, h4⟩ := ob_zk_plug hz ht hr
  have h5 := ob_rb_pow h1
  have h6 : N ≤ 10 := by
    rcases Nat.lt_or_ge 10 N with h | h
    · have : 2 ^ 11 ≤ 2 ^ N := Nat.pow_le_pow_right (by decide) h
      omega
    · exact h
  split at h4 <;> omega
section OBK
variable {X : ob_X} {T : ob_T} {B : ob_B} {J : ob_J} {R : Room} {k n : Nat}
/-- the end of link -/
def ob_linked (T : ob_T) (B : ob_B) (J : ob_J) (t nl fresh : Nat) (K : ob_k) (L : List Nat) (V : ob_V) : ob_r → ob_w → Prop := fun r w' => r = .inl none ∧ ∃ V' tt N L1 L2, w' = (T, V', B, J) ∧ ob_tr T V' t nl tt ∧ ob_rb tt N ∧ ob_red tt = false ∧ L = L1 ++ L2 ∧ ob_ads tt = L1 ++ fresh :: L2 ∧ (∀ x ∈ L1, ob_cmp (K x).1 (K fresh).1 < 0) ∧ (∀ x ∈ L2, ob_cmp (K fresh).1 (K x).1 < 0) ∧ ob_fr t (fresh :: L) V V'
theorem link_loop {V0 : ob_V} {t nl hp hb cap fresh N : Nat} {K : ob_k} {L : List Nat} {t0 : ob_t} (hR : 4 ≤ R.frames ∧ 240 ≤ R.locals) (hk : k ≤ R.cells) (hs : n ≤ R.slots) (ht : T t = some (4, 0)) (hth : V0 t 0 = .ref hp) (h1 : ob_hb T V0 hp hb cap) (hf : ob_nd T V0 B hb cap fresh (K fresh).1 (K fresh).2) (hfl : (K fresh).1.length ≤ 64) (hfn : fresh ≠ nl) (hfL : fresh ∉ L) (hns : ob_ns T V0 B hb cap K L) (hne : ∀ x ∈ L, (K x).1 ≠ (K fresh).1) (hLe : L = ob_ads t0) (hrb : ob_rb t0 N) (hrd : ob_red t0 = false) (hsz : ob_siz t0 ≤ 1023) (hso : ob_so K L) :
    ∀ (tt : ob_t) (V : ob_V) (z : List ob_f), V t 1 = .ref nl → V t 2 = .ref (ob_top nl t0) → ob_nil T V nl → V nl 5 = .ref nl → ob_zm V nl z (ob_top nl tt) (ob_siz tt + 1) → ob_tm V nl tt (ob_zp nl z) → (∀ a ∈ ob_zads z ++ ob_ads tt, T a = some (2, 0) ∧ a ≠ nl) → (ob_zads z ++ ob_ads tt).Nodup → t0 = ob_plug z tt → ob_fr t (fresh :: L) V0 V → (∀ x ∈ ob_zl z, ob_cmp (K x).1 (K fresh).1 < 0) → (∀ x ∈ ob_zr z, ob_cmp (K fresh).1 (K x).1 < 0) →
    ob_G X mX4_link R (ob_linked T B J t nl fresh K L V0) 13 [(0, .ref t), (1, .ref fresh), (2, .ref (ob_zp nl z)), (3, .int (ob_zs9 z)), (4, .ref (ob_top nl tt))] [] (T, V, B, J) k n := by
  intro tt
  have hAT : ∀ a ∈ fresh :: L, T a = some (2, 0) := by
    intro a ha
    rcases List.mem_cons.mp ha with rfl | ha
    · exact hf.1
    · exact (hns a ha).1.1
  have hf1 := hf.1
  have hft : fresh ≠ t := fun e => by rw [e, ht] at hf1; cases hf1
  induction tt with
  | leaf =>
    intro V z v1 v2 hn hn5 hz htm hTa hnd e0 hfr hzl hzr
    subst e0
    simp only [ob_ads, List.append_nil] at hTa hnd
    have hfz : fresh ∉ ob_zads z := fun h => hfL (by rw [hLe]; exact ob_mem_plug.mpr (Or.inl h))
    have hnt : nl ≠ t := fun e => by have := hn.1; rw [e, ht] at this; cases this
    have hzpT : T (ob_zp nl z) = some (2, 0) := by
      cases z with
      | nil => exact hn.1
      | cons f z => obtain ⟨d, a, c, b, q⟩ := f; exact (hTa a (by simp [ob_zads])).1
    obtain ⟨m, zk, lm, -, -⟩ := ob_plug_zk hrb hrd
    have em : m = 0 := lm
    subst em
    have hlen : z.length ≤ 40 := ob_len_z zk lm (fun _ => rfl) (by omega)
    refine og_aload dX4_link_13 rfl rfl ?_
    refine og_aload_n dX4_link_15 rfl rfl ?_
    refine og_getf dX4_link_16 kfX4_20 (by assumption) (by assumption) ?_
    refine og_acmp_eq (tgt := 66) dX4_link_19 (by decide) (fun _ => ?_) (fun z9 => absurd (rfl) z9)
    refine og_aload_n dX4_link_66 rfl rfl ?_
    refine og_aload_n dX4_link_67 rfl rfl ?_
    refine og_getf dX4_link_68 kfX4_20 (by assumption) (by assumption) ?_
    refine og_put dX4_link_71 kfX4_24 hf1 rfl rfl ?_
    have w1 : ob_set V fresh 3 (.ref nl) t 1 = .ref nl := by simp [ob_set, v1]
    refine og_aload_n dX4_link_74 rfl rfl ?_
    refine og_aload_n dX4_link_75 rfl rfl ?_
    refine og_getf dX4_link_76 kfX4_20 (by assumption) (by assumption) ?_
    refine og_put dX4_link_79 kfX4_27 hf1 rfl rfl ?_
    refine og_aload_n dX4_link_82 rfl rfl ?_
    refine og_aload_n dX4_link_83 rfl rfl ?_
    refine og_put dX4_link_84 kfX4_30 hf1 rfl rfl ?_
    refine og_aload_n dX4_link_87 rfl rfl ?_
    refine og_iconst (v := 1) dX4_link_88 (by decide) ?_
    refine og_put dX4_link_89 kfX4_61 hf1 rfl rfl ?_
    refine og_aload_n dX4_link_92 rfl rfl ?_
    refine og_iconst (v := 1) dX4_link_93 (by decide) ?_
    refine og_put dX4_link_94 kfX4_36 hf1 rfl rfl ?_
    generalize hV5 : ob_set (ob_set (ob_set (ob_set (ob_set V fresh 3 (.ref nl)) fresh 4 (.ref nl)) fresh 5 (.ref (ob_zp nl z))) fresh 6 (.int 1)) fresh 7 (.int 1) = V5
    have far : ∀ b j, b ≠ fresh → V5 b j = V b j := fun b j hb => by rw [← hV5]; simp [ob_set, hb]
    have f3 : V5 fresh 3 = .ref nl := by rw [← hV5]; simp [ob_set]
    have f4 : V5 fresh 4 = .ref nl := by rw [← hV5]; simp [ob_set]
    have f5 : V5 fresh 5 = .ref (ob_zp nl z) := by rw [← hV5]; simp [ob_set]
    have f6 : V5 fresh 6 = ob_cv true := by rw [← hV5]; simp [ob_set]; rfl
    have f7 : V5 fresh 7 = .int (nI 1) := by rw [← hV5]; simp [ob_set]; rfl
    have fr5 : ob_fr t (fresh :: L) V0 V5 := by
      rw [← hV5]
      exact ((((hfr.set (by simp) (by omega)).set (by simp) (by omega)).set (by simp) (by omega)).set (by simp) (by omega)).set (by simp) (by omega)
    have v51 : V5 t 1 = .ref nl := by rw [far t 1 (Ne.symm hft)]; exact v1
    -- behind the fork: the node hangs in its place
    have hang : ∀ V6, ob_zt T V6 t nl z (.inner 0 fresh true .leaf .leaf) → V6 nl 5 = .ref nl → ob_fr t (fresh :: L) V0 V6 → ob_G X mX4_link R (ob_linked T B J t nl fresh K L V0) 119 [(0, .ref t), (1, .ref fresh)] [] (T, V6, B, J) k n := by
      intro V6 hz6 h65 fr6
      refine og_aload_n dX4_link_119 rfl rfl ?_
      refine og_aload_n dX4_link_120 rfl rfl ?_
      refine og_callVn dX4_link_121 kvX4_69 (ct_mendRed hz6 (by omega) zk rfl rfl rfl rfl) rfl ht rfl rfl ⟨hR.1, Nat.le_trans (by decide) hR.2⟩ hk hs (Nat.le_of_ble_eq_true rfl) rfl (fun E w' h9 => by cases h9.1) (fun v w' h9 => ?_)
      obtain ⟨hv, V7, t7, N7, rfl, hz7, hrb7, hL7, hfr7⟩ := h9
      cases hv
      have hadd : ob_ads (ob_plug z (.inner 0 fresh true .leaf .leaf)) = ob_zl z ++ fresh :: ob_zr z := by rw [ob_ads_plug]; simp [ob_ads]
      have hLz : L = ob_zl z ++ ob_zr z := by rw [hLe, ob_ads_plug]; simp [ob_ads]
      have hsubL : ∀ a ∈ ob_ads (ob_plug z (.inner 0 fresh true .leaf .leaf)), a ∈ fresh :: L := by
        intro a ha
        rw [hadd] at ha
        rw [hLz]
        simp only [List.mem_append, List.mem_cons] at ha ⊢
        grind
      have fr7 : ob_fr t (fresh :: L) V0 V7 := ob_fr.tr fr6 hfr7 hsubL
      have h75 : V7 nl 5 = .ref nl := by
        rw [hfr7 nl 5, h65]
        rintro (⟨rfl, h9⟩ | ⟨h9, -⟩)
        · cases h9
        · rw [hadd] at h9
          simp only [List.mem_append, List.mem_cons] at h9
          have hzz : ∀ a, a ∈ ob_zl z ∨ a ∈ ob_zr z → a ≠ nl := fun a ha => (hTa a (by
            have : a ∈ ob_ads (ob_plug z .leaf) := by rw [ob_ads_plug]; simp only [List.mem_append]; grind
            rcases ob_mem_plug.mp this with h | h
            · exact h
            · simp [ob_ads] at h)).2
          rcases h9 with h9 | h9 | h9
          · exact hzz nl (Or.inl h9) rfl
          · exact hfn h9.symm
          · exact hzz nl (Or.inr h9) rfl
      cases t7 with
      | leaf => rw [hadd] at hL7; simp [ob_ads] at hL7
      | inner q7 a7 c7 l7 r7 =>
        have hz7' : ob_zt T V7 t nl [] (ob_mkn true q7 a7 c7 l7 r7) := hz7
        obtain ⟨g1, g2, -⟩ := hz7'.foc
        have hroot : V7 t 2 = .ref a7 := hz7.2.2.1
        refine og_aload_n dX4_link_124 rfl rfl ?_
        refine og_getf dX4_link_125 kfX4_33 (by assumption) (by assumption) ?_
        refine og_iconst (v := 0) dX4_link_128 (by decide) ?_
        refine og_put dX4_link_129 kfX4_61 g1 rfl rfl ?_
        have hz8 := hz7'.col false
        have ha7 : a7 ∈ fresh :: L := hsubL a7 (by rw [← hL7]; simp [ob_ads])
        have h85 : ob_set V7 a7 6 (ob_cv false) nl 5 = .ref nl := by simp [ob_set, h75]
        have hrb8 : ∃ N8, ob_rb (ob_mkn true q7 a7 false l7 r7) N8 := by
          cases c7 with
          | true =>
            obtain ⟨-, -, e3, e4⟩ := (ob_rb_r (d := true) (q := q7) (a := a7)).mp hrb7
            exact ⟨N7 + 1, ob_rb_b.mpr ⟨e3, e4⟩⟩
          | false => exact ⟨N7, hrb7⟩
        obtain ⟨N8, hrb8⟩ := hrb8
        exact og_return rfl dX4_link_132 hk hs ⟨rfl, _, _, N8, ob_zl z, ob_zr z, rfl, hz8.tr h85, hrb8, ob_red_mk .., hLz, by rw [← hadd, ← hL7]; exact ob_ads_col true q7 a7 false c7 l7 r7, hzl, hzr, fr7.set ha7 (by omega)⟩
    refine og_aload_n dX4_link_97 rfl rfl ?_
    refine og_aload_n dX4_link_98 rfl rfl ?_
    refine og_getf dX4_link_99 kfX4_20 (by assumption) (by assumption) ?_
    have addr6 : ∀ a ∈ ob_zads z ++ ob_ads (.inner 0 fresh true .leaf .leaf), T a = some (2, 0) ∧ a ≠ nl := by
      intro a ha
      simp only [List.mem_append, ob_ads, List.nil_append, List.mem_cons, List.not_mem_nil, or_false] at ha
      rcases ha with ha | rfl
      · exact hTa a ha
      · exact ⟨hf1, hfn⟩
    have nd6 : (ob_zads z ++ ob_ads (.inner 0 fresh true .leaf .leaf)).Nodup := by
      simp only [ob_ads, List.nil_append, List.nodup_append, List.nodup_cons, List.not_mem_nil, not_false_eq_true, List.nodup_nil, and_true, true_and, List.mem_cons, or_false]
      exact ⟨hnd, fun a ha b hb e => hfz (by rw [← hb, ← e]; exact ha)⟩
    have nil5 : ∀ j, V5 nl j = V nl j := fun j => far nl j (Ne.symm hfn)
    cases z with
    | nil =>
      refine og_acmp_ne (tgt := 113) dX4_link_102 (by decide) (fun z9 => absurd (rfl) z9) (fun _ => ?_)
      refine og_aload_n dX4_link_105 rfl rfl ?_
      refine og_aload_n dX4_link_106 rfl rfl ?_
      refine og_put dX4_link_107 kfX4_33 (by assumption) rfl rfl ?_
      refine og_goto (tgt := 119) dX4_link_110 (by decide) ?_
      refine og_lv [(0, .ref t), (1, .ref fresh)] rfl ?_
      have g : ∀ b j, b ≠ t → ob_set V5 t 2 (.ref fresh) b j = V5 b j := fun b j hb => ob_set_a _ _ _ _ j hb
      refine hang _ ⟨ht, by simp [ob_set, v51], by simp [ob_set, ob_plug, ob_top], ⟨hn.1, by rw [g nl 3 hnt, nil5]; exact hn.2.1, by rw [g nl 4 hnt, nil5]; exact hn.2.2.1, by rw [g nl 6 hnt, nil5]; exact hn.2.2.2.1, by rw [g nl 7 hnt, nil5]; exact hn.2.2.2.2⟩, trivial, ⟨by rw [g fresh 3 hft]; exact f3, by rw [g fresh 4 hft]; exact f4, by rw [g fresh 5 hft]; exact f5, by rw [g fresh 6 hft]; exact f6, by rw [g fresh 7 hft]; exact f7, trivial, trivial⟩, addr6, nd6⟩ (by rw [g nl 5 hnt, nil5]; exact hn5) fr5.root
    | cons f z =>
      obtain ⟨d, a, c, b, q⟩ := f
      obtain ⟨a1, a2⟩ := hTa a (by simp [ob_zads])
      have hat : a ≠ t := fun e => by rw [e, ht] at a1; cases a1
      have haf : a ≠ fresh := fun e => hfz (by rw [← e]; simp [ob_zads])
      have sr := ob_sl_rg d
      refine og_acmp_ne (tgt := 113) dX4_link_102 (by decide) (fun _ => ?_) (fun z9 => absurd z9 (a2))
      refine og_aload_n dX4_link_113 rfl rfl ?_
      refine og_iload_n dX4_link_114 rfl ?_
      refine og_aload_n dX4_link_115 rfl rfl ?_
      refine og_callVe dX4_link_116 kvX4_65 (ct_setChild (d := d) a1) rfl a1 rfl rfl ⟨Nat.le_trans (by decide) hR.1, Nat.le_trans (by decide) hR.2⟩ hk hs (Nat.le_of_ble_eq_true rfl) rfl ?_
      refine og_lv [(0, .ref t), (1, .ref fresh)] rfl ?_
      have g : ∀ x j, x ≠ a → ob_set V5 a (ob_sl d) (.ref fresh) x j = V5 x j := fun x j hx => ob_set_a _ _ _ _ j hx
      have ga : ∀ j, j ≠ ob_sl d → ob_set V5 a (ob_sl d) (.ref fresh) a j = V a j := fun j hj => by rw [ob_set_k _ _ _ _ _ hj]; exact far a j haf
      have hzm6 : ob_zm (ob_set V5 a (ob_sl d) (.ref fresh)) nl ((d, a, c, b, q) :: z) fresh 1 := by
        refine ob_zm_hole (V := V) (x := nl) hz hnd ⟨ob_set_s _ _ _ _, ga⟩ (fun x hx hxa j => ?_)
        have hxa : x ≠ a := hxa
        rw [g x j hxa]
        exact far x j (fun e => hfz (by rw [← e]; exact hx))
      have na : nl ≠ a := Ne.symm a2
      refine hang _ ⟨ht, by rw [g t 1 (Ne.symm hat)]; exact v51, ?_, ⟨hn.1, by rw [g nl 3 na, nil5]; exact hn.2.1, by rw [g nl 4 na, nil5]; exact hn.2.2.1, by rw [g nl 6 na, nil5]; exact hn.2.2.2.1, by rw [g nl 7 na, nil5]; exact hn.2.2.2.2⟩, hzm6, ⟨by rw [g fresh 3 (Ne.symm haf)]; exact f3, by rw [g fresh 4 (Ne.symm haf)]; exact f4, by rw [g fresh 5 (Ne.symm haf)]; exact f5, by rw [g fresh 6 (Ne.symm haf)]; exact f6, by rw [g fresh 7 (Ne.symm haf)]; exact f7, trivial, trivial⟩, addr6, nd6⟩ (by rw [g nl 5 na, nil5]; exact hn5) (fr5.set ?_ (by omega))
      · rw [g t 2 (Ne.symm hat), far t 2 (Ne.symm hft), v2]
        congr 1
        exact ob_top_plug nl _ _ _ (by simp)
      · rw [hLe]; exact List.mem_cons_of_mem _ (ob_mem_plug.mpr (Or.inl (by simp [ob_zads])))
  | inner q a c l r ihl ihr =>
    intro V z v1 v2 hn hn5 hz htm hTa hnd e0 hfr hzl hzr
    obtain ⟨a3, a4, a5, a6, a7, tl, tr⟩ := htm
    obtain ⟨a1, a2⟩ := hTa a (by simp [ob_ads])
    have haL : a ∈ L := by rw [hLe, e0]; exact ob_mem_plug.mpr (Or.inr (by simp [ob_ads]))
    have hat : a ≠ t := fun e => by rw [e, ht] at a1; cases a1
    have haf : a ≠ fresh := fun e => hfL (by rw [← e]; exact haL)
    obtain ⟨hand, halen⟩ := hns a haL
    have hb9 := h1.1
    refine og_aload dX4_link_13 rfl rfl ?_
    refine og_aload_n dX4_link_15 rfl rfl ?_
    refine og_getf dX4_link_16 kfX4_20 (by assumption) (by assumption) ?_
    refine og_acmp_eq (tgt := 66) dX4_link_19 (by decide) (fun z9 => absurd z9 (a2)) (fun _ => ?_)
    refine og_aload dX4_link_22 rfl rfl ?_
    refine og_dup dX4_link_24 rfl ?_
    refine og_getf dX4_link_25 kfX4_36 (by assumption) (by assumption) ?_
    refine og_iconst (v := 1) dX4_link_28 (by decide) ?_
    refine og_iadd dX4_link_29 ?_
    refine og_put dX4_link_30 kfX4_36 a1 rfl rfl ?_
    generalize hV1 : ob_set V a 7 (.int (nI (ob_siz l + ob_siz r + 1) + 1)) = V1
    refine og_w (T, V1, B, J) (by rw [← hV1]; rfl) ?_
    have far : ∀ b j, b ≠ a → V1 b j = V b j := fun b j hb => by rw [← hV1]; simp [ob_set, hb]
    have own : ∀ j, j ≠ 7 → V1 a j = V a j := fun j hj => by rw [← hV1]; simp [ob_set, hj]
    have o7 : V1 a 7 = .int (nI (ob_siz l + ob_siz r + 1 + 1)) := by rw [← hV1, ob_set_s, nI_1]
    have fr1 : ob_fr t (fresh :: L) V0 V1 := by rw [← hV1]; exact hfr.set (List.mem_cons_of_mem _ haL) (by omega)
    have hth1 : V1 t 0 = .ref hp := by rw [fr1 t 0 (by omega)]; exact hth
    have w1 : V1 t 1 = .ref nl := by rw [far t 1 (Ne.symm hat)]; exact v1
    have w2 : V1 t 2 = .ref (ob_top nl t0) := by rw [far t 2 (Ne.symm hat)]; exact v2
    have na : nl ≠ a := Ne.symm a2
    have hn1 : ob_nil T V1 nl := ⟨hn.1, by rw [far nl 3 na]; exact hn.2.1, by rw [far nl 4 na]; exact hn.2.2.1, by rw [far nl 6 na]; exact hn.2.2.2.1, by rw [far nl 7 na]; exact hn.2.2.2.2⟩
    have hsm : -1000000 ≤ ob_cmp (K fresh).1 (K a).1 ∧ ob_cmp (K fresh).1 (K a).1 ≤ 1000000 := by
      obtain ⟨-, -, -, b, s, -, -, -, hbs, -⟩ := hf
      obtain ⟨-, -, -, b', s', -, -, -, hbs', -⟩ := hand
      exact ob_cmp_small hbs.app.1.lt hbs'.app.1.lt (by omega) (by omega)
    have hnd2 := hnd
    simp only [ob_ads, List.nodup_append, List.nodup_cons, List.mem_append, List.mem_cons] at hnd2
    obtain ⟨nz, ⟨nl1, ⟨nr0, nr1⟩, nlr⟩, nzz⟩ := hnd2
    have naz : a ∉ ob_zads z := fun h => nzz a h a (Or.inr (Or.inl rfl)) rfl
    have nal : a ∉ ob_ads l := fun h => nlr a h a (Or.inl rfl) rfl
    have tl1 : ob_tm V1 nl l a := ob_tm_congr (fun b hb j _ _ => far b j (fun e => nal (by rw [← e]; exact hb))) tl
    have tr1 : ob_tm V1 nl r a := ob_tm_congr (fun b hb j _ _ => far b j (fun e => nr0 (by rw [← e]; exact hb))) tr
    have hz1 : ob_zm V1 nl z a (ob_siz (.inner q a c l r) + 1) := ob_zm_congr (fun b hb j _ _ => far b j (fun e => naz (by rw [← e]; exact hb))) hz
    have b3 : V1 a 3 = .ref (ob_top nl l) := by rw [own 3 (by decide)]; exact a3
    have b4 : V1 a 4 = .ref (ob_top nl r) := by rw [own 4 (by decide)]; exact a4
    have b5 : V1 a 5 = .ref (ob_zp nl z) := by rw [own 5 (by decide)]; exact a5
    have b6 : V1 a 6 = ob_cv c := by rw [own 6 (by decide)]; exact a6
    have hKso : ob_so K (ob_zl z ++ (ob_ads l ++ a :: ob_ads r) ++ ob_zr z) := by
      have := hso; rw [hLe, e0, ob_ads_plug] at this; simpa [ob_ads] using this
    refine og_aload dX4_link_33 rfl rfl ?_
    refine og_astore_n dX4_link_35 (by decide) rfl ?_
    refine og_aload_n dX4_link_36 rfl rfl ?_
    refine og_getf dX4_link_37 kfX4_9 (by assumption) (by assumption) ?_
    refine og_aload_n dX4_link_40 rfl rfl ?_
    refine og_aload dX4_link_41 rfl rfl ?_
    refine og_callVe dX4_link_43 kvX4_54 (ct_compareNodes (fr1.hb ht hAT h1) (fr1.nd ht hf) (fr1.nd ht hand)) rfl hb9 rfl rfl ⟨Nat.le_trans (by decide) hR.1, Nat.le_trans (by decide) hR.2⟩ hk hs (Nat.le_of_ble_eq_true rfl) rfl ?_
    refine og_if_ge (tgt := 53) dX4_link_46 (by decide) (fun hc => ?_) (fun hc => ?_)
    · have hd1 : 0 ≤ ob_cmp (K fresh).1 (K a).1 := (iI_le hsm.1 hsm.2).mp hc
      have hd2 : ob_cmp (K fresh).1 (K a).1 ≠ 0 := fun e => hne a haL (ob_cmp_0.mp e).symm
      have hd3 : ob_cmp (K a).1 (K fresh).1 < 0 := by rw [ob_cmp_neg]; omega
      refine og_iconst (v := 1) dX4_link_53 (by decide) ?_
      refine og_istore_n dX4_link_54 (by decide) ?_
      refine og_aload dX4_link_55 rfl rfl ?_
      refine og_iload_n dX4_link_57 rfl ?_
      refine og_callVe dX4_link_58 kvX4_58 (ct_child (d := false) a1 b4) rfl a1 rfl rfl ⟨Nat.le_trans (by decide) hR.1, Nat.le_trans (by decide) hR.2⟩ hk hs (Nat.le_of_ble_eq_true rfl) rfl ?_
      refine og_astore dX4_link_61 (by decide) rfl ?_
      refine og_goto (tgt := 13) dX4_link_63 (by decide) ?_
      refine og_lv [(0, .ref t), (1, .ref fresh), (2, .ref (ob_zp nl ((false, a, c, l, q) :: z))), (3, .int (ob_zs9 ((false, a, c, l, q) :: z))), (4, .ref (ob_top nl r))] rfl ?_
      refine ihr V1 ((false, a, c, l, q) :: z) w1 w2 hn1 (by rw [far nl 5 na]; exact hn5) (ob_zm_cons.mpr ⟨b4, b3, b5, b6, ?_, tl1, ?_⟩) tr1 ?_ ?_ e0 fr1 ?_ (fun x hx => hzr x (by simpa [ob_zr] using hx))
      · rw [o7]; congr 2; omega
      · simp only [ob_siz] at hz1
        rw [show ob_siz r + 1 + ob_siz l + 1 = ob_siz l + ob_siz r + 1 + 1 by omega]; exact hz1
      · intro x hx
        refine hTa x ?_
        simp only [List.mem_append, ob_zads, ob_ads, List.mem_cons] at hx ⊢
        grind
      · simp only [ob_zads, ob_ads, List.cons_append, List.nodup_cons, List.mem_append, List.append_assoc, List.nodup_append, List.mem_cons] at hnd ⊢
        grind
      · intro x hx
        simp only [ob_zl, Bool.false_eq_true, if_false, List.mem_append, List.mem_singleton] at hx
        rcases hx with hx | hx | rfl
        · exact hzl x hx
        · refine ob_cmp_tr ?_ hd3
          have h9 := (List.pairwise_append.mp (List.pairwise_append.mp hKso).1).2.1
          exact (ob_so.split h9).2.2.1 x hx
        · exact hd3
    · have hd3 : ob_cmp (K fresh).1 (K a).1 < 0 := by
        rcases Int.lt_or_le (ob_cmp (K fresh).1 (K a).1) 0 with h | h
        · exact h
        · exact absurd ((iI_le hsm.1 hsm.2).mpr h) hc
      refine og_iconst (v := 0) dX4_link_49 (by decide) ?_
      refine og_goto (tgt := 54) dX4_link_50 (by decide) ?_
      refine og_istore_n dX4_link_54 (by decide) ?_
      refine og_aload dX4_link_55 rfl rfl ?_
      refine og_iload_n dX4_link_57 rfl ?_
      refine og_callVe dX4_link_58 kvX4_58 (ct_child (d := true) a1 b3) rfl a1 rfl rfl ⟨Nat.le_trans (by decide) hR.1, Nat.le_trans (by decide) hR.2⟩ hk hs (Nat.le_of_ble_eq_true rfl) rfl ?_
      refine og_astore dX4_link_61 (by decide) rfl ?_
      refine og_goto (tgt := 13) dX4_link_63 (by decide) ?_
      refine og_lv [(0, .ref t), (1, .ref fresh), (2, .ref (ob_zp nl ((true, a, c, r, q) :: z))), (3, .int (ob_zs9 ((true, a, c, r, q) :: z))), (4, .ref (ob_top nl l))] rfl ?_
      refine ihl V1 ((true, a, c, r, q) :: z) w1 w2 hn1 (by rw [far nl 5 na]; exact hn5) (ob_zm_cons.mpr ⟨b3, b4, b5, b6, ?_, tr1, ?_⟩) tl1 ?_ ?_ e0 fr1 (fun x hx => hzl x (by simpa [ob_zl] using hx)) ?_
      · rw [o7]; congr 2; omega
      · simp only [ob_siz] at hz1
        rw [show ob_siz l + 1 + ob_siz r + 1 = ob_siz l + ob_siz r + 1 + 1 by omega]; exact hz1
      · intro x hx
        refine hTa x ?_
        simp only [List.mem_append, ob_zads, ob_ads, List.mem_cons] at hx ⊢
        grind
      · simp only [ob_zads, ob_ads, List.cons_append, List.nodup_cons, List.mem_append, List.append_assoc, List.nodup_append, List.mem_cons] at hnd ⊢
        grind
      · intro x hx
        simp only [ob_zr, if_true, List.cons_append, List.mem_cons, List.mem_append] at hx
        rcases hx with rfl | hx | hx
        · exact hd3
        · refine ob_cmp_tr hd3 ?_
          have h9 := (List.pairwise_append.mp (List.pairwise_append.mp hKso).1).2.1
          exact (ob_so.split h9).2.2.2 x hx
        · exact hzr x hx
theorem ct_link {V : ob_V} {t nl hp hb cap fresh N : Nat} {K : ob_k} {tt : ob_t} (h : ob_tr T V t nl tt) (hth : V t 0 = .ref hp) (h1 : ob_hb T V hp hb cap) (hf : ob_nd T V B hb cap fresh (K fresh).1 (K fresh).2) (hfl : (K fresh).1.length ≤ 64) (hfn : fresh ≠ nl) (hfL : fresh ∉ ob_ads tt) (hns : ob_ns T V B hb cap K (ob_ads tt)) (hne : ∀ x ∈ ob_ads tt, (K x).1 ≠ (K fresh).1) (hrb : ob_rb tt N) (hrd : ob_red tt = false) (hsz : ob_siz tt ≤ 1023) (hso : ob_so K (ob_ads tt)) : ob_C X mX4_link 4 0 0 [.ref t, .ref fresh] (T, V, B, J) (ob_linked T B J t nl fresh K (ob_ads tt) V) := by
  refine ob_C_of (by decide) rfl (Nat.le_of_ble_eq_true rfl) ?_
  obtain ⟨ht, hnl, hroot, hn, hn5, hsub, hnd⟩ := h
  refine og_aload_n dX4_link_0 rfl rfl ?_
  refine og_getf dX4_link_1 kfX4_20 (by assumption) (by assumption) ?_
  refine og_astore_n dX4_link_4 (by decide) rfl ?_
  refine og_iconst (v := 0) dX4_link_5 (by decide) ?_
  refine og_istore_n dX4_link_6 (by decide) ?_
  refine og_aload_n dX4_link_7 rfl rfl ?_
  refine og_getf dX4_link_8 kfX4_33 (by assumption) (by assumption) ?_
  refine og_astore dX4_link_11 (by decide) rfl ?_
  refine og_lv [(0, .ref t), (1, .ref fresh), (2, .ref (ob_zp nl [])), (3, .int (ob_zs9 [])), (4, .ref (ob_top nl tt))] rfl ?_
  exact link_loop ⟨by decide, by decide⟩ (Nat.le_refl _) (Nat.le_refl _) ht hth h1 hf hfl hfn hfL hns hne rfl hrb hrd hsz hso tt V [] hnl hroot hn hn5 trivial hsub.1 (fun a ha => hsub.2 a ha) hnd rfl ob_fr.rf (fun x hx => by simp [ob_zl] at hx) (fun x hx => by simp [ob_zr] at hx)
end OBK
end
section
/-! giveBlackFrom, mendMissingBlack -/
section OBY
variable {X : ob_X} {T : ob_T} {B : ob_B} {J : ob_J} {R : Room} {k n : Nat}
theorem ob_red_cases {t : ob_t} (h : ob_red t = true) (d : Bool) : ∃ q a s u, t = ob_mkn d q a true s u := by
  cases t with
  | leaf => cases h
  | inner q a c l r => have : c = true := h; subst this; exact ⟨q, a, _, _, ob_mkn_of d q a true l r⟩
/-- the end of giveBlackFrom -/
def ob_given (T : ob_T) (B : ob_B) (J : ob_J) (t nl m : Nat) (c : Bool) (z : List ob_f) (L : List Nat) (V : ob_V) : ob_r → ob_w → Prop := fun r w' => r = .inl none ∧ ∃ V' tt, w' = (T, V', B, J) ∧ ob_zt T V' t nl z tt ∧ ob_rb tt (if c then m + 1 else m + 2) ∧ ob_red tt = c ∧ ob_ads tt = L ∧ ob_fr t (ob_zads z ++ L) V V'
theorem give_end {V V0 : ob_V} {t nl q4 top q s9 m : Nat} {d c c9 : Bool} {z : List ob_f} {tt P S : ob_t} {L : List Nat} (hk : k ≤ R.cells) (hs : n ≤ R.slots) (hR : 3 ≤ R.frames ∧ 180 ≤ R.locals) (h : ob_zt T V t nl z (ob_mkn d q top c tt (ob_mkn d q4 s9 c9 P S))) (hS : S ≠ .leaf) (rt : ob_rb tt m) (rP : ob_rb P m) (rS : ∀ qx ax cx sx ux dx, S = ob_mkn dx qx ax cx sx ux → ob_rb (ob_mkn dx qx ax false sx ux) (m + 1)) (hfr : ob_fr t (ob_zads z ++ L) V0 V) (hL : ob_ads (ob_mkn d q top c tt (ob_mkn d q4 s9 c9 P S)) = L) :
    ob_G X mX4_giveBlackFrom R (ob_given T B J t nl m c z L V0) 31 [(0, .ref t), (2, .ref top), (3, .int (ob_sd d)), (4, .ref s9)] [] (T, V, B, J) k n := by
  have ht := h.1
  obtain ⟨p1, p2, p3, p4, p5, p6⟩ := h.foc
  have h1 : ob_zt T V t nl ((!d, top, c, tt, q) :: z) (ob_mkn d q4 s9 c9 P S) := by
    have h9 := h; rw [ob_mkn_swap d q top] at h9; exact h9.down (!d)
  obtain ⟨s1, s2, s3, s4, s5, s6⟩ := h1.foc
  have hin : s9 ∈ ob_zads z ++ L := by rw [← hL]; simp [ob_mem_mk]
  have htop : top ∈ ob_zads z ++ L := by rw [← hL]; simp [ob_mem_mk]
  refine og_aload dX4_giveBlackFrom_31 rfl rfl ?_
  refine og_aload_n dX4_giveBlackFrom_33 rfl rfl ?_
  refine og_getf dX4_giveBlackFrom_34 kfX4_61 (by assumption) (by assumption) ?_
  refine og_put dX4_giveBlackFrom_37 kfX4_61 s1 (by cases c <;> rfl) (by cases c <;> rfl) ?_
  have h2 := h1.col c
  generalize hV1 : ob_set V s9 6 (ob_cv c) = V1 at h2
  refine og_w (T, V1, B, J) (by rw [← hV1]) ?_
  have fr1 : ob_fr t (ob_zads z ++ L) V0 V1 := by rw [← hV1]; exact hfr.set hin (by omega)
  obtain ⟨x1, x2, x3, x4, x5, x6⟩ := h2.foc
  refine og_aload dX4_giveBlackFrom_40 rfl rfl ?_
  refine og_iconst (v := 1) dX4_giveBlackFrom_42 (by decide) ?_
  refine og_iload_n dX4_giveBlackFrom_43 rfl ?_
  refine og_isub dX4_giveBlackFrom_44 ?_
  refine og_st [.int (ob_sd (!d)), .ref s9] (by first | (rw [← ob_sd_not]; done) | (rw [← ob_sd_not]; rfl)) ?_
  refine og_callVe dX4_giveBlackFrom_45 kvX4_58 (ct_child (d := !d) x1 x4) rfl x1 rfl rfl ⟨Nat.le_trans (by decide) hR.1, Nat.le_trans (by decide) hR.2⟩ hk hs (Nat.le_of_ble_eq_true rfl) rfl ?_
  cases S with
  | leaf => exact absurd rfl hS
  | inner q5 a5 c5 l5 r5 =>
    have h3 : ob_zt T V1 t nl ((!d, s9, c, P, q4) :: (!d, top, c, tt, q) :: z) (ob_mkn true q5 a5 c5 l5 r5) := by
      rw [ob_mkn_swap d q4 s9] at h2; exact h2.down (!d)
    obtain ⟨y1, y2, -⟩ := h3.foc
    have hin5 : a5 ∈ ob_zads z ++ L := by rw [← hL]; simp [ob_mem_mk, ob_ads]
    refine og_iconst (v := 0) dX4_giveBlackFrom_48 (by decide) ?_
    refine og_put dX4_giveBlackFrom_49 kfX4_61 y1 rfl rfl ?_
    have h4 := (h3.col false).up
    generalize hV2 : ob_set V1 a5 6 (ob_cv false) = V2 at h4
    refine og_w (T, V2, B, J) (by rw [← hV2]; rfl) ?_
    have fr2 : ob_fr t (ob_zads z ++ L) V0 V2 := by rw [← hV2]; exact fr1.set hin5 (by omega)
    refine og_aload_n dX4_giveBlackFrom_52 rfl rfl ?_
    refine og_iconst (v := 0) dX4_giveBlackFrom_53 (by decide) ?_
    refine og_put dX4_giveBlackFrom_54 kfX4_61 p1 rfl rfl ?_
    have h5 := h4.up
    rw [ob_mkn_swap (!d) q top, Bool.not_not, ob_mkn_swap (!d) q4 s9, Bool.not_not] at h5
    have h6 := h5.col false
    generalize hV3 : ob_set V2 top 6 (ob_cv false) = V3 at h6
    refine og_w (T, V3, B, J) (by rw [← hV3]; rfl) ?_
    have fr3 : ob_fr t (ob_zads z ++ L) V0 V3 := by rw [← hV3]; exact fr2.set htop (by omega)
    refine og_aload_n dX4_giveBlackFrom_57 rfl rfl ?_
    refine og_aload_n dX4_giveBlackFrom_58 rfl rfl ?_
    refine og_iload_n dX4_giveBlackFrom_59 rfl ?_
    refine og_callVn dX4_giveBlackFrom_60 kvX4_90 (ct_rotate h6) rfl ht rfl rfl ⟨hR.1, Nat.le_trans (by decide) hR.2⟩ hk hs (Nat.le_of_ble_eq_true rfl) rfl (fun E w' h9 => by cases h9.1) (fun v w' h9 => ?_)
    obtain ⟨hv, V', rfl, hz7, hfr7⟩ := h9
    cases hv
    have r5 := rS q5 a5 c5 l5 r5 true rfl
    have rtop : ob_rb (ob_mkn d q top false tt P) (m + 1) := ob_rb_b.mpr ⟨rt, rP⟩
    have hLL : ob_ads (ob_mkn d q4 s9 c (ob_mkn d q top false tt P) (ob_mkn true q5 a5 false l5 ‹_›)) = L := by
      rw [← hL, ← ob_ads_rot d q q4 q4 q top s9 c c c false tt P _]
      exact ob_ads_mk2 rfl (ob_ads_mk2 rfl rfl)
    refine og_return rfl dX4_giveBlackFrom_63 hk hs ⟨rfl, V', _, rfl, hz7, ?_, ob_red_mk .., hLL, ob_fr.tr fr3 hfr7 (fun a ha => ?_)⟩
    · cases c with
      | true => exact ob_rb_r.mpr ⟨ob_red_mk .., ob_red_mk .., rtop, r5⟩
      | false => exact ob_rb_b.mpr ⟨rtop, r5⟩
    · rw [← hLL]
      simp only [List.mem_append, ob_mem_mk] at ha ⊢
      grind
theorem ct_giveBlack {V : ob_V} {t nl q top q3 s m : Nat} {d c : Bool} {z : List ob_f} {tt P S : ob_t} (h : ob_zt T V t nl z (ob_mkn d q top c tt (ob_mkn d q3 s false P S))) (rt : ob_rb tt m) (rP : ob_rb P m) (rS : ob_rb S m) (hr : ob_red P = true ∨ ob_red S = true) : ob_C X mX4_giveBlackFrom 3 0 0 [.ref t, .ref s, .ref top, .int (ob_sd d)] (T, V, B, J) (ob_given T B J t nl m c z (ob_ads (ob_mkn d q top c tt (ob_mkn d q3 s false P S))) V) := by
  refine ob_C_of (by decide) rfl (Nat.le_of_ble_eq_true rfl) ?_
  have ht := h.1
  have h1 : ob_zt T V t nl ((!d, top, c, tt, q) :: z) (ob_mkn d q3 s false P S) := by
    have h9 := h; rw [ob_mkn_swap d q top] at h9; exact h9.down (!d)
  obtain ⟨s1, s2, s3, s4, s5, s6⟩ := h1.foc
  obtain ⟨⟨w1, w2⟩, w3, w4⟩ := h1.foc2
  have hblk : ∀ {tr : ob_t}, ob_rb tr m → ob_red tr = true → ∀ qx ax cx sx ux dx, tr = ob_mkn dx qx ax cx sx ux → ob_rb (ob_mkn dx qx ax false sx ux) (m + 1) := by
    intro tr h9 h8 qx ax cx sx ux dx e
    subst e
    rw [ob_red_mk] at h8
    subst h8
    obtain ⟨-, -, g3, g4⟩ := ob_rb_r.mp h9
    exact ob_rb_b.mpr ⟨g3, g4⟩
  refine og_lv [(0, .ref t), (1, .ref s), (2, .ref top), (3, .int (ob_sd d))] rfl ?_
  refine og_aload_n dX4_giveBlackFrom_0 rfl rfl ?_
  refine og_astore dX4_giveBlackFrom_1 (by decide) rfl ?_
  refine og_aload_n dX4_giveBlackFrom_3 rfl rfl ?_
  refine og_iconst (v := 1) dX4_giveBlackFrom_4 (by decide) ?_
  refine og_iload_n dX4_giveBlackFrom_5 rfl ?_
  refine og_isub dX4_giveBlackFrom_6 ?_
  refine og_st [.int (ob_sd (!d)), .ref s] (by first | (rw [← ob_sd_not]; done) | (rw [← ob_sd_not]; rfl)) ?_
  refine og_callVe dX4_giveBlackFrom_7 kvX4_58 (ct_child (d := !d) s1 s4) rfl s1 rfl rfl ⟨by decide, by decide⟩ (by decide) (by decide) (Nat.le_of_ble_eq_true rfl) rfl ?_
  cases hS : ob_red S with
  | true =>
    rw [hS] at w4
    refine og_getf dX4_giveBlackFrom_10 kfX4_61 (by assumption) (by assumption) ?_
    refine og_if_ne (tgt := 31) dX4_giveBlackFrom_13 (by decide) (fun _ => ?_) (fun z9 => absurd z9 (by decide))
    refine og_lv [(0, .ref t), (2, .ref top), (3, .int (ob_sd d)), (4, .ref s)] rfl ?_
    exact give_end (Nat.le_refl _) (Nat.le_refl _) ⟨by decide, by decide⟩ h (fun e => by rw [e] at hS; cases hS) rt rP (hblk rS hS) ob_fr.rf rfl
  | false =>
    rw [hS] at w4
    have hP : ob_red P = true := by rcases hr with h | h; exact h; rw [hS] at h; cases h
    obtain ⟨q4, p, P2, P1, rfl⟩ := ob_red_cases hP (!d)
    obtain ⟨-, -, rP2, rP1⟩ := ob_rb_r.mp rP
    rw [ob_top_mk] at s3
    refine og_getf dX4_giveBlackFrom_10 kfX4_61 (by assumption) (by assumption) ?_
    refine og_if_ne (tgt := 31) dX4_giveBlackFrom_13 (by decide) (fun z9 => absurd (rfl) z9) (fun _ => ?_)
    refine og_aload_n dX4_giveBlackFrom_16 rfl rfl ?_
    refine og_iload_n dX4_giveBlackFrom_17 rfl ?_
    refine og_callVe dX4_giveBlackFrom_18 kvX4_58 (ct_child (d := d) s1 s3) rfl s1 rfl rfl ⟨by decide, by decide⟩ (by decide) (by decide) (Nat.le_of_ble_eq_true rfl) rfl ?_
    refine og_astore dX4_giveBlackFrom_21 (by decide) rfl ?_
    refine og_aload_n dX4_giveBlackFrom_23 rfl rfl ?_
    refine og_aload_n dX4_giveBlackFrom_24 rfl rfl ?_
    refine og_iconst (v := 1) dX4_giveBlackFrom_25 (by decide) ?_
    refine og_iload_n dX4_giveBlackFrom_26 rfl ?_
    refine og_isub dX4_giveBlackFrom_27 ?_
    refine og_st [.int (ob_sd (!d)), .ref s, .ref t] (by first | (rw [← ob_sd_not]; done) | (rw [← ob_sd_not]; rfl)) ?_
    have h2 : ob_zt T V t nl ((!d, top, c, tt, q) :: z) (ob_mkn (!d) q3 s false S (ob_mkn (!d) q4 p true P2 P1)) := by
      rw [ob_mkn_swap d q3 s] at h1; exact h1
    refine og_callVn dX4_giveBlackFrom_28 kvX4_90 (ct_rotate h2) rfl ht rfl rfl ⟨by decide, by decide⟩ (by decide) (by decide) (Nat.le_of_ble_eq_true rfl) rfl (fun E w' h9 => by cases h9.1) (fun v w' h9 => ?_)
    obtain ⟨hv, V', rfl, hz3, hfr3⟩ := h9
    cases hv
    refine og_lv [(0, .ref t), (2, .ref top), (3, .int (ob_sd d)), (4, .ref p)] rfl ?_
    have hz4 := hz3.up
    rw [ob_mkn_swap (!d) q top, Bool.not_not, ob_mkn_swap (!d) q4 p, Bool.not_not] at hz4
    have hLL : ob_ads (ob_mkn d q top c tt (ob_mkn d q4 p true P1 (ob_mkn (!d) q3 s false S P2))) = ob_ads (ob_mkn d q top c tt (ob_mkn d q3 s false (ob_mkn (!d) q4 p true P2 P1) S)) := by
      refine ob_ads_mk2 rfl ?_
      rw [ob_mkn_swap d q4 p, ob_mkn_swap d q3 s]
      exact (ob_ads_rot (!d) q3 q4 q4 q3 s p false true true false S P2 P1).symm
    refine give_end (Nat.le_refl _) (Nat.le_refl _) ⟨by decide, by decide⟩ hz4 (by intro e; cases d <;> simp [ob_mkn] at e) rt rP1 ?_ ?_ hLL
    · intro qx ax cx sx ux dx e
      have h8 : ob_rb (ob_mkn (!d) q3 s false S P2) (m + 1) := ob_rb_b.mpr ⟨rS, rP2⟩
      have hc : cx = false := by have := congrArg ob_red e; rw [ob_red_mk, ob_red_mk] at this; exact this.symm
      subst hc
      rw [← e]; exact h8
    · intro a j hb
      refine hfr3 a j (fun h9 => hb (h9.imp id (fun h8 => ⟨?_, h8.2⟩)))
      have h7 := h8.1
      simp only [List.mem_append, ob_mem_mk, ob_zads, List.mem_cons] at h7 ⊢
      grind
end OBY
end
section
/-! mendMissingBlack -/
section OBZ
variable {X : ob_X} {T : ob_T} {B : ob_B} {J : ob_J} {R : Room} {k n : Nat}
/-- the end of mending a missing black -/
def ob_filled (T : ob_T) (B : ob_B) (J : ob_J) (t nl : Nat) (L : List Nat) (V : ob_V) : ob_r → ob_w → Prop := fun r w' => r = .inl none ∧ ∃ V' tt N, w' = (T, V', B, J) ∧ ob_zt T V' t nl [] tt ∧ ob_rb tt N ∧ ob_red tt = false ∧ ob_ads tt = L ∧ ob_fr t L V V'
/-- a tree that lacks one black, or whose red root may become black -/
def ob_lack (tt : ob_t) (m : Nat) : Prop := (ob_red tt = false ∧ ob_rb tt m) ∨ ∃ d q a s u, tt = ob_mkn d q a true s u ∧ ob_rb s m ∧ ob_rb u m
theorem ob_zads_len {z : List ob_f} {b : ob_t} {d c : Bool} {a q : Nat} : ob_zads ((d, a, c, b, q) :: z) = a :: (ob_ads b ++ ob_zads z) := rfl
theorem black_end {V0 V : ob_V} {t nl m : Nat} {z : List ob_f} {tt : ob_t} {L : List Nat} (hk : k ≤ R.cells) (hs : n ≤ R.slots) (h : ob_zt T V t nl z tt) (hl : ob_lack tt m) (hz : ob_zk z (m + 1)) (hx : z = [] ∨ ob_red tt = true) (hL : ob_ads (ob_plug z tt) = L) (hfr : ob_fr t L V0 V) : ob_G X mX4_mendMissingBlack R (ob_filled T B J t nl L V0) 147 [(2, .ref (ob_top nl tt))] [] (T, V, B, J) k n := by
  cases tt with
  | leaf =>
    have hn := h.2.2.2.1
    have hn1 := hn.1
    rcases hx with rfl | hx
    · refine og_aload_n dX4_mendMissingBlack_147 rfl rfl ?_
      refine og_iconst (v := 0) dX4_mendMissingBlack_148 (by decide) ?_
      refine og_put dX4_mendMissingBlack_149 kfX4_61 hn1 rfl rfl ?_
      refine og_w (T, V, B, J) ?_ ?_
      · have : ob_set V nl 6 (.int 0) = V := by
          funext b j
          by_cases h9 : b = nl ∧ j = 6
          · rw [h9.1, h9.2, ob_set_s]; exact hn.2.2.2.1.symm
          · exact if_neg h9
        exact congrArg (fun v => (T, v, B, J)) this
      exact og_return rfl dX4_mendMissingBlack_152 hk hs ⟨rfl, V, .leaf, 0, rfl, h, rfl, rfl, hL, hfr⟩
    · cases hx
  | inner q a c l r =>
    have h' : ob_zt T V t nl z (ob_mkn true q a c l r) := h
    obtain ⟨a1, a2, -⟩ := h'.foc
    have a1 : T (ob_top nl (.inner q a c l r)) = some (2, 0) := a1
    refine og_aload_n dX4_mendMissingBlack_147 rfl rfl ?_
    refine og_iconst (v := 0) dX4_mendMissingBlack_148 (by decide) ?_
    refine og_put dX4_mendMissingBlack_149 kfX4_61 a1 rfl rfl ?_
    have h2 := h'.col false
    have rb2 : ∃ M, ob_rb (ob_mkn true q a false l r) M ∧ (z = [] ∨ M = m + 1) := by
      rcases hl with ⟨h3, h4⟩ | ⟨d, q', a', s, u, e, h5, h6⟩
      · rcases hx with hx | hx
        · have : c = false := h3
          subst this
          exact ⟨m, h4, Or.inl hx⟩
        · rw [h3] at hx; cases hx
      · refine ⟨m + 1, ?_, Or.inr rfl⟩
        cases d with
        | true => simp only [ob_mkn, if_true] at e; cases e; exact ob_rb_b.mpr ⟨h5, h6⟩
        | false => simp only [ob_mkn, Bool.false_eq_true, if_false] at e; cases e; exact ob_rb_b.mpr ⟨h6, h5⟩
    obtain ⟨M, rM, hM⟩ := rb2
    have zM : ob_zk z M := by
      rcases hM with rfl | rfl
      · trivial
      · exact hz
    obtain ⟨N, g1, g2, -⟩ := ob_zk_plug (t := ob_mkn true q a false l r) zM rM (fun _ => ob_red_mk ..)
    have red0 : ob_red (ob_plug z (ob_mkn true q a false l r)) = false := by
      cases z with
      | nil => exact ob_red_mk ..
      | cons f z => exact g2 (by simp)
    refine og_return rfl dX4_mendMissingBlack_152 hk hs ⟨rfl, _, _, N, rfl, h2.whole, g1, red0, ?_, hfr.set ?_ (by omega)⟩
    · rw [← hL]; exact ob_ads_plug2 (ob_ads_col true q a false c l r)
    · rw [← hL]; simp [ob_mem_plug, ob_ads, ob_top]
theorem black_loop {V0 : ob_V} {t nl : Nat} {L : List Nat} (hR : 4 ≤ R.frames ∧ 240 ≤ R.locals) (hk : k ≤ R.cells) (hs : n ≤ R.slots) : ∀ (f : Nat) (V : ob_V) (z : List ob_f) (m i : Nat) (tt : ob_t), z.length ≤ f → z.length + i ≤ 62 → ob_zt T V t nl z tt → V (ob_top nl tt) 5 = .ref (ob_zp nl z) → ob_zk z (m + 1) → ob_lack tt m → ob_ads (ob_plug z tt) = L → ob_fr t L V0 V →
    ob_G X mX4_mendMissingBlack R (ob_filled T B J t nl L V0) 4 [(0, .ref t), (2, .ref (ob_top nl tt)), (3, .int (nI i))] [] (T, V, B, J) k n := by
  intro f
  induction f with
  | zero =>
    intro V z m i tt hf hi h h5 hz hl hL hfr
    have ez : z = [] := List.length_eq_zero_iff.mp (by omega)
    subst ez
    have ht := h.1
    have hroot : V t 2 = .ref (ob_top nl tt) := h.2.2.1
    refine og_iload_n dX4_mendMissingBlack_4 rfl ?_
    refine og_bipush (v := 64) dX4_mendMissingBlack_5 (by decide) ?_
    refine og_icmp_ge (tgt := 147) dX4_mendMissingBlack_7 (by decide) (fun z9 => absurd z9 (ob_64 (by omega))) (fun _ => ?_)
    refine og_aload_n dX4_mendMissingBlack_10 rfl rfl ?_
    refine og_aload_n dX4_mendMissingBlack_11 rfl rfl ?_
    refine og_getf dX4_mendMissingBlack_12 kfX4_33 (by assumption) (by assumption) ?_
    refine og_acmp_eq (tgt := 147) dX4_mendMissingBlack_15 (by decide) (fun _ => ?_) (fun z9 => absurd (rfl) z9)
    refine og_lv [(2, .ref (ob_top nl tt))] rfl ?_
    exact black_end hk hs h hl hz (Or.inl rfl) hL hfr
  | succ f ih =>
    intro V z m i tt hf hi h h5 hz hl hL hfr
    have ht := h.1
    cases z with
    | nil =>
      have hroot : V t 2 = .ref (ob_top nl tt) := h.2.2.1
      refine og_iload_n dX4_mendMissingBlack_4 rfl ?_
      refine og_bipush (v := 64) dX4_mendMissingBlack_5 (by decide) ?_
      refine og_icmp_ge (tgt := 147) dX4_mendMissingBlack_7 (by decide) (fun z9 => absurd z9 (ob_64 (by simp at hi; omega))) (fun _ => ?_)
      refine og_aload_n dX4_mendMissingBlack_10 rfl rfl ?_
      refine og_aload_n dX4_mendMissingBlack_11 rfl rfl ?_
      refine og_getf dX4_mendMissingBlack_12 kfX4_33 (by assumption) (by assumption) ?_
      refine og_acmp_eq (tgt := 147) dX4_mendMissingBlack_15 (by decide) (fun _ => ?_) (fun z9 => absurd (rfl) z9)
      refine og_lv [(2, .ref (ob_top nl tt))] rfl ?_
      exact black_end hk hs h hl hz (Or.inl rfl) hL hfr
    | cons fr1 z =>
      obtain ⟨d, top, c, sib, q⟩ := fr1
      have hroot := h.2.2.1
      have hn := h.2.2.2.1
      have hnd := h.2.2.2.2.2.2.2
      have hTa := h.2.2.2.2.2.2.1
      obtain ⟨lo1, -, lo6⟩ := ob_sub.top (p := ob_zp nl ((d, top, c, sib, q) :: z)) hn ⟨h.2.2.2.2.2.1, fun x hx => hTa x (by simp [hx])⟩
      have hnr : ob_top nl tt ≠ ob_top nl (ob_plug ((d, top, c, sib, q) :: z) tt) := by
        have hmem : ob_top nl (ob_plug ((d, top, c, sib, q) :: z) tt) ∈ ob_zads ((d, top, c, sib, q) :: z) := by
          have : ∀ (z : List ob_f) (t9 : ob_t), z ≠ [] → ob_top nl (ob_plug z t9) ∈ ob_zads z := by
            intro z
            induction z with
            | nil => intro _ h9; exact absurd rfl h9
            | cons f z ihz =>
              obtain ⟨d', a', c', b', q'⟩ := f
              intro t9 _
              rw [ob_plug_mk]
              cases z with
              | nil => simp [ob_plug, ob_top_mk, ob_zads]
              | cons f2 z2 =>
                have := ihz (ob_mkn d' q' a' c' t9 b') (by simp)
                rw [ob_zads_len]
                simp [this]
          exact this _ _ (by simp)
        intro e
        rw [← e] at hmem
        cases tt with
        | leaf => exact (hTa nl (by simp only [List.mem_append]; exact Or.inl hmem)).2 rfl
        | inner q9 a9 c9 l9 r9 =>
          have hmem : a9 ∈ ob_zads ((d, top, c, sib, q) :: z) := hmem
          exact (List.nodup_append.mp hnd).2.2 a9 hmem a9 (by simp [ob_ads]) rfl
      have h5 : V (ob_top nl tt) 5 = .ref top := h5
      cases hred : ob_red tt with
      | true =>
        rw [hred] at lo6
        refine og_iload_n dX4_mendMissingBlack_4 rfl ?_
        refine og_bipush (v := 64) dX4_mendMissingBlack_5 (by decide) ?_
        refine og_icmp_ge (tgt := 147) dX4_mendMissingBlack_7 (by decide) (fun z9 => absurd z9 (ob_64 (by simp at hi; omega))) (fun _ => ?_)
        refine og_aload_n dX4_mendMissingBlack_10 rfl rfl ?_
        refine og_aload_n dX4_mendMissingBlack_11 rfl rfl ?_
        refine og_getf dX4_mendMissingBlack_12 kfX4_33 (by assumption) (by assumption) ?_
        refine og_acmp_eq (tgt := 147) dX4_mendMissingBlack_15 (by decide) (fun z9 => absurd z9 (hnr)) (fun _ => ?_)
        refine og_aload_n dX4_mendMissingBlack_18 rfl rfl ?_
        refine og_getf dX4_mendMissingBlack_19 kfX4_61 (by assumption) (by assumption) ?_
        refine og_if_ne (tgt := 147) dX4_mendMissingBlack_22 (by decide) (fun _ => ?_) (fun z9 => absurd z9 (by decide))
        refine og_lv [(2, .ref (ob_top nl tt))] rfl ?_
        exact black_end hk hs h hl hz (Or.inr hred) hL hfr
      | false =>
        rw [hred] at lo6
        have rt : ob_rb tt m := by
          rcases hl with h9 | ⟨d9, q9, a9, s9, u9, e, -⟩
          · exact h9.2
          · rw [e, ob_red_mk] at hred; cases hred
        have hup := h.up
        obtain ⟨p1, p2, p3, p4, p5, p6⟩ := hup.foc
        have rsib : ob_rb sib (m + 1) := by cases c <;> exact hz.1
        have hsl : sib ≠ .leaf := fun e => by rw [e] at rsib; cases rsib
        have hlt : d = false → ob_top nl tt ≠ ob_top nl sib := by
          intro _ e
          cases sib with
          | leaf => exact hsl rfl
          | inner q9 a9 c9 l9 r9 =>
            have e : ob_top nl tt = a9 := e
            cases tt with
            | leaf => exact (hTa a9 (by simp [ob_zads, ob_ads])).2 e.symm
            | inner q8 a8 c8 l8 r8 =>
              have e : a8 = a9 := e
              exact (List.nodup_append.mp hnd).2.2 a9 (by simp [ob_zads, ob_ads]) a8 (by simp [ob_ads]) e.symm
        have hsd : V top 3 = .ref (if d then ob_top nl tt else ob_top nl sib) := by cases d <;> assumption
        obtain ⟨-, sb1, sb6⟩ := hup.foc2
        have htopL : top ∈ L := by rw [← hL]; simp [ob_plug_mk, ob_mem_plug, ob_mem_mk]
        -- behind the join at 81: the sibling is black
        have join : ∀ (V1 : ob_V) (c1 : Bool) (sib1 : ob_t) (z1 : List ob_f), ob_zt T V1 t nl ((d, top, c1, sib1, q) :: z1) tt → V1 (ob_top nl tt) 5 = .ref top → ob_zk ((d, top, c1, sib1, q) :: z1) (m + 1) → ob_red sib1 = false → ob_ads (ob_plug ((d, top, c1, sib1, q) :: z1) tt) = L → ob_fr t L V0 V1 → z1.length ≤ z.length + 1 → (c1 = true ∨ z1.length ≤ z.length) →
            ob_G X mX4_mendMissingBlack R (ob_filled T B J t nl L V0) 81 [(0, .ref t), (3, .int (nI i)), (4, .ref top), (5, .int (ob_sd d))] [] (T, V1, B, J) k n := by
          intro V1 c1 sib1 z1 hz1 h15 hzk1 hs1 hL1 hfr1 hlen1 hlen2
          have hup1 := hz1.up
          obtain ⟨x1, x2, x3, x4, x5, x6⟩ := hup1.foc
          have rs1 : ob_rb sib1 (m + 1) := by cases c1 <;> exact hzk1.1
          cases sib1 with
          | leaf => cases rs1
          | inner q3 s c3 l3 r3 =>
            have c3f : c3 = false := hs1
            subst c3f
            have hsw : ob_zt T V1 t nl ((!d, top, c1, tt, q) :: z1) (ob_mkn true q3 s false l3 r3) := by
              have h9 := hup1; rw [ob_mkn_swap d q top] at h9; exact h9.down (!d)
            obtain ⟨s1, s2, s3, s4, s5, s6⟩ := hsw.foc
            obtain ⟨⟨l1, l6⟩, r1, r6⟩ := hsw.foc2
            obtain ⟨rl3, rr3⟩ := (ob_rb_b (d := true) (q := q3) (a := s)).mp rs1
            have s3 : V1 s 3 = .ref (ob_top nl l3) := s3
            have s4 : V1 s 4 = .ref (ob_top nl r3) := s4
            have x4 : V1 top (ob_sl (!d)) = .ref s := x4
            have hsL : s ∈ L := by rw [← hL1]; simp [ob_plug_mk, ob_mem_plug, ob_mem_mk, ob_ads]
            refine og_aload dX4_mendMissingBlack_81 rfl rfl ?_
            refine og_iconst (v := 1) dX4_mendMissingBlack_83 (by decide) ?_
            refine og_iload dX4_mendMissingBlack_84 rfl ?_
            refine og_isub dX4_mendMissingBlack_86 ?_
            refine og_st [.int (ob_sd (!d)), .ref top] (by first | (rw [← ob_sd_not]; done) | (rw [← ob_sd_not]; rfl)) ?_
            refine og_callVe dX4_mendMissingBlack_87 kvX4_58 (ct_child (d := !d) x1 x4) rfl x1 rfl rfl ⟨Nat.le_trans (by decide) hR.1, Nat.le_trans (by decide) hR.2⟩ hk hs (Nat.le_of_ble_eq_true rfl) rfl ?_
            refine og_astore dX4_mendMissingBlack_90 (by decide) rfl ?_
            refine og_aload dX4_mendMissingBlack_92 rfl rfl ?_
            refine og_getf dX4_mendMissingBlack_94 kfX4_24 (by assumption) (by assumption) ?_
            refine og_lv [(0, .ref t), (3, .int (nI i)), (4, .ref top), (5, .int (ob_sd d)), (6, .ref s)] rfl ?_
            -- a red nephew
            have give : ob_red l3 = true ∨ ob_red r3 = true → ob_G X mX4_mendMissingBlack R (ob_filled T B J t nl L V0) 114 [(0, .ref t), (3, .int (nI i)), (4, .ref top), (5, .int (ob_sd d)), (6, .ref s)] [] (T, V1, B, J) k n := by
              intro hor
              have hg : ob_zt T V1 t nl z1 (ob_mkn d q top c1 tt (ob_mkn d q3 s false (if d then l3 else r3) (if d then r3 else l3))) := by
                rw [← ob_mkn_of d]; exact hup1
              have rP : ob_rb (if d then l3 else r3) m := by cases d <;> assumption
              have rS : ob_rb (if d then r3 else l3) m := by cases d <;> assumption
              have ror : ob_red (if d then l3 else r3) = true ∨ ob_red (if d then r3 else l3) = true := by cases d <;> simp <;> grind
              refine og_aload_n dX4_mendMissingBlack_114 rfl rfl ?_
              refine og_aload dX4_mendMissingBlack_115 rfl rfl ?_
              refine og_aload dX4_mendMissingBlack_117 rfl rfl ?_
              refine og_iload dX4_mendMissingBlack_119 rfl ?_
              refine og_callVn dX4_mendMissingBlack_121 kvX4_94 (ct_giveBlack hg rt rP rS ror) rfl ht rfl rfl ⟨hR.1, Nat.le_trans (by decide) hR.2⟩ hk hs (Nat.le_of_ble_eq_true rfl) rfl (fun E w' h9 => by cases h9.1) (fun v w' h9 => ?_)
              obtain ⟨hv, V2, t2, rfl, hz2, hrb2, hred2, hL2, hfr2⟩ := h9
              cases hv
              have zk2 : ob_zk z1 (if c1 then m + 1 else m + 2) := by
                cases c1 with
                | true => exact hzk1.2.2.2
                | false => exact hzk1.2
              obtain ⟨N, g1, g2, -⟩ := ob_zk_plug zk2 hrb2 (fun e => by
                cases c1 with
                | false => exact hred2
                | true =>
                  have hzb := hzk1.2.2.1
                  cases z1 with
                  | nil => exact absurd hzb id
                  | cons f9 z9 => obtain ⟨d', a', c', b', q'⟩ := f9; cases c' <;> simp [ob_zr9, ob_zb] at e hzb)
              have red0 : ob_red (ob_plug z1 t2) = false := by
                cases z1 with
                | nil =>
                  cases c1 with
                  | false => exact hred2
                  | true => exact absurd hzk1.2.2.1 id
                | cons f9 z9 => exact g2 (by simp)
              have hz3 := hz2.whole
              have hroot3 : V2 t 2 = .ref (ob_top nl (ob_plug z1 t2)) := hz3.2.2.1
              have hL3 : ob_ads (ob_plug z1 t2) = L := by
                rw [← hL1, ob_plug_mk]
                refine ob_ads_plug2 ?_
                rw [hL2, ← ob_mkn_of d]
              have hfr3 : ob_fr t L V0 V2 := ob_fr.tr hfr1 hfr2 (fun a ha => by
                rw [← hL1, ob_plug_mk]
                rw [← ob_mkn_of d] at ha
                simp only [List.mem_append, ob_mem_plug] at ha ⊢
                exact ha)
              have e2 : (T, V2, B, J).1 t = some (4, 0) := ht
              refine og_aload_n dX4_mendMissingBlack_124 rfl rfl ?_
              refine og_getf dX4_mendMissingBlack_125 kfX4_33 (by assumption) (by assumption) ?_
              refine og_astore_n dX4_mendMissingBlack_128 (by decide) rfl ?_
              refine og_goto (tgt := 141) dX4_mendMissingBlack_129 (by decide) ?_
              refine og_iinc dX4_mendMissingBlack_141 rfl (nI_1 i) (by decide) ?_
              refine og_goto (tgt := 4) dX4_mendMissingBlack_144 (by decide) ?_
              refine og_lv [(0, .ref t), (2, .ref (ob_top nl (ob_plug z1 t2))), (3, .int (nI (i + 1)))] rfl ?_
              refine og_iload_n dX4_mendMissingBlack_4 rfl ?_
              refine og_bipush (v := 64) dX4_mendMissingBlack_5 (by decide) ?_
              refine og_icmp_ge (tgt := 147) dX4_mendMissingBlack_7 (by decide) (fun z9 => absurd z9 (ob_64 (by simp at hi; omega))) (fun _ => ?_)
              refine og_aload_n dX4_mendMissingBlack_10 rfl rfl ?_
              refine og_aload_n dX4_mendMissingBlack_11 rfl rfl ?_
              refine og_getf dX4_mendMissingBlack_12 kfX4_33 (by assumption) (by assumption) ?_
              refine og_acmp_eq (tgt := 147) dX4_mendMissingBlack_15 (by decide) (fun _ => ?_) (fun z9 => absurd (rfl) z9)
              refine og_lv [(2, .ref (ob_top nl (ob_plug z1 t2)))] rfl ?_
              exact black_end (m := N) hk hs hz3 (Or.inl ⟨red0, g1⟩) trivial (Or.inl rfl) hL3 hfr3
            cases hl3 : ob_red l3 with
            | true =>
              rw [hl3] at l6
              refine og_getf dX4_mendMissingBlack_97 kfX4_61 (by assumption) (by assumption) ?_
              refine og_if_ne (tgt := 114) dX4_mendMissingBlack_100 (by decide) (fun _ => ?_) (fun z9 => absurd z9 (by decide))
              exact give (Or.inl hl3)
            | false =>
              rw [hl3] at l6
              cases hr3 : ob_red r3 with
              | true =>
                rw [hr3] at r6
                refine og_getf dX4_mendMissingBlack_97 kfX4_61 (by assumption) (by assumption) ?_
                refine og_if_ne (tgt := 114) dX4_mendMissingBlack_100 (by decide) (fun z9 => absurd (rfl) z9) (fun _ => ?_)
                refine og_aload dX4_mendMissingBlack_103 rfl rfl ?_
                refine og_getf dX4_mendMissingBlack_105 kfX4_27 (by assumption) (by assumption) ?_
                refine og_getf dX4_mendMissingBlack_108 kfX4_61 (by assumption) (by assumption) ?_
                refine og_if_eq (tgt := 132) dX4_mendMissingBlack_111 (by decide) (fun z9 => absurd z9 (by decide)) (fun _ => ?_)
                exact give (Or.inr hr3)
              | false =>
                rw [hr3] at r6
                refine og_getf dX4_mendMissingBlack_97 kfX4_61 (by assumption) (by assumption) ?_
                refine og_if_ne (tgt := 114) dX4_mendMissingBlack_100 (by decide) (fun z9 => absurd (rfl) z9) (fun _ => ?_)
                refine og_aload dX4_mendMissingBlack_103 rfl rfl ?_
                refine og_getf dX4_mendMissingBlack_105 kfX4_27 (by assumption) (by assumption) ?_
                refine og_getf dX4_mendMissingBlack_108 kfX4_61 (by assumption) (by assumption) ?_
                refine og_if_eq (tgt := 132) dX4_mendMissingBlack_111 (by decide) (fun _ => ?_) (fun z9 => absurd (rfl) z9)
                refine og_aload dX4_mendMissingBlack_132 rfl rfl ?_
                refine og_iconst (v := 1) dX4_mendMissingBlack_134 (by decide) ?_
                refine og_put dX4_mendMissingBlack_135 kfX4_61 s1 rfl rfl ?_
                have h2 := (hsw.col true).up
                rw [ob_mkn_swap (!d) q top, Bool.not_not] at h2
                generalize hV2 : ob_set V1 s 6 (ob_cv true) = V2 at h2
                refine og_w (T, V2, B, J) (by rw [← hV2]; rfl) ?_
                have hfr2 : ob_fr t L V0 V2 := by rw [← hV2]; exact hfr1.set hsL (by omega)
                obtain ⟨y1, y2, y3, y4, y5, y6⟩ := h2.foc
                refine og_aload dX4_mendMissingBlack_138 rfl rfl ?_
                refine og_astore_n dX4_mendMissingBlack_140 (by decide) rfl ?_
                refine og_iinc dX4_mendMissingBlack_141 rfl (nI_1 i) (by decide) ?_
                refine og_goto (tgt := 4) dX4_mendMissingBlack_144 (by decide) ?_
                have etop : ob_top nl (ob_mkn d q top c1 tt (ob_mkn true q3 s true l3 r3)) = top := ob_top_mk ..
                refine og_lv [(0, .ref t), (2, .ref (ob_top nl (ob_mkn d q top c1 tt (ob_mkn true q3 s true l3 r3)))), (3, .int (nI (i + 1)))] (by rw [etop]; rfl) ?_
                have rsr : ob_rb (ob_mkn true q3 s true l3 r3) m := ob_rb_r.mpr ⟨hl3, hr3, rl3, rr3⟩
                have hL2 : ob_ads (ob_plug z1 (ob_mkn d q top c1 tt (ob_mkn true q3 s true l3 r3))) = L := by
                  rw [← hL1, ob_plug_mk]
                  exact ob_ads_plug2 (ob_ads_mk2 rfl rfl)
                cases c1 with
                | true =>
                  -- red above: it becomes black at once
                  have hz9 := hzk1.2.2.2
                  have ht2 := h2.1
                  have y1' : T (ob_top nl (ob_mkn d q top true tt (ob_mkn true q3 s true l3 r3))) = some (2, 0) := by rw [etop]; exact y1
                  have y6' : V2 (ob_top nl (ob_mkn d q top true tt (ob_mkn true q3 s true l3 r3))) 6 = ob_cv true := by rw [etop]; exact y6
                  have hr9 := h2.2.2.1
                  by_cases hz0 : z1 = []
                  · subst hz0
                    exact absurd hzk1.2.2.1 id
                  · have out : ob_G X mX4_mendMissingBlack R (ob_filled T B J t nl L V0) 147 [(2, .ref (ob_top nl (ob_mkn d q top true tt (ob_mkn true q3 s true l3 r3))))] [] (T, V2, B, J) k n := black_end (m := m) hk hs h2 (Or.inr ⟨d, q, top, tt, _, rfl, rt, rsr⟩) hz9 (Or.inr (ob_red_mk ..)) hL2 hfr2
                    refine og_iload_n dX4_mendMissingBlack_4 rfl ?_
                    refine og_bipush (v := 64) dX4_mendMissingBlack_5 (by decide) ?_
                    refine og_icmp_ge (tgt := 147) dX4_mendMissingBlack_7 (by decide) (fun z9 => absurd z9 (ob_64 (by simp at hi; omega))) (fun _ => ?_)
                    refine og_aload_n dX4_mendMissingBlack_10 rfl rfl ?_
                    refine og_aload_n dX4_mendMissingBlack_11 rfl rfl ?_
                    refine og_getf dX4_mendMissingBlack_12 kfX4_33 (by assumption) (by assumption) ?_
                    refine og_acmp_eq (tgt := 147) dX4_mendMissingBlack_15 (by decide) (fun hc => ?_) (fun hc => ?_)
                    · exact og_lv _ rfl out
                    · refine og_aload_n dX4_mendMissingBlack_18 rfl rfl ?_
                      refine og_getf dX4_mendMissingBlack_19 kfX4_61 (by assumption) (by assumption) ?_
                      refine og_if_ne (tgt := 147) dX4_mendMissingBlack_22 (by decide) (fun _ => ?_) (fun z9 => absurd z9 (by decide))
                      exact og_lv _ rfl out
                | false =>
                  have hlen3 : z1.length ≤ z.length := by
                    rcases hlen2 with h9 | h9
                    · cases h9
                    · exact h9
                  refine ih V2 z1 (m + 1) (i + 1) _ ?_ ?_ h2 (by rw [etop]; exact y5) hzk1.2 (Or.inl ⟨ob_red_mk .., ob_rb_b.mpr ⟨rt, rsr⟩⟩) hL2 hfr2
                  · simp only [List.length_cons] at hf; omega
                  · simp only [List.length_cons] at hi; omega
        refine og_iload_n dX4_mendMissingBlack_4 rfl ?_
        refine og_bipush (v := 64) dX4_mendMissingBlack_5 (by decide) ?_
        refine og_icmp_ge (tgt := 147) dX4_mendMissingBlack_7 (by decide) (fun z9 => absurd z9 (ob_64 (by simp at hi; omega))) (fun _ => ?_)
        refine og_aload_n dX4_mendMissingBlack_10 rfl rfl ?_
        refine og_aload_n dX4_mendMissingBlack_11 rfl rfl ?_
        refine og_getf dX4_mendMissingBlack_12 kfX4_33 (by assumption) (by assumption) ?_
        refine og_acmp_eq (tgt := 147) dX4_mendMissingBlack_15 (by decide) (fun z9 => absurd z9 (hnr)) (fun _ => ?_)
        refine og_aload_n dX4_mendMissingBlack_18 rfl rfl ?_
        refine og_getf dX4_mendMissingBlack_19 kfX4_61 (by assumption) (by assumption) ?_
        refine og_if_ne (tgt := 147) dX4_mendMissingBlack_22 (by decide) (fun z9 => absurd (rfl) z9) (fun _ => ?_)
        refine og_aload_n dX4_mendMissingBlack_25 rfl rfl ?_
        refine og_getf dX4_mendMissingBlack_26 kfX4_30 (by assumption) (by assumption) ?_
        refine og_astore dX4_mendMissingBlack_29 (by decide) rfl ?_
        refine og_aload dX4_mendMissingBlack_31 rfl rfl ?_
        refine og_aload_n dX4_mendMissingBlack_33 rfl rfl ?_
        refine og_callVe dX4_mendMissingBlack_34 kvX4_87 (ct_sideOf p1 hsd) rfl p1 rfl rfl ⟨Nat.le_trans (by decide) hR.1, Nat.le_trans (by decide) hR.2⟩ hk hs (Nat.le_of_ble_eq_true rfl) rfl ?_
        refine og_st [.int (ob_sd d)] (by cases d with | false => simp [ob_sd, hlt rfl] | true => simp [ob_sd]) ?_
        refine og_istore dX4_mendMissingBlack_37 (by decide) ?_
        refine og_aload dX4_mendMissingBlack_39 rfl rfl ?_
        refine og_iconst (v := 1) dX4_mendMissingBlack_41 (by decide) ?_
        refine og_iload dX4_mendMissingBlack_42 rfl ?_
        refine og_isub dX4_mendMissingBlack_44 ?_
        refine og_st [.int (ob_sd (!d)), .ref top] (by first | (rw [← ob_sd_not]; done) | (rw [← ob_sd_not]; rfl)) ?_
        refine og_callVe dX4_mendMissingBlack_45 kvX4_58 (ct_child (d := !d) p1 p4) rfl p1 rfl rfl ⟨Nat.le_trans (by decide) hR.1, Nat.le_trans (by decide) hR.2⟩ hk hs (Nat.le_of_ble_eq_true rfl) rfl ?_
        cases hsr : ob_red sib with
        | false =>
          rw [hsr] at sb6
          refine og_getf dX4_mendMissingBlack_48 kfX4_61 (by assumption) (by assumption) ?_
          refine og_if_eq (tgt := 81) dX4_mendMissingBlack_51 (by decide) (fun _ => ?_) (fun z9 => absurd (rfl) z9)
          refine og_lv [(0, .ref t), (3, .int (nI i)), (4, .ref top), (5, .int (ob_sd d))] rfl ?_
          exact join V c sib z h h5 hz hsr hL hfr (by omega) (Or.inr (Nat.le_refl _))
        | true =>
          rw [hsr] at sb6
          have hcf : c = false := by
            cases c with
            | false => rfl
            | true => have := hz.2.1; rw [hsr] at this; cases this
          subst hcf
          obtain ⟨q3, s, P, S, rfl⟩ := ob_red_cases hsr d
          obtain ⟨kP, kS, rP, rS⟩ := ob_rb_r.mp rsib
          rw [ob_top_mk] at p4 sb1 sb6
          refine og_st [.ref s] (by rw [ob_top_mk]; rfl) ?_
          have hsL : s ∈ L := by rw [← hL]; simp [ob_plug_mk, ob_mem_plug, ob_mem_mk]
          refine og_getf dX4_mendMissingBlack_48 kfX4_61 (by assumption) (by assumption) ?_
          refine og_if_eq (tgt := 81) dX4_mendMissingBlack_51 (by decide) (fun z9 => absurd z9 (by decide)) (fun _ => ?_)
          refine og_aload dX4_mendMissingBlack_54 rfl rfl ?_
          refine og_iconst (v := 1) dX4_mendMissingBlack_56 (by decide) ?_
          refine og_iload dX4_mendMissingBlack_57 rfl ?_
          refine og_isub dX4_mendMissingBlack_59 ?_
          refine og_st [.int (ob_sd (!d)), .ref top] (by first | (rw [← ob_sd_not]; done) | (rw [← ob_sd_not]; rfl)) ?_
          refine og_callVe dX4_mendMissingBlack_60 kvX4_58 (ct_child (d := !d) p1 p4) rfl p1 rfl rfl ⟨Nat.le_trans (by decide) hR.1, Nat.le_trans (by decide) hR.2⟩ hk hs (Nat.le_of_ble_eq_true rfl) rfl ?_
          refine og_iconst (v := 0) dX4_mendMissingBlack_63 (by decide) ?_
          refine og_put dX4_mendMissingBlack_64 kfX4_61 sb1 rfl rfl ?_
          have hsw : ob_zt T V t nl ((!d, top, false, tt, q) :: z) (ob_mkn d q3 s true P S) := by
            have h9 := hup; rw [ob_mkn_swap d q top] at h9; exact h9.down (!d)
          have h2 := (hsw.col false).up
          rw [ob_mkn_swap (!d) q top, Bool.not_not] at h2
          generalize hV1 : ob_set V s 6 (ob_cv false) = V1 at h2
          refine og_w (T, V1, B, J) (by rw [← hV1]; rfl) ?_
          have fr1 : ob_fr t L V0 V1 := by rw [← hV1]; exact hfr.set hsL (by omega)
          refine og_aload dX4_mendMissingBlack_67 rfl rfl ?_
          refine og_iconst (v := 1) dX4_mendMissingBlack_69 (by decide) ?_
          refine og_put dX4_mendMissingBlack_70 kfX4_61 p1 rfl rfl ?_
          have h3 := h2.col true
          generalize hV2 : ob_set V1 top 6 (ob_cv true) = V2 at h3
          refine og_w (T, V2, B, J) (by rw [← hV2]; rfl) ?_
          have fr2 : ob_fr t L V0 V2 := by rw [← hV2]; exact fr1.set htopL (by omega)
          have e5 : V2 (ob_top nl tt) 5 = .ref top := by rw [← hV2, ← hV1]; simp [ob_set]; exact h5
          refine og_aload_n dX4_mendMissingBlack_73 rfl rfl ?_
          refine og_aload dX4_mendMissingBlack_74 rfl rfl ?_
          refine og_iload dX4_mendMissingBlack_76 rfl ?_
          refine og_callVn dX4_mendMissingBlack_78 kvX4_90 (ct_rotate h3) rfl ht rfl rfl ⟨Nat.le_trans (by decide) hR.1, Nat.le_trans (by decide) hR.2⟩ hk hs (Nat.le_of_ble_eq_true rfl) rfl (fun E w' h9 => by cases h9.1) (fun v w' h9 => ?_)
          obtain ⟨hv, V3, rfl, hz3, hfr3⟩ := h9
          cases hv
          refine og_lv [(0, .ref t), (3, .int (nI i)), (4, .ref top), (5, .int (ob_sd d))] rfl ?_
          have hz4 := (hz3.down d).down d
          have h35 : V3 (ob_top nl tt) 5 = .ref top := by
            cases tt with
            | inner q9 a9 c9 l9 r9 => exact hz4.2.2.2.2.2.1.2.2.1
            | leaf =>
              show V3 nl 5 = .ref top
              rw [hfr3 nl 5]
              · exact e5
              · rintro (⟨h9, h8⟩ | ⟨h9, -⟩)
                · cases h8
                · exact (h3.2.2.2.2.2.2.1 nl h9).2 rfl
          have hL3 : ob_ads (ob_plug ((d, top, true, P, q) :: (d, s, false, S, q3) :: z) tt) = L := by
            rw [← hL, ob_plug_mk, ob_plug_mk, ob_plug_mk]
            refine ob_ads_plug2 ?_
            rw [← ob_ads_rot d q q3 q3 q top s false true false true tt P S]
          refine join V3 true P ((d, s, false, S, q3) :: z) hz4 h35 ⟨rP, kP, trivial, rS, hz.2⟩ kP hL3 ?_ (by simp) (Or.inl rfl)
          refine ob_fr.tr fr2 hfr3 (fun a ha => ?_)
          rw [← hL, ob_plug_mk]
          simp only [List.mem_append, ob_mem_plug, ob_mem_mk] at ha ⊢
          grind
theorem ct_mendBlack {V : ob_V} {t nl m : Nat} {z : List ob_f} {tt : ob_t} (h : ob_zt T V t nl z tt) (h5 : V (ob_top nl tt) 5 = .ref (ob_zp nl z)) (hz : ob_zk z (m + 1)) (hl : ob_lack tt m) (hlen : z.length ≤ 60) : ob_C X mX4_mendMissingBlack 4 0 0 [.ref t, .ref (ob_top nl tt)] (T, V, B, J) (ob_filled T B J t nl (ob_ads (ob_plug z tt)) V) := by
  refine ob_C_of (by decide) rfl (Nat.le_of_ble_eq_true rfl) ?_
  refine og_aload_n dX4_mendMissingBlack_0 rfl rfl ?_
  refine og_astore_n dX4_mendMissingBlack_1 (by decide) rfl ?_
  refine og_iconst (v := 0) dX4_mendMissingBlack_2 (by decide) ?_
  refine og_istore_n dX4_mendMissingBlack_3 (by decide) ?_
  refine og_lv [(0, .ref t), (2, .ref (ob_top nl tt)), (3, .int (nI 0))] rfl ?_
  exact black_loop ⟨by decide, by decide⟩ (Nat.le_refl _) (Nat.le_refl _) _ V z m 0 tt (Nat.le_refl _) (by omega) h h5 hz hl rfl ob_fr.rf
end OBZ
end
section
/-! least, takeOver, unlink -/
theorem ob_plug_app : ∀ (z1 z2 : List ob_f) (t : ob_t), ob_plug (z1 ++ z2) t = ob_plug z2 (ob_plug z1 t)
  | [], _, _ => rfl
  | (d, a, c, b, q) :: z1, z2, t => by
    rw [List.cons_append, ob_plug_mk, ob_plug_mk]
    exact ob_plug_app z1 z2 _
theorem ob_zk_addr : ∀ (z1 z2 : List ob_f) (d : Bool) (a a' : Nat) (c : Bool) (b : ob_t) (q q' m : Nat), ob_zk (z1 ++ (d, a, c, b, q) :: z2) m → ob_zk (z1 ++ (d, a', c, b, q') :: z2) m
  | [], z2, d, a, a', c, b, q, q', m, h => by cases c <;> exact h
  | (d1, a1, true, b1, q1) :: z1, z2, d, a, a', c, b, q, q', m, h => by
    obtain ⟨h1, h2, h3, h4⟩ := h
    refine ⟨h1, h2, ?_, ob_zk_addr z1 z2 d a a' c b q q' m h4⟩
    cases z1 with
    | nil => cases c <;> exact h3
    | cons f z1 => obtain ⟨d2, a2, c2, b2, q2⟩ := f; cases c2 <;> exact h3
  | (d1, a1, false, b1, q1) :: z1, z2, d, a, a', c, b, q, q', m, h => ⟨h.1, ob_zk_addr z1 z2 d a a' c b q q' (m + 1) h.2⟩
theorem ob_zr9_addr (z1 z2 : List ob_f) (d : Bool) (a a' : Nat) (c : Bool) (b : ob_t) (q q' : Nat) (h : ob_zr9 (z1 ++ (d, a', c, b, q') :: z2)) : ob_zr9 (z1 ++ (d, a, c, b, q) :: z2) := by
  cases z1 with
  | nil => cases c <;> exact h
  | cons f z1 => obtain ⟨d2, a2, c2, b2, q2⟩ := f; cases c2 <;> exact h
/-- a child's parent is said -/
theorem ob_zt.down_app {T : ob_T} {V : ob_V} {t nl : Nat} : ∀ (zz : List ob_f) {z : List ob_f} {tt : ob_t}, ob_zt T V t nl z (ob_plug zz tt) → ob_zt T V t nl (zz ++ z) tt
  | [], z, tt, h => h
  | (d, a, c, b, q) :: zz, z, tt, h => by
    rw [ob_plug_mk] at h
    exact (ob_zt.down_app zz h).down d
section OBU
variable {X : ob_X} {T : ob_T} {B : ob_B} {J : ob_J} {R : Room} {k n : Nat}
def ob_leasted (tt : ob_t) (w : ob_w) : ob_r → ob_w → Prop := fun r w' => w' = w ∧ ∃ zz qy y cy ry, tt = ob_plug zz (.inner qy y cy .leaf ry) ∧ ob_zl zz = [] ∧ r = .inl (some (.ref y))
theorem least_loop {V : ob_V} {t nl : Nat} {t0 : ob_t} (ht : T t = some (4, 0)) (hnl : V t 1 = .ref nl) (hk : k ≤ R.cells) (hs : n ≤ R.slots) : ∀ (tt : ob_t) (z : List ob_f) (p : Nat), tt ≠ .leaf → ob_sub T V nl tt p → t0 = ob_plug z tt → ob_zl z = [] → ob_G X mX4_least R (ob_leasted t0 (T, V, B, J)) 2 [(0, .ref t), (2, .ref (ob_top nl tt))] [] (T, V, B, J) k n := by
  intro tt
  induction tt with
  | leaf => intro z p h; exact absurd rfl h
  | inner q a c l r ihl ihr =>
    intro z p _ h e0 hz
    obtain ⟨a1, a2⟩ := h.a
    have a3 := h.1.1
    refine og_aload_n dX4_least_2 rfl rfl ?_
    refine og_getf dX4_least_3 kfX4_24 (by assumption) (by assumption) ?_
    refine og_aload_n dX4_least_6 rfl rfl ?_
    refine og_getf dX4_least_7 kfX4_20 (by assumption) (by assumption) ?_
    refine og_acmp_eq (tgt := 21) dX4_least_10 (by decide) (fun hc => ?_) (fun hc => ?_)
    · have hl : l = .leaf := (ob_top_eq h.l).mp hc
      subst hl
      refine og_aload_n dX4_least_21 rfl rfl ?_
      exact og_areturn rfl (Or.inl ⟨_, rfl⟩) (Or.inr ⟨_, rfl⟩) dX4_least_22 hk hs ⟨rfl, z, q, a, c, r, e0, hz, rfl⟩
    · have hl : l ≠ .leaf := fun e => hc ((ob_top_eq h.l).mpr e)
      refine og_aload_n dX4_least_13 rfl rfl ?_
      refine og_getf dX4_least_14 kfX4_24 (by assumption) (by assumption) ?_
      refine og_astore_n dX4_least_17 (by decide) rfl ?_
      refine og_goto (tgt := 2) dX4_least_18 (by decide) ?_
      refine og_lv [(0, .ref t), (2, .ref (ob_top nl l))] rfl ?_
      exact ihl ((true, a, c, r, q) :: z) a hl h.l e0 (by simp [ob_zl, hz])
theorem ct_least {V : ob_V} {t nl p : Nat} {tt : ob_t} (ht : T t = some (4, 0)) (hnl : V t 1 = .ref nl) (h : ob_sub T V nl tt p) (hl : tt ≠ .leaf) : ob_C X mX4_least 0 0 0 [.ref t, .ref (ob_top nl tt)] (T, V, B, J) (ob_leasted tt (T, V, B, J)) := by
  refine ob_C_of (by decide) rfl (Nat.le_of_ble_eq_true rfl) ?_
  refine og_aload_n dX4_least_0 rfl rfl ?_
  refine og_astore_n dX4_least_1 (by decide) rfl ?_
  refine og_lv [(0, .ref t), (2, .ref (ob_top nl tt))] rfl ?_
  exact least_loop ht hnl (Nat.le_refl _) (Nat.le_refl _) tt [] p hl h rfl rfl
/-- takeOver: y comes where g was -/
theorem ct_takeOver {V : ob_V} {t nl q g y : Nat} {c : Bool} {z : List ob_f} {l r : ob_t} (h : ob_zt T V t nl z (.inner q g c l r)) (hl : l ≠ .leaf) (hy : T y = some (2, 0)) (hyn : y ≠ nl) (hyz : y ∉ ob_zads z ++ ob_ads (.inner q g c l r)) : ob_C X mX4_takeOver 2 0 0 [.ref t, .ref y, .ref g] (T, V, B, J) (fun w0 w' => w0 = .inl none ∧ ∃ V', w' = (T, V', B, J) ∧ ob_zt T V' t nl z (.inner q y c l r) ∧ (r = .leaf → V' nl 5 = .ref y) ∧ (r ≠ .leaf → V' nl 5 = V nl 5) ∧ ob_fr t (nl :: y :: (ob_zads z ++ ob_ads (.inner q g c l r))) V V') := by
  refine ob_C_of (by decide) rfl (Nat.le_of_ble_eq_true rfl) ?_
  obtain ⟨ht, hnl, hroot, hn, hz, ⟨g3, g4, g5, g6, g7, tl, tr⟩, hTa, hnd⟩ := h
  have hg := hTa g (by simp [ob_ads])
  have hT2 : ∀ b, T b = some (2, 0) → b ≠ t := fun b hb e => by rw [e, ht] at hb; cases hb
  have hTz : ∀ b ∈ ob_zads z, T b = some (2, 0) ∧ b ≠ nl := fun b hb => hTa b (by simp [hb])
  have hTl : ∀ b ∈ ob_ads l, T b = some (2, 0) ∧ b ≠ nl := fun b hb => hTa b (by simp [ob_ads, hb])
  have hTr : ∀ b ∈ ob_ads r, T b = some (2, 0) ∧ b ≠ nl := fun b hb => hTa b (by simp [ob_ads, hb])
  have hnd2 := hnd
  simp only [ob_ads, List.nodup_append, List.nodup_cons, List.mem_append, List.mem_cons] at hnd2
  obtain ⟨nz, ⟨nl1, ⟨nr0, nr1⟩, nlr⟩, nzz⟩ := hnd2
  simp only [ob_ads, List.mem_append, List.mem_cons, not_or] at hyz
  obtain ⟨yz, yl, yg, yr⟩ := hyz
  obtain ⟨ql, al, cl, ll, rl, rfl⟩ : ∃ ql al cl ll rl, l = .inner ql al cl ll rl := by
    cases l with
    | leaf => exact absurd rfl hl
    | inner ql al cl ll rl => exact ⟨ql, al, cl, ll, rl, rfl⟩
  have hal : al ∈ ob_ads (.inner ql al cl ll rl : ob_t) := by simp [ob_ads]
  have hal1 := (hTl al hal).1
  have hyal : y ≠ al := fun e => yl (by rw [e]; exact hal)
  have gal : g ≠ al := fun e => nlr al hal g (Or.inl rfl) e.symm
  have hr1 : T (ob_top nl r) = some (2, 0) := by
    cases r with
    | leaf => exact hn.1
    | inner qr ar cr lr rr => exact (hTr ar (by simp [ob_ads])).1
  have hgt := hT2 g hg.1
  have hyt := hT2 y hy
  have halt := hT2 al hal1
  have hrt := hT2 _ hr1
  have hnt := hT2 _ hn.1
  have hg1 := hg.1
  have hry : ob_top nl r ≠ y := by
    cases r with
    | leaf => exact Ne.symm hyn
    | inner qr ar cr lr rr => exact fun e => yr (by rw [← e]; simp [ob_ads, ob_top])
  have hrg : ob_top nl r ≠ g := by
    cases r with
    | leaf => exact Ne.symm hg.2
    | inner qr ar cr lr rr => exact fun e => nr0 (by rw [← e]; simp [ob_ads, ob_top])
  have hral : ob_top nl r ≠ al := by
    cases r with
    | leaf => exact Ne.symm (hTl al hal).2
    | inner qr ar cr lr rr => exact fun e => nlr al hal ar (Or.inr (by simp [ob_ads])) e.symm
  have g3 : V g 3 = .ref al := g3
  have hhd : ob_hd T V nl g z := by
    cases z with
    | nil => trivial
    | cons f z =>
      obtain ⟨d', a, c', b, q'⟩ := f
      obtain ⟨b1, b2⟩ := hTz a (by simp [ob_zads])
      refine ⟨b1, b2, hz.1, fun _ e => ?_⟩
      cases b with
      | leaf => exact hg.2 e
      | inner q9 a9 c9 l9 r9 => exact nzz a9 (by simp [ob_zads, ob_ads]) g (Or.inr (Or.inl rfl)) e.symm
  have hzp : ob_zp nl z ≠ g ∧ ob_zp nl z ≠ y ∧ ob_zp nl z ≠ al ∧ ob_zp nl z ≠ t := by
    cases z with
    | nil => exact ⟨Ne.symm hg.2, Ne.symm hyn, Ne.symm (hTl al hal).2, hnt⟩
    | cons f z =>
      obtain ⟨d', a, c', b, q'⟩ := f
      have ha : a ∈ ob_zads ((d', a, c', b, q') :: z) := by simp [ob_zads]
      exact ⟨fun e => nzz a ha g (Or.inr (Or.inl rfl)) e, fun e => yz (by rw [← e]; exact ha), fun e => nzz a ha al (Or.inl hal) e, hT2 a (hTz a ha).1⟩
  refine og_lv [(0, .ref t), (1, .ref y), (2, .ref g)] rfl ?_
  refine og_aload_n dX4_takeOver_0 rfl rfl ?_
  refine og_aload_n dX4_takeOver_1 rfl rfl ?_
  refine og_aload_n dX4_takeOver_2 rfl rfl ?_
  refine og_callVe dX4_takeOver_3 kvX4_77 (ct_replace (z := z) ht hnl hg.1 g5 hy hhd) rfl ht rfl rfl ⟨by decide, by decide⟩ (by decide) (by decide) (Nat.le_of_ble_eq_true rfl) rfl ?_
  generalize hV1 : ob_rep V t nl z y = V1
  have v1 : ∀ b j, b ≠ t → b ≠ y → b ≠ ob_zp nl z → V1 b j = V b j := by
    intro b j h1 h2 h3
    rw [← hV1]
    cases z with
    | nil => simp [ob_rep, ob_set, h1, h2]
    | cons f z => obtain ⟨d', a, c', b9, q'⟩ := f; simp [ob_rep, ob_set, h2, show b ≠ a from h3]
  have v1y5 : V1 y 5 = .ref (ob_zp nl z) := by
    rw [← hV1]
    cases z with
    | nil => simp [ob_rep, ob_set, ob_zp]
    | cons f z => obtain ⟨d', a, c', b9, q'⟩ := f; simp [ob_rep, ob_set, ob_zp]
  have v1g : ∀ j, V1 g j = V g j := fun j => v1 g j hgt (Ne.symm yg) (Ne.symm hzp.1)
  have k3 : V1 g 3 = .ref al := by rw [v1g]; exact g3
  refine og_aload_n dX4_takeOver_6 rfl rfl ?_
  refine og_aload_n dX4_takeOver_7 rfl rfl ?_
  refine og_getf dX4_takeOver_8 kfX4_24 (by assumption) (by assumption) ?_
  refine og_put dX4_takeOver_11 kfX4_24 hy rfl rfl ?_
  refine og_aload_n dX4_takeOver_14 rfl rfl ?_
  refine og_getf dX4_takeOver_15 kfX4_24 hy (ob_set_s _ _ _ _) ?_
  refine og_aload_n dX4_takeOver_18 rfl rfl ?_
  refine og_put dX4_takeOver_19 kfX4_30 hal1 rfl rfl ?_
  have k4 : ob_set (ob_set V1 y 3 (.ref al)) al 5 (.ref y) g 4 = .ref (ob_top nl r) := by simp [ob_set, gal, Ne.symm yg, v1g, g4]
  refine og_aload_n dX4_takeOver_22 rfl rfl ?_
  refine og_aload_n dX4_takeOver_23 rfl rfl ?_
  refine og_getf dX4_takeOver_24 kfX4_27 (by assumption) (k4) ?_
  refine og_put dX4_takeOver_27 kfX4_27 hy rfl rfl ?_
  refine og_aload_n dX4_takeOver_30 rfl rfl ?_
  refine og_getf dX4_takeOver_31 kfX4_27 hy (ob_set_s _ _ _ _) ?_
  refine og_aload_n dX4_takeOver_34 rfl rfl ?_
  refine og_put dX4_takeOver_35 kfX4_30 hr1 rfl rfl ?_
  have k6 : ob_set (ob_set (ob_set (ob_set V1 y 3 (.ref al)) al 5 (.ref y)) y 4 (.ref (ob_top nl r))) (ob_top nl r) 5 (.ref y) g 6 = ob_cv c := by simp [ob_set, gal, Ne.symm yg, v1g, g6]
  refine og_aload_n dX4_takeOver_38 rfl rfl ?_
  refine og_aload_n dX4_takeOver_39 rfl rfl ?_
  refine og_getf dX4_takeOver_40 kfX4_61 (by assumption) (k6) ?_
  refine og_put dX4_takeOver_43 kfX4_61 hy (by cases c <;> rfl) (by cases c <;> rfl) ?_
  have k7 : ob_set (ob_set (ob_set (ob_set (ob_set V1 y 3 (.ref al)) al 5 (.ref y)) y 4 (.ref (ob_top nl r))) (ob_top nl r) 5 (.ref y)) y 6 (ob_cv c) g 7 = .int (nI (ob_siz (.inner ql al cl ll rl) + ob_siz r + 1)) := by simp [ob_set, Ne.symm yg, v1g, g7]
  refine og_aload_n dX4_takeOver_46 rfl rfl ?_
  refine og_aload_n dX4_takeOver_47 rfl rfl ?_
  refine og_getf dX4_takeOver_48 kfX4_36 (by assumption) (k7) ?_
  refine og_put dX4_takeOver_51 kfX4_36 hy rfl rfl ?_
  generalize hV7 : ob_set (ob_set (ob_set (ob_set (ob_set (ob_set V1 y 3 (.ref al)) al 5 (.ref y)) y 4 (.ref (ob_top nl r))) (ob_top nl r) 5 (.ref y)) y 6 (ob_cv c)) y 7 (.int (nI (ob_siz (.inner ql al cl ll rl) + ob_siz r + 1))) = V7
  have far : ∀ b j, b ≠ t → b ≠ y → b ≠ ob_zp nl z → b ≠ al → b ≠ ob_top nl r → V7 b j = V b j := fun b j h1 h2 h3 h4 h5 => by
    rw [← v1 b j h1 h2 h3, ← hV7]; simp [ob_set, h2, h4, h5]
  have y3 : V7 y 3 = .ref al := by rw [← hV7]; simp [ob_set, hyal]
  have y4 : V7 y 4 = .ref (ob_top nl r) := by rw [← hV7]; simp [ob_set, hyal, Ne.symm hry]
  have y5 : V7 y 5 = .ref (ob_zp nl z) := by rw [← hV7]; simp [ob_set, hyal, Ne.symm hry, v1y5]
  have y6 : V7 y 6 = ob_cv c := by rw [← hV7]; simp [ob_set]
  have y7 : V7 y 7 = .int (nI (ob_siz (.inner ql al cl ll rl) + ob_siz r + 1)) := by rw [← hV7]; simp [ob_set]
  have al5 : V7 al 5 = .ref y := by rw [← hV7]; simp [ob_set, Ne.symm hyal]
  have al' : ∀ j, j ≠ 5 → V7 al j = V al j := fun j hj => by
    rw [← v1 al j halt (Ne.symm hyal) (Ne.symm hzp.2.2.1), ← hV7]; simp [ob_set, Ne.symm hyal, hj]
  have r5 : V7 (ob_top nl r) 5 = .ref y := by rw [← hV7]; simp [ob_set, hry]
  have r7 : ∀ j, j ≠ 5 → V7 (ob_top nl r) j = V1 (ob_top nl r) j := fun j hj => by rw [← hV7]; simp [ob_set, hry, hj]
  have t7 : ∀ j, V7 t j = V1 t j := fun j => by rw [← hV7]; simp [ob_set, Ne.symm hyt, Ne.symm halt, Ne.symm hrt]
  have sub7 : ∀ (tt : ob_t) (p9 : Nat), (∀ b ∈ ob_ads tt, b ≠ t ∧ b ≠ y ∧ b ≠ ob_zp nl z ∧ b ≠ al ∧ b ≠ ob_top nl r) → ob_tm V nl tt p9 → ob_tm V7 nl tt p9 := fun tt p9 h9 => ob_tm_congr (fun b hb j _ _ => by obtain ⟨h1, h2, h3, h4, h5⟩ := h9 b hb; exact far b j h1 h2 h3 h4 h5)
  have hzpl : ∀ b, b ∈ ob_ads (.inner ql al cl ll rl : ob_t) → b ≠ ob_zp nl z := by
    intro b hb e
    cases z with
    | nil => exact (hTl b hb).2 e
    | cons f z => obtain ⟨d', a, c', b9, q'⟩ := f; exact nzz a (by simp [ob_zads]) b (Or.inl hb) e.symm
  have hzpr : ∀ b, b ∈ ob_ads r → b ≠ ob_zp nl z := by
    intro b hb e
    cases z with
    | nil => exact (hTr b hb).2 e
    | cons f z => obtain ⟨d', a, c', b9, q'⟩ := f; exact nzz a (by simp [ob_zads]) b (Or.inr (Or.inr hb)) e.symm
  have hrl : ∀ b, b ∈ ob_ads (.inner ql al cl ll rl : ob_t) → b ≠ ob_top nl r := by
    intro b hb e
    cases r with
    | leaf => exact (hTl b hb).2 e
    | inner qr ar cr lr rr => exact nlr b hb ar (Or.inr (by simp [ob_ads])) e
  have nll := nl1
  simp only [ob_ads, List.nodup_append, List.nodup_cons] at nll
  have tl7 : ob_tm V7 nl (.inner ql al cl ll rl) y := by
    obtain ⟨e3, e4, e5, e6, e7, el, er⟩ := tl
    have inn : ∀ b, b ∈ ob_ads ll ∨ b ∈ ob_ads rl → b ∈ ob_ads (.inner ql al cl ll rl : ob_t) := fun b hb => by simp only [ob_ads, List.mem_append, List.mem_cons]; rcases hb with h | h <;> simp [h]
    have ok : ∀ b, b ∈ ob_ads ll ∨ b ∈ ob_ads rl → b ≠ t ∧ b ≠ y ∧ b ≠ ob_zp nl z ∧ b ≠ al ∧ b ≠ ob_top nl r := fun b hb => ⟨hT2 b (hTl b (inn b hb)).1, fun e => yl (by rw [← e]; exact inn b hb), hzpl b (inn b hb), fun e => by
      subst e
      rcases hb with h | h
      · exact nll.2.2 b h b List.mem_cons_self rfl
      · exact nll.2.1.1 h, hrl b (inn b hb)⟩
    exact ⟨by rw [al' 3 (by decide)]; exact e3, by rw [al' 4 (by decide)]; exact e4, al5, by rw [al' 6 (by decide)]; exact e6, by rw [al' 7 (by decide)]; exact e7, sub7 _ _ (fun b hb => ok b (Or.inl hb)) el, sub7 _ _ (fun b hb => ok b (Or.inr hb)) er⟩
  have tr7 : ob_tm V7 nl r y := by
    cases hre : r with
    | leaf => trivial
    | inner qr ar cr lr rr =>
      subst hre
      obtain ⟨e3, e4, e5, e6, e7, el, er⟩ := tr
      have har : ar ∈ ob_ads (.inner qr ar cr lr rr : ob_t) := by simp [ob_ads]
      have ar' : ∀ j, j ≠ 5 → V7 ar j = V ar j := fun j hj => by
        rw [← v1 ar j hrt hry (hzpr ar har)]; exact r7 j hj
      have ar5 : V7 ar 5 = .ref y := r5
      simp only [ob_ads, List.nodup_append, List.nodup_cons] at nr1
      have inn : ∀ b, b ∈ ob_ads lr ∨ b ∈ ob_ads rr → b ∈ ob_ads (.inner qr ar cr lr rr : ob_t) := fun b hb => by simp only [ob_ads, List.mem_append, List.mem_cons]; rcases hb with h | h <;> simp [h]
      have ok : ∀ b, b ∈ ob_ads lr ∨ b ∈ ob_ads rr → b ≠ t ∧ b ≠ y ∧ b ≠ ob_zp nl z ∧ b ≠ al ∧ b ≠ ob_top nl (.inner qr ar cr lr rr) := fun b hb => ⟨hT2 b (hTr b (inn b hb)).1, fun e => yr (by rw [← e]; exact inn b hb), hzpr b (inn b hb), fun e => nlr al hal b (Or.inr (inn b hb)) e.symm, fun e => by
        have e : b = ar := e
        subst e
        rcases hb with h | h
        · exact nr1.2.2 b h b List.mem_cons_self rfl
        · exact nr1.2.1.1 h⟩
      exact ⟨by rw [ar' 3 (by decide)]; exact e3, by rw [ar' 4 (by decide)]; exact e4, ar5, by rw [ar' 6 (by decide)]; exact e6, by rw [ar' 7 (by decide)]; exact e7, sub7 _ _ (fun b hb => ok b (Or.inl hb)) el, sub7 _ _ (fun b hb => ok b (Or.inr hb)) er⟩
  have hzn : ∀ b ∈ ob_zads z, b ≠ y ∧ b ≠ al ∧ b ≠ ob_top nl r ∧ b ≠ t := fun b hb => ⟨fun e => yz (by rw [← e]; exact hb), fun e => nzz b hb al (Or.inl hal) e, fun e => by
    cases r with
    | leaf => exact (hTz b hb).2 e
    | inner qr ar cr lr rr => exact nzz b hb ar (Or.inr (Or.inr (by simp [ob_ads]))) e, hT2 b (hTz b hb).1⟩
  have hz7 : ob_zm V7 nl z y (ob_siz (.inner q y c (.inner ql al cl ll rl) r)) := by
    refine ob_zm_hole (V := V) (x := g) hz nz ?_ ?_
    · cases z with
      | nil => trivial
      | cons f z =>
        obtain ⟨d', a, c', b9, q'⟩ := f
        obtain ⟨a1, a2, a3, a4⟩ := hzn a (by simp [ob_zads])
        have e1 : ∀ j, V7 a j = V1 a j := fun j => by rw [← hV7]; simp [ob_set, a1, a2, a3]
        refine ⟨?_, fun j hj => ?_⟩
        · rw [e1, ← hV1]; simp [ob_rep, ob_set, a1]
        · rw [e1, ← hV1]; simp [ob_rep, ob_set, hj, a1]
    · intro b hb hbz j
      obtain ⟨a1, a2, a3, a4⟩ := hzn b hb
      exact far b j a4 a1 hbz a2 a3
  have nilf : ∀ j, j ≠ 5 → V7 nl j = V nl j := by
    intro j hj
    have e1 : V1 nl j = V nl j := by
      rw [← hV1]
      cases z with
      | nil => simp [ob_rep, ob_set, hnt, hj]
      | cons f z =>
        obtain ⟨d', a, c', b9, q'⟩ := f
        have : nl ≠ a := (hTz a (by simp [ob_zads])).2.symm
        simp [ob_rep, ob_set, this, hj]
    rw [← e1, ← hV7]
    simp [ob_set, hj, Ne.symm hyn]
  have hnilV1 : V1 nl 5 = V nl 5 := by
    rw [← hV1]
    cases z with
    | nil => simp [ob_rep, ob_set, hnt, Ne.symm hyn]
    | cons f z =>
      obtain ⟨d', a, c', b9, q'⟩ := f
      have : nl ≠ a := (hTz a (by simp [ob_zads])).2.symm
      simp [ob_rep, ob_set, this, Ne.symm hyn]
  refine og_return rfl dX4_takeOver_54 (by decide) (by decide) ⟨rfl, V7, rfl, ⟨ht, ?_, ?_, ⟨hn.1, by rw [nilf 3 (by decide)]; exact hn.2.1, by rw [nilf 4 (by decide)]; exact hn.2.2.1, by rw [nilf 6 (by decide)]; exact hn.2.2.2.1, by rw [nilf 7 (by decide)]; exact hn.2.2.2.2⟩, hz7, ⟨y3, y4, y5, y6, y7, tl7, tr7⟩, ?_, ?_⟩, ?_, ?_, ?_⟩
  · rw [t7, ← hnl, ← hV1]
    cases z with
    | nil => simp [ob_rep, ob_set, Ne.symm hyt]
    | cons f z => obtain ⟨d', a, c', b9, q'⟩ := f; simp [ob_rep, ob_set, Ne.symm hyt, show t ≠ a from Ne.symm hzp.2.2.2]
  · rw [t7, ← hV1]
    cases z with
    | nil => simp [ob_rep, ob_set, ob_plug, ob_top, Ne.symm hyt]
    | cons f z =>
      obtain ⟨d', a, c', b9, q'⟩ := f
      have e9 : t ≠ a := Ne.symm hzp.2.2.2
      simp only [ob_rep, ob_set]
      rw [if_neg (by simp [Ne.symm hyt]), if_neg (by simp [e9]), hroot]
      congr 1
      exact ob_top_plug nl _ _ _ (by simp)
  · intro b hb
    simp only [List.mem_append, ob_ads, List.mem_cons] at hb
    have : b = y ∨ b ∈ ob_zads z ++ ob_ads (.inner q g c (.inner ql al cl ll rl) r) := by
      simp only [List.mem_append, ob_ads, List.mem_cons]; grind
    rcases this with rfl | h9
    · exact ⟨hy, hyn⟩
    · exact hTa b h9
  · simp only [ob_ads, List.nodup_append, List.nodup_cons, List.mem_append, List.mem_cons] at hnd ⊢
    simp only [ob_ads, List.mem_append, List.mem_cons] at yl
    grind
  · rintro rfl
    exact r5
  · intro hrl9
    have : nl ≠ ob_top nl r := by
      cases r with
      | leaf => exact absurd rfl hrl9
      | inner qr ar cr lr rr => exact Ne.symm (hTr ar (by simp [ob_ads])).2
    rw [← hnilV1, ← hV7]
    simp [ob_set, this, Ne.symm hyn, Ne.symm (hTl al hal).2]
  · have inA : ∀ b, b ∈ ob_zads z ++ ob_ads (.inner q g c (.inner ql al cl ll rl) r) → b ∈ nl :: y :: (ob_zads z ++ ob_ads (.inner q g c (.inner ql al cl ll rl) r)) := fun b hb => List.mem_cons_of_mem _ (List.mem_cons_of_mem _ hb)
    have iny : y ∈ nl :: y :: (ob_zads z ++ ob_ads (.inner q g c (.inner ql al cl ll rl) r)) := by simp
    have inal : al ∈ nl :: y :: (ob_zads z ++ ob_ads (.inner q g c (.inner ql al cl ll rl) r)) := inA al (by simp [ob_ads])
    have inr : ob_top nl r ∈ nl :: y :: (ob_zads z ++ ob_ads (.inner q g c (.inner ql al cl ll rl) r)) := by
      cases r with
      | leaf => simp [ob_top]
      | inner qr ar cr lr rr => exact inA ar (by simp [ob_ads])
    have f1 : ob_fr t (nl :: y :: (ob_zads z ++ ob_ads (.inner q g c (.inner ql al cl ll rl) r))) V V1 := by
      rw [← hV1]
      cases z with
      | nil => exact (ob_fr.rf.root).set iny (by omega)
      | cons f z =>
        obtain ⟨d', a, c', b9, q'⟩ := f
        have sr9 := ob_sl_rg d'
        exact (ob_fr.rf.set (inA a (by simp [ob_zads])) (by omega)).set iny (by omega)
    rw [← hV7]
    exact (((((f1.set iny (by omega)).set inal (by omega)).set iny (by omega)).set inr (by omega)).set iny (by omega)).set iny (by omega)
end OBU
end
section
/-! unlink -/
section OBV
variable {X : ob_X} {T : ob_T} {B : ob_B} {J : ob_J} {R : Room} {k n : Nat} {Q : ob_r → ob_w → Prop}
/-- one less on the way up -/
theorem dec_loop {t nl g y : Nat} (ht : T t = some (4, 0)) : ∀ (z : List ob_f) (V : ob_V) (h m : Nat), V t 1 = .ref nl → ob_zm V nl z h (m + 1) → (∀ a ∈ ob_zads z, T a = some (2, 0) ∧ a ≠ nl) → (ob_zads z).Nodup →
    (∀ V', ob_zm V' nl z h m → (∀ b j, b ∉ ob_zads z ∨ j ≠ 7 → V' b j = V b j) → ob_G X mX4_unlink R Q 63 [(0, .ref t), (1, .ref g), (2, .ref y)] [] (T, V', B, J) k n) →
    ob_G X mX4_unlink R Q 37 [(0, .ref t), (1, .ref g), (2, .ref y), (3, .ref (ob_zp nl z))] [] (T, V, B, J) k n := by
  intro z
  induction z with
  | nil =>
    intro V h m hnl hz hTa hnd kk
    refine og_aload_n dX4_unlink_37 rfl rfl ?_
    refine og_aload_n dX4_unlink_38 rfl rfl ?_
    refine og_getf dX4_unlink_39 kfX4_20 (by assumption) (by assumption) ?_
    refine og_acmp_eq (tgt := 63) dX4_unlink_42 (by decide) (fun _ => ?_) (fun z9 => absurd (rfl) z9)
    refine og_lv [(0, .ref t), (1, .ref g), (2, .ref y)] rfl ?_
    exact kk V trivial (fun _ _ _ => rfl)
  | cons f z ih =>
    obtain ⟨d, a, c, b, q⟩ := f
    intro V h m hnl hz hTa hnd kk
    rw [ob_zm_cons] at hz
    obtain ⟨e1, e2, e3, e4, e5, e6, e7⟩ := hz
    obtain ⟨a1, a2⟩ := hTa a (by simp [ob_zads])
    have hat : a ≠ t := fun e => by rw [e, ht] at a1; cases a1
    simp only [ob_zads, List.nodup_cons, List.mem_append, not_or] at hnd
    obtain ⟨⟨n1, n2⟩, n3⟩ := hnd
    refine og_lv [(0, .ref t), (1, .ref g), (2, .ref y), (3, .ref a)] rfl ?_
    refine og_aload_n dX4_unlink_37 rfl rfl ?_
    refine og_aload_n dX4_unlink_38 rfl rfl ?_
    refine og_getf dX4_unlink_39 kfX4_20 (by assumption) (by assumption) ?_
    refine og_acmp_eq (tgt := 63) dX4_unlink_42 (by decide) (fun z9 => absurd z9 (a2)) (fun _ => ?_)
    refine og_aload_n dX4_unlink_45 rfl rfl ?_
    refine og_dup dX4_unlink_46 rfl ?_
    refine og_getf dX4_unlink_47 kfX4_36 (by assumption) (by assumption) ?_
    refine og_iconst (v := 1) dX4_unlink_50 (by decide) ?_
    refine og_isub dX4_unlink_51 ?_
    refine og_put dX4_unlink_52 kfX4_36 a1 rfl rfl ?_
    generalize hV1 : ob_set V a 7 (.int (nI (m + ob_siz b + 1))) = V1
    refine og_w (T, V1, B, J) (by rw [← hV1, show m + 1 + ob_siz b + 1 = (m + ob_siz b + 1) + 1 by omega, nI_pred]) ?_
    have far : ∀ x j, x ≠ a → V1 x j = V x j := fun x j hx => by rw [← hV1]; simp [ob_set, hx]
    have own : ∀ j, j ≠ 7 → V1 a j = V a j := fun j hj => by rw [← hV1]; simp [ob_set, hj]
    have o5 : V1 a 5 = .ref (ob_zp nl z) := by rw [own 5 (by decide)]; exact e3
    refine og_aload_n dX4_unlink_55 rfl rfl ?_
    refine og_getf dX4_unlink_56 kfX4_30 (by assumption) (by assumption) ?_
    refine og_astore_n dX4_unlink_59 (by decide) rfl ?_
    refine og_goto (tgt := 37) dX4_unlink_60 (by decide) ?_
    refine og_lv [(0, .ref t), (1, .ref g), (2, .ref y), (3, .ref (ob_zp nl z))] rfl ?_
    have hz1 : ob_zm V1 nl z a (m + ob_siz b + 1 + 1) := by
      rw [show m + ob_siz b + 1 + 1 = m + 1 + ob_siz b + 1 by omega]
      exact ob_zm_congr (fun x hx j _ _ => far x j (fun e => n2 (by rw [← e]; exact hx))) e7
    refine ih V1 a (m + ob_siz b + 1) (by rw [far t 1 (Ne.symm hat)]; exact hnl) hz1 (fun x hx => hTa x (by simp [ob_zads, hx])) (List.nodup_append.mp n3).2.1 (fun V' hz' hf' => ?_)
    have ha' : ∀ j, V' a j = V1 a j := fun j => hf' a j (Or.inl n2)
    have hb' : ob_tm V' nl b a := ob_tm_congr (fun x hx j _ _ => by
      have hxz : x ∉ ob_zads z := fun h9 => (List.nodup_append.mp n3).2.2 x hx x h9 rfl
      rw [hf' x j (Or.inl hxz), far x j (fun e => n1 (by rw [← e]; exact hx))]) e6
    have sr := ob_sl_rg d
    have sr' := ob_sl_rg (!d)
    refine kk V' (ob_zm_cons.mpr ⟨by rw [ha', own _ (by omega)]; exact e1, by rw [ha', own _ (by omega)]; exact e2, by rw [ha']; exact o5, by rw [ha', own 6 (by decide)]; exact e4, by rw [ha', ← hV1, ob_set_s], hb', hz'⟩) (fun x j hx => ?_)
    by_cases hxa : x = a
    · subst hxa
      rcases hx with hx | hx
      · exact absurd (by simp [ob_zads]) hx
      · rw [ha', own j hx]
    · rw [hf' x j (by
        rcases hx with hx | hx
        · exact Or.inl (fun h9 => hx (by simp [ob_zads, h9]))
        · exact Or.inr hx), far x j hxa]
/-- the end of unlink -/
def ob_unlinked (T : ob_T) (B : ob_B) (J : ob_J) (t nl g : Nat) (L : List Nat) (V : ob_V) : ob_r → ob_w → Prop := fun r w' => r = .inl none ∧ ∃ V' tt N L1 L2, w' = (T, V', B, J) ∧ ob_tr T V' t nl tt ∧ ob_rb tt N ∧ ob_red tt = false ∧ L = L1 ++ g :: L2 ∧ ob_ads tt = L1 ++ L2 ∧ ob_fr t (nl :: L) V V'
/-- the last steps -/
theorem unlink_end {V0 V : ob_V} {t nl g y m : Nat} {Z : List ob_f} {hh : ob_t} {L L1 L2 : List Nat} {bm : Bool} (hR : 5 ≤ R.frames ∧ 300 ≤ R.locals) (hk : k ≤ R.cells) (hs : n ≤ R.slots) (h : ob_zt T V t nl Z hh) (h5 : V (ob_top nl hh) 5 = .ref (ob_zp nl Z)) (hbm : (bm = true ∧ ob_zk Z (m + 1) ∧ ob_lack hh m) ∨ (bm = false ∧ ∃ N, ob_rb (ob_plug Z hh) N ∧ ob_red (ob_plug Z hh) = false)) (hlen : Z.length ≤ 60) (hL : L = L1 ++ g :: L2) (hads : ob_ads (ob_plug Z hh) = L1 ++ L2) (hfr : ob_fr t (nl :: L) V0 V) :
    ob_G X mX4_unlink R (ob_unlinked T B J t nl g L V0) 117 [(0, .ref t), (1, .ref g), (2, .ref y), (3, .ref (ob_top nl hh)), (4, ob_cv bm)] [] (T, V, B, J) k n := by
  have fin : ∀ (V1 : ob_V) (tt : ob_t) (N : Nat), ob_zt T V1 t nl [] tt → ob_rb tt N → ob_red tt = false → ob_ads tt = L1 ++ L2 → ob_fr t (nl :: L) V0 V1 → ob_G X mX4_unlink R (ob_unlinked T B J t nl g L V0) 127 [(0, .ref t)] [] (T, V1, B, J) k n := by
    intro V1 tt N hz1 hrb1 hred1 hads1 hfr1
    obtain ⟨ht, hnl, hroot, hn, -, htm, hTa, hnd⟩ := hz1
    have hn1 := hn.1
    have hnt : nl ≠ t := fun e => by rw [e, ht] at hn1; cases hn1
    refine og_aload_n dX4_unlink_127 rfl rfl ?_
    refine og_getf dX4_unlink_128 kfX4_20 (by assumption) (by assumption) ?_
    refine og_aload_n dX4_unlink_131 rfl rfl ?_
    refine og_getf dX4_unlink_132 kfX4_20 (by assumption) (by assumption) ?_
    refine og_put dX4_unlink_135 kfX4_30 hn1 rfl rfl ?_
    have far : ∀ b j, b ≠ nl → ob_set V1 nl 5 (.ref nl) b j = V1 b j := fun b j hb => ob_set_a _ _ _ _ j hb
    have own : ∀ j, j ≠ 5 → ob_set V1 nl 5 (.ref nl) nl j = V1 nl j := fun j hj => ob_set_k _ _ _ _ _ hj
    refine og_return rfl dX4_unlink_138 hk hs ⟨rfl, _, tt, N, L1, L2, rfl, ⟨ht, by rw [far t 1 (Ne.symm hnt)]; exact hnl, by rw [far t 2 (Ne.symm hnt)]; exact hroot, ⟨hn.1, by rw [own 3 (by decide)]; exact hn.2.1, by rw [own 4 (by decide)]; exact hn.2.2.1, by rw [own 6 (by decide)]; exact hn.2.2.2.1, by rw [own 7 (by decide)]; exact hn.2.2.2.2⟩, ob_set_s _ _ _ _, ⟨ob_tm_congr (fun b hb j _ _ => far b j (hTa b (by simpa [ob_zads] using hb)).2) htm, fun a ha => hTa a (by simpa [ob_zads] using ha)⟩, by simpa [ob_zads] using hnd⟩, hrb1, hred1, hL, hads1, hfr1.set (by simp) (by omega)⟩
  have ht := h.1
  cases bm with
  | false =>
    rcases hbm with ⟨h9, -⟩ | ⟨-, N, r1, r2⟩
    · cases h9
    · refine og_iload (x := 0) dX4_unlink_117 rfl ?_
      refine og_if_eq (tgt := 127) dX4_unlink_119 (by decide) (fun _ => ?_) (fun z9 => absurd (rfl) z9)
      refine og_lv [(0, .ref t)] rfl ?_
      exact fin V _ N h.whole r1 r2 hads hfr
  | true =>
    rcases hbm with ⟨-, zk, lack⟩ | ⟨h9, -⟩
    · refine og_iload (x := 1) dX4_unlink_117 rfl ?_
      refine og_if_eq (tgt := 127) dX4_unlink_119 (by decide) (fun z9 => absurd z9 (by decide)) (fun _ => ?_)
      refine og_aload_n dX4_unlink_122 rfl rfl ?_
      refine og_aload_n dX4_unlink_123 rfl rfl ?_
      refine og_callVn dX4_unlink_124 kvX4_84 (ct_mendBlack h h5 zk lack hlen) rfl ht rfl rfl ⟨hR.1, Nat.le_trans (by decide) hR.2⟩ hk hs (Nat.le_of_ble_eq_true rfl) rfl (fun E w' h9 => by cases h9.1) (fun v w' h9 => ?_)
      obtain ⟨hv, V1, t1, N, rfl, hz1, r1, r2, hL1, hfr1⟩ := h9
      cases hv
      refine og_lv [(0, .ref t)] rfl ?_
      refine fin V1 t1 N hz1 r1 r2 (hL1.trans hads) (ob_fr.tr hfr hfr1 (fun a ha => ?_))
      rw [hads] at ha
      rw [hL]
      simp only [List.mem_cons, List.mem_append] at ha ⊢
      grind
    · cases h9
/-- the leaving node's other child -/
def ob_heir (l r : ob_t) : ob_t := match l with
  | .leaf => r
  | t => t
/-- the leaving node is cut out -/
theorem cut_out {V : ob_V} {t nl g y qy : Nat} {cy : Bool} {Z : List ob_f} {l r : ob_t} (hR : 5 ≤ R.frames ∧ 300 ≤ R.locals) (hk : k ≤ R.cells) (hs : n ≤ R.slots) (h : ob_zt T V t nl Z (.inner qy y cy l r)) (hlr : l = .leaf ∨ r = .leaf)
    (kk : ∀ V', ob_zt T V' t nl Z (ob_heir l r) → V' (ob_top nl (ob_heir l r)) 5 = .ref (ob_zp nl Z) → ob_fr t (nl :: (ob_zads Z ++ ob_ads (.inner qy y cy l r))) V V' → ob_G X mX4_unlink R Q 106 [(0, .ref t), (1, .ref g), (2, .ref y), (3, .ref (ob_top nl (ob_heir l r))), (4, ob_cv (!cy))] [] (T, V', B, J) k n) :
    ob_G X mX4_unlink R Q 34 [(0, .ref t), (1, .ref g)] [.ref y] (T, V, B, J) k n := by
  obtain ⟨ht, hnl, hroot, hn, hz, ⟨y3, y4, y5, y6, y7, tl, tr⟩, hTa, hnd⟩ := h
  obtain ⟨hy1, hyn⟩ := hTa y (by simp [ob_ads])
  have hT2 : ∀ b, T b = some (2, 0) → b ≠ t := fun b hb e => by rw [e, ht] at hb; cases hb
  have hyt := hT2 y hy1
  have hnt := hT2 nl hn.1
  have hTz : ∀ b ∈ ob_zads Z, T b = some (2, 0) ∧ b ≠ nl := fun b hb => hTa b (by simp [hb])
  have hnd2 := hnd
  simp only [ob_ads, List.nodup_append, List.nodup_cons, List.mem_append, List.mem_cons] at hnd2
  obtain ⟨nz, ⟨nl1, ⟨nr0, nr1⟩, nlr⟩, nzz⟩ := hnd2
  have hyz : y ∉ ob_zads Z := fun h9 => nzz y h9 y (Or.inr (Or.inl rfl)) rfl
  have hyl : y ∉ ob_ads l := fun h9 => nlr y h9 y (Or.inl rfl) rfl
  -- the heir
  have hhmem : ∀ b, b ∈ ob_ads (ob_heir l r) → b ∈ ob_ads l ∨ b ∈ ob_ads r := by
    intro b hb
    cases l with
    | leaf => exact Or.inr hb
    | inner q9 a9 c9 l9 r9 => exact Or.inl hb
  have hsiz : ob_siz (ob_heir l r) = ob_siz l + ob_siz r := by
    rcases hlr with rfl | rfl
    · simp [ob_heir, ob_siz]
    · cases l <;> simp [ob_heir, ob_siz]
  have htm : ob_tm V nl (ob_heir l r) y := by cases l with | leaf => exact tr | inner q9 a9 c9 l9 r9 => exact tl
  have hhT : ∀ b ∈ ob_ads (ob_heir l r), T b = some (2, 0) ∧ b ≠ nl := fun b hb => hTa b (by simp only [List.mem_append, ob_ads, List.mem_cons]; rcases hhmem b hb with h | h <;> simp [h])
  have hhz : ∀ b ∈ ob_ads (ob_heir l r), b ∉ ob_zads Z := fun b hb h9 => nzz b h9 b (by rcases hhmem b hb with h | h <;> simp [h]) rfl
  have hhy : y ∉ ob_ads (ob_heir l r) := fun h9 => by rcases hhmem y h9 with h | h; exact hyl h; exact nr0 h
  have hhnd : (ob_ads (ob_heir l r)).Nodup := by cases l with | leaf => exact nr1 | inner q9 a9 c9 l9 r9 => exact nl1
  have hht1 : T (ob_top nl (ob_heir l r)) = some (2, 0) := by
    cases hhe : ob_heir l r with
    | leaf => exact hn.1
    | inner q9 a9 c9 l9 r9 => exact (hhT a9 (by rw [hhe]; simp [ob_ads])).1
  have hhzp : ob_top nl (ob_heir l r) ≠ ob_zp nl Z ∨ (Z = [] ∧ ob_heir l r = .leaf) := by
    cases hhe : ob_heir l r with
    | leaf =>
      cases Z with
      | nil => exact Or.inr ⟨rfl, rfl⟩
      | cons f z => obtain ⟨d', a, c', b9, q'⟩ := f; exact Or.inl (Ne.symm (hTz a (by simp [ob_zads])).2)
    | inner q9 a9 c9 l9 r9 =>
      have ha9 : a9 ∈ ob_ads (ob_heir l r) := by rw [hhe]; simp [ob_ads]
      cases Z with
      | nil => exact Or.inl (hhT a9 ha9).2
      | cons f z => obtain ⟨d', a, c', b9, q'⟩ := f; exact Or.inl (fun e => hhz a9 ha9 (by rw [show a9 = a from e]; simp [ob_zads]))
  have hhty : ob_top nl (ob_heir l r) ≠ y := by
    cases hhe : ob_heir l r with
    | leaf => exact Ne.symm hyn
    | inner q9 a9 c9 l9 r9 => exact fun e => hhy (by rw [hhe, ← e]; simp [ob_ads, ob_top])
  have hhtt := hT2 _ hht1
  generalize hhh : ob_heir l r = hh at *
  refine og_astore_n dX4_unlink_34 (by decide) rfl ?_
  refine og_aload_n dX4_unlink_35 rfl rfl ?_
  refine og_astore_n dX4_unlink_36 (by decide) rfl ?_
  refine og_aload_n dX4_unlink_37 rfl rfl ?_
  refine og_aload_n dX4_unlink_38 rfl rfl ?_
  refine og_getf dX4_unlink_39 kfX4_20 (by assumption) (by assumption) ?_
  refine og_acmp_eq (tgt := 63) dX4_unlink_42 (by decide) (fun z9 => absurd z9 (hyn)) (fun _ => ?_)
  refine og_aload_n dX4_unlink_45 rfl rfl ?_
  refine og_dup dX4_unlink_46 rfl ?_
  refine og_getf dX4_unlink_47 kfX4_36 (by assumption) (by assumption) ?_
  refine og_iconst (v := 1) dX4_unlink_50 (by decide) ?_
  refine og_isub dX4_unlink_51 ?_
  refine og_put dX4_unlink_52 kfX4_36 hy1 rfl rfl ?_
  generalize hV1 : ob_set V y 7 (.int (nI (ob_siz l + ob_siz r))) = V1
  refine og_w (T, V1, B, J) (by rw [← hV1, nI_pred]) ?_
  have far1 : ∀ x j, x ≠ y → V1 x j = V x j := fun x j hx => by rw [← hV1]; simp [ob_set, hx]
  have own1 : ∀ j, j ≠ 7 → V1 y j = V y j := fun j hj => by rw [← hV1]; simp [ob_set, hj]
  have o5 : V1 y 5 = .ref (ob_zp nl Z) := by rw [own1 5 (by decide)]; exact y5
  refine og_aload_n dX4_unlink_55 rfl rfl ?_
  refine og_getf dX4_unlink_56 kfX4_30 (by assumption) (by assumption) ?_
  refine og_astore_n dX4_unlink_59 (by decide) rfl ?_
  refine og_goto (tgt := 37) dX4_unlink_60 (by decide) ?_
  refine og_lv [(0, .ref t), (1, .ref g), (2, .ref y), (3, .ref (ob_zp nl Z))] rfl ?_
  have hz1 : ob_zm V1 nl Z y (ob_siz l + ob_siz r + 1) := ob_zm_congr (fun x hx j _ _ => far1 x j (fun e => hyz (by rw [← e]; exact hx))) hz
  refine dec_loop ht Z V1 y (ob_siz l + ob_siz r) (by rw [far1 t 1 (Ne.symm hyt)]; exact hnl) hz1 hTz nz (fun V2 hz2 hf2 => ?_)
  have v2 : ∀ b j, b ≠ y → (b ∉ ob_zads Z ∨ j ≠ 7) → V2 b j = V b j := fun b j h1 h2 => by rw [hf2 b j h2, far1 b j h1]
  have v2y : ∀ j, j ≠ 7 → V2 y j = V y j := fun j hj => by rw [hf2 y j (Or.inr hj), own1 j hj]
  have tZ : t ∉ ob_zads Z := fun h9 => hT2 t (hTz t h9).1 rfl
  have nZ : nl ∉ ob_zads Z := fun h9 => (hTz nl h9).2 rfl
  have w1 : V2 t 1 = .ref nl := by rw [v2 t 1 (Ne.symm hyt) (Or.inl tZ)]; exact hnl
  have w3 : V2 y 3 = .ref (ob_top nl l) := by rw [v2y 3 (by decide)]; exact y3
  have w4 : V2 y 4 = .ref (ob_top nl r) := by rw [v2y 4 (by decide)]; exact y4
  have w5 : V2 y 5 = .ref (ob_zp nl Z) := by rw [v2y 5 (by decide)]; exact y5
  have w6 : V2 y 6 = ob_cv cy := by rw [v2y 6 (by decide)]; exact y6
  have hhd : ob_hd T V2 nl y Z := by
    cases Z with
    | nil => trivial
    | cons f z =>
      obtain ⟨d', a, c', b, q'⟩ := f
      obtain ⟨b1, b2⟩ := hTz a (by simp [ob_zads])
      refine ⟨b1, b2, hz2.1, fun _ e => ?_⟩
      cases b with
      | leaf => exact hyn e
      | inner q9 a9 c9 l9 r9 => exact hyz (by rw [show y = a9 from e]; simp [ob_zads, ob_ads])
  -- behind the two forks
  have rest : ob_G X mX4_unlink R Q 100 [(0, .ref t), (1, .ref g), (2, .ref y), (3, .ref (ob_top nl hh)), (4, ob_cv (!cy))] [] (T, V2, B, J) k n := by
    refine og_aload_n dX4_unlink_100 rfl rfl ?_
    refine og_aload_n dX4_unlink_101 rfl rfl ?_
    refine og_aload_n dX4_unlink_102 rfl rfl ?_
    refine og_callVe dX4_unlink_103 kvX4_77 (ct_replace (z := Z) ht w1 hy1 w5 hht1 hhd) rfl ht rfl rfl ⟨Nat.le_trans (by decide) hR.1, Nat.le_trans (by decide) hR.2⟩ hk hs (Nat.le_of_ble_eq_true rfl) rfl ?_
    generalize hV3 : ob_rep V2 t nl Z (ob_top nl hh) = V3
    have v3 : ∀ b j, b ≠ t → b ≠ ob_top nl hh → b ≠ ob_zp nl Z → V3 b j = V2 b j := by
      intro b j h1 h2 h3
      rw [← hV3]
      cases Z with
      | nil => simp [ob_rep, ob_set, h1, h2]
      | cons f z => obtain ⟨d', a, c', b9, q'⟩ := f; simp [ob_rep, ob_set, h2, show b ≠ a from h3]
    have v3h5 : V3 (ob_top nl hh) 5 = .ref (ob_zp nl Z) := by
      rw [← hV3]
      cases Z with
      | nil => simp [ob_rep, ob_set, ob_zp]
      | cons f z => obtain ⟨d', a, c', b9, q'⟩ := f; simp [ob_rep, ob_set, ob_zp]
    have v3h : ∀ j, j ≠ 5 → V3 (ob_top nl hh) j = V2 (ob_top nl hh) j := by
      intro j hj
      rw [← hV3]
      cases Z with
      | nil => simp [ob_rep, ob_set, hj, hhtt]
      | cons f z =>
        obtain ⟨d', a, c', b9, q'⟩ := f
        have e9 : ob_top nl hh ≠ a := by
          rcases hhzp with h9 | ⟨h9, -⟩
          · exact h9
          · cases h9
        simp [ob_rep, ob_set, hj, e9]
    have nilf : ∀ j, j ≠ 5 → V3 nl j = V nl j := by
      intro j hj
      rw [← v2 nl j (Ne.symm hyn) (Or.inl nZ), ← hV3]
      cases Z with
      | nil => simp [ob_rep, ob_set, hnt, hj]
      | cons f z =>
        obtain ⟨d', a, c', b9, q'⟩ := f
        have : nl ≠ a := (hTz a (by simp [ob_zads])).2.symm
        simp [ob_rep, ob_set, this, hj]
    have hz3 : ob_zm V3 nl Z (ob_top nl hh) (ob_siz hh) := by
      rw [hsiz]
      refine ob_zm_hole (V := V2) (x := y) hz2 nz ?_ ?_
      · cases Z with
        | nil => trivial
        | cons f z =>
          obtain ⟨d', a, c', b9, q'⟩ := f
          have e9 : a ≠ ob_top nl hh := by
            rcases hhzp with h9 | ⟨h9, -⟩
            · exact Ne.symm h9
            · cases h9
          refine ⟨?_, fun j hj => ?_⟩
          · rw [← hV3]; simp [ob_rep, ob_set, e9]
          · rw [← hV3]; simp [ob_rep, ob_set, hj, e9]
      · intro b hb hbz j
        refine v3 b j (hT2 b (hTz b hb).1) (fun e => ?_) hbz
        cases hhe : hh with
        | leaf => rw [hhe] at e; exact (hTz b hb).2 e
        | inner q9 a9 c9 l9 r9 => rw [hhe] at e; exact hhz a9 (by rw [hhe]; simp [ob_ads]) (by rw [← show b = a9 from e]; exact hb)
    have htm3 : ob_tm V3 nl hh (ob_zp nl Z) := by
      cases hhe : hh with
      | leaf => trivial
      | inner q9 a9 c9 l9 r9 =>
        subst hhe
        obtain ⟨e3, e4, e5, e6, e7, el, er⟩ := htm
        have ha9 : a9 ∈ ob_ads (.inner q9 a9 c9 l9 r9 : ob_t) := by simp [ob_ads]
        have h9y : a9 ≠ y := fun e => hhy (by rw [← e]; exact ha9)
        have a' : ∀ j, j ≠ 5 → V3 a9 j = V a9 j := fun j hj => by rw [← v2 a9 j h9y (Or.inl (hhz a9 ha9))]; exact v3h j hj
        simp only [ob_ads, List.nodup_append, List.nodup_cons] at hhnd
        have inn : ∀ b, b ∈ ob_ads l9 ∨ b ∈ ob_ads r9 → b ∈ ob_ads (.inner q9 a9 c9 l9 r9 : ob_t) := fun b hb => by simp only [ob_ads, List.mem_append, List.mem_cons]; rcases hb with h | h <;> simp [h]
        have ok : ∀ b, b ∈ ob_ads l9 ∨ b ∈ ob_ads r9 → ∀ j, V3 b j = V b j := by
          intro b hb j
          have hbi := inn b hb
          have hby : b ≠ y := fun e => hhy (by rw [← e]; exact hbi)
          rw [v3 b j (hT2 b (hhT b hbi).1) (fun e => ?_) (fun e => ?_), v2 b j hby (Or.inl (hhz b hbi))]
          · have e : b = a9 := e
            subst e
            rcases hb with h | h
            · exact hhnd.2.2 b h b List.mem_cons_self rfl
            · exact hhnd.2.1.1 h
          · cases Z with
            | nil => exact (hhT b hbi).2 e
            | cons f z => obtain ⟨d', a, c', b9, q'⟩ := f; exact hhz b hbi (by rw [show b = a from e]; simp [ob_zads])
        exact ⟨by rw [a' 3 (by decide)]; exact e3, by rw [a' 4 (by decide)]; exact e4, v3h5, by rw [a' 6 (by decide)]; exact e6, by rw [a' 7 (by decide)]; exact e7, ob_tm_congr (fun b hb j _ _ => ok b (Or.inl hb) j) el, ob_tm_congr (fun b hb j _ _ => ok b (Or.inr hb) j) er⟩
    have zpt : ob_zp nl Z ≠ t := by
      cases Z with
      | nil => exact hnt
      | cons f z => obtain ⟨d', a, c', b9, q'⟩ := f; exact hT2 a (hTz a (by simp [ob_zads])).1
    refine og_lv [(0, .ref t), (1, .ref g), (2, .ref y), (3, .ref (ob_top nl hh)), (4, ob_cv (!cy))] (by cases cy <;> rfl) ?_
    refine kk V3 ⟨ht, ?_, ?_, ⟨hn.1, by rw [nilf 3 (by decide)]; exact hn.2.1, by rw [nilf 4 (by decide)]; exact hn.2.2.1, by rw [nilf 6 (by decide)]; exact hn.2.2.2.1, by rw [nilf 7 (by decide)]; exact hn.2.2.2.2⟩, hz3, htm3, ?_, ?_⟩ v3h5 ?_
    · rw [← w1, ← hV3]
      cases Z with
      | nil => simp [ob_rep, ob_set, Ne.symm hhtt]
      | cons f z => obtain ⟨d', a, c', b9, q'⟩ := f; simp [ob_rep, ob_set, Ne.symm hhtt, show t ≠ a from Ne.symm zpt]
    · rw [← hV3]
      cases Z with
      | nil => simp [ob_rep, ob_set, ob_plug, Ne.symm hhtt]
      | cons f z =>
        obtain ⟨d', a, c', b9, q'⟩ := f
        have e9 : t ≠ a := Ne.symm zpt
        simp only [ob_rep, ob_set]
        rw [if_neg (by simp [Ne.symm hhtt]), if_neg (by simp [e9]), v2 t 2 (Ne.symm hyt) (Or.inl tZ), hroot]
        congr 1
        exact ob_top_plug nl _ _ _ (by simp)
    · intro b hb
      rcases List.mem_append.mp hb with hb | hb
      · exact hTz b hb
      · exact hhT b hb
    · rw [List.nodup_append]
      exact ⟨nz, hhnd, fun a ha b hb e => hhz b hb (by rw [← e]; exact ha)⟩
    · have inA : ∀ b, b ∈ ob_zads Z ++ ob_ads (.inner qy y cy l r) → b ∈ nl :: (ob_zads Z ++ ob_ads (.inner qy y cy l r)) := fun b hb => List.mem_cons_of_mem _ hb
      have inh : ob_top nl hh ∈ nl :: (ob_zads Z ++ ob_ads (.inner qy y cy l r)) := by
        cases hhe : hh with
        | leaf => simp [ob_top]
        | inner q9 a9 c9 l9 r9 =>
          refine inA _ ?_
          simp only [List.mem_append, ob_ads, List.mem_cons]
          rcases hhmem a9 (by rw [hhe]; simp [ob_ads]) with h | h <;> simp [ob_top, h]
      have f2 : ob_fr t (nl :: (ob_zads Z ++ ob_ads (.inner qy y cy l r))) V V2 := by
        intro b j hb
        have hb' : ¬ (b ∈ ob_zads Z ∧ j = 7) := fun h9 => hb (Or.inr ⟨inA b (by simp [h9.1]), by omega, by omega⟩)
        by_cases hby : b = y
        · subst hby
          refine v2y j (fun e => hb (Or.inr ⟨inA b (by simp [ob_ads]), by omega, by omega⟩))
        · refine v2 b j hby ?_
          by_cases h9 : b ∈ ob_zads Z
          · exact Or.inr (fun e => hb' ⟨h9, e⟩)
          · exact Or.inl h9
      rw [← hV3]
      cases Z with
      | nil => exact f2.root.set inh (by omega)
      | cons f z =>
        obtain ⟨d', a, c', b9, q'⟩ := f
        have sr9 := ob_sl_rg d'
        exact (f2.set (inA a (by simp [ob_zads])) (by omega)).set inh (by omega)
  have mid : ob_G X mX4_unlink R Q 85 [(0, .ref t), (1, .ref g), (2, .ref y)] [.ref (ob_top nl hh)] (T, V2, B, J) k n := by
    cases cy with
    | true =>
      refine og_astore_n dX4_unlink_85 (by decide) rfl ?_
      refine og_aload_n dX4_unlink_86 rfl rfl ?_
      refine og_getf dX4_unlink_87 kfX4_61 (by assumption) (by assumption) ?_
      refine og_if_ne (tgt := 97) dX4_unlink_90 (by decide) (fun _ => ?_) (fun z9 => absurd z9 (by decide))
      refine og_iconst (v := 0) dX4_unlink_97 (by decide) ?_
      refine og_istore dX4_unlink_98 (by decide) ?_
      exact og_lv _ rfl rest
    | false =>
      refine og_astore_n dX4_unlink_85 (by decide) rfl ?_
      refine og_aload_n dX4_unlink_86 rfl rfl ?_
      refine og_getf dX4_unlink_87 kfX4_61 (by assumption) (by assumption) ?_
      refine og_if_ne (tgt := 97) dX4_unlink_90 (by decide) (fun z9 => absurd (rfl) z9) (fun _ => ?_)
      refine og_iconst (v := 1) dX4_unlink_93 (by decide) ?_
      refine og_goto (tgt := 98) dX4_unlink_94 (by decide) ?_
      refine og_istore dX4_unlink_98 (by decide) ?_
      exact og_lv _ rfl rest
  refine og_aload_n dX4_unlink_63 rfl rfl ?_
  refine og_getf dX4_unlink_64 kfX4_24 (by assumption) (by assumption) ?_
  refine og_aload_n dX4_unlink_67 rfl rfl ?_
  refine og_getf dX4_unlink_68 kfX4_20 (by assumption) (by assumption) ?_
  refine og_acmp_ne (tgt := 81) dX4_unlink_71 (by decide) (fun hc => ?_) (fun hc => ?_)
  · have hl9 : hh = l := by
      rw [← hhh]
      cases l with
      | leaf => exact absurd rfl hc
      | inner q9 a9 c9 l9 r9 => rfl
    subst hl9
    refine og_aload_n dX4_unlink_81 rfl rfl ?_
    refine og_getf dX4_unlink_82 kfX4_24 (by assumption) (by assumption) ?_
    exact mid
  · have hl9 : l = .leaf := by
      cases l with
      | leaf => rfl
      | inner q9 a9 c9 l9 r9 => exact absurd hc (hTa a9 (by simp [ob_ads])).2
    have hr9 : hh = r := by rw [← hhh, hl9]; rfl
    subst hr9
    refine og_aload_n dX4_unlink_74 rfl rfl ?_
    refine og_getf dX4_unlink_75 kfX4_27 (by assumption) (by assumption) ?_
    refine og_goto (tgt := 85) dX4_unlink_78 (by decide) ?_
    exact mid
end OBV
end
section
/-! unlink, whole -/
theorem ob_zt.up_app {T : ob_T} {V : ob_V} {t nl : Nat} : ∀ (zz : List ob_f) {z : List ob_f} {tt : ob_t}, ob_zt T V t nl (zz ++ z) tt → ob_zt T V t nl z (ob_plug zz tt)
  | [], z, tt, h => h
  | (d, a, c, b, q) :: zz, z, tt, h => by
    rw [ob_plug_mk]
    exact ob_zt.up_app zz (ob_zt.up h)
theorem ob_zads_app : ∀ (z1 z2 : List ob_f), ob_zads (z1 ++ z2) = ob_zads z1 ++ ob_zads z2
  | [], _ => rfl
  | (d, a, c, b, q) :: z1, z2 => by simp [ob_zads, ob_zads_app z1 z2]
section OBU3
variable {X : ob_X} {T : ob_T} {B : ob_B} {J : ob_J} {R : Room} {k n : Nat}
/-- what is right behind the cut -/
theorem after_cut {Z Z' : List ob_f} {l r : ob_t} {qy y N : Nat} {cy : Bool} (hrb : ob_rb (ob_plug Z (.inner qy y cy l r)) N) (hred : ob_red (ob_plug Z (.inner qy y cy l r)) = false) (hlr : l = .leaf ∨ r = .leaf) (hzk : ∀ m, ob_zk Z m → ob_zk Z' m) (hzr : ob_zr9 Z' → ob_zr9 Z) (hne : Z ≠ [] → Z' ≠ []) : ((!cy) = true ∧ ob_zk Z' (0 + 1) ∧ ob_lack (ob_heir l r) 0) ∨ ((!cy) = false ∧ ∃ N, ob_rb (ob_plug Z' (ob_heir l r)) N ∧ ob_red (ob_plug Z' (ob_heir l r)) = false) := by
  obtain ⟨m, h1, h2, h3, h4⟩ := ob_plug_zk hrb hred
  cases cy with
  | true =>
    refine Or.inr ⟨rfl, ?_⟩
    obtain ⟨e1, e2, e3, e4⟩ := (ob_rb_r (d := true) (q := qy) (a := y)).mp h2
    have hh1 : ob_red (ob_heir l r) = false := by cases l with | leaf => exact e2 | inner q9 a9 c9 l9 r9 => exact e1
    have hh2 : ob_rb (ob_heir l r) m := by cases l with | leaf => exact e4 | inner q9 a9 c9 l9 r9 => exact e3
    obtain ⟨N', g1, g2, -⟩ := ob_zk_plug (t := ob_heir l r) (hzk m h1) hh2 (fun _ => hh1)
    refine ⟨N', g1, g2 (hne (fun e => ?_))⟩
    have := h4 e; cases this
  | false =>
    obtain ⟨j, rfl, e1, e2⟩ := (ob_rb_b' (d := true) (q := qy) (a := y)).mp h2
    have ej : j = 0 := by
      rcases hlr with rfl | rfl
      · exact e1
      · exact e2
    subst ej
    refine Or.inl ⟨rfl, hzk _ h1, ?_⟩
    have hh2 : ob_rb (ob_heir l r) 0 := by cases l with | leaf => exact e2 | inner q9 a9 c9 l9 r9 => exact e1
    cases hc : ob_red (ob_heir l r) with
    | false => exact Or.inl ⟨hc, hh2⟩
    | true =>
      obtain ⟨q9, a9, s9, u9, e9⟩ := ob_red_cases hc true
      rw [e9] at hh2
      obtain ⟨-, -, g3, g4⟩ := ob_rb_r.mp hh2
      exact Or.inr ⟨true, q9, a9, s9, u9, e9, g3, g4⟩
theorem ct_unlink {V : ob_V} {t nl g N : Nat} {tt : ob_t} (h : ob_tr T V t nl tt) (hg : g ∈ ob_ads tt) (hrb : ob_rb tt N) (hred : ob_red tt = false) (hsz : ob_siz tt ≤ 1024) : ob_C X mX4_unlink 5 0 0 [.ref t, .ref g] (T, V, B, J) (ob_unlinked T B J t nl g (ob_ads tt) V) := by
  obtain ⟨z0, q, c, l, r, e0⟩ := ob_split tt g [] hg
  have e0 : tt = ob_plug z0 (.inner q g c l r) := e0
  subst e0
  have hzt := h.zt
  have hsub := h.2.2.2.2.2.1
  obtain ⟨ht, hnl, hroot, hn, hz, htm, hTa, hnd⟩ := id hzt
  have hs2 : ob_sub T V nl (.inner q g c l r) (ob_zp nl z0) := ⟨htm, fun x hx => hTa x (by simp [hx])⟩
  obtain ⟨g1, g2⟩ := hs2.a
  have g3 := htm.1
  have g4 := htm.2.1
  have hlen : ∀ (Z : List ob_f) (qy y : Nat) (cy : Bool) (ly ry : ob_t), ob_plug z0 (.inner q g c l r) = ob_plug Z (.inner qy y cy ly ry) → Z.length ≤ 40 := by
    intro Z qy y cy ly ry e
    rw [e] at hrb hred hsz
    obtain ⟨m, k1, k2, k3, -⟩ := ob_plug_zk hrb hred
    exact ob_len_z k1 k2 k3 hsz
  have adsE : ob_ads (ob_plug z0 (.inner q g c l r)) = (ob_zl z0 ++ ob_ads l) ++ g :: (ob_ads r ++ ob_zr z0) := by rw [ob_ads_plug]; simp [ob_ads]
  refine ob_C_of (by decide) rfl (Nat.le_of_ble_eq_true rfl) ?_
  -- one child is wanting: the node itself leaves
  have one : (l = .leaf ∨ r = .leaf) → ob_G X mX4_unlink (ob_rm 5 0 0) (ob_unlinked T B J t nl g (ob_ads (ob_plug z0 (.inner q g c l r))) V) 22 [(0, .ref t), (1, .ref g)] [] (T, V, B, J) 0 0 := by
    intro hlr
    refine og_aload_n dX4_unlink_22 rfl rfl ?_
    refine og_goto (tgt := 34) dX4_unlink_23 (by decide) ?_
    refine cut_out ⟨by decide, by decide⟩ (by decide) (by decide) hzt hlr (fun V1 hz1 h15 hfr1 => ?_)
    refine og_aload_n dX4_unlink_106 rfl rfl ?_
    refine og_aload_n dX4_unlink_107 rfl rfl ?_
    refine og_acmp_eq (tgt := 117) dX4_unlink_108 (by decide) (fun _ => ?_) (fun z9 => absurd (rfl) z9)
    refine unlink_end (m := 0) ⟨by decide, by decide⟩ (by decide) (by decide) hz1 h15 (after_cut hrb hred hlr (fun _ h9 => h9) (fun h9 => h9) (fun h9 => h9)) (Nat.le_trans (hlen _ _ _ _ _ _ rfl) (by decide)) adsE ?_ (fun a j hb => hfr1 a j (fun h9 => hb (h9.imp id (fun h8 => ⟨?_, h8.2⟩))))
    · rw [ob_ads_plug]
      rcases hlr with rfl | rfl
      · simp [ob_heir, ob_ads]
      · cases l <;> simp [ob_heir, ob_ads]
    · have h7 := h8.1
      simp only [List.mem_cons, List.mem_append] at h7 ⊢
      rw [ob_mem_plug]
      exact h7
  refine og_lv [(0, .ref t), (1, .ref g)] rfl ?_
  refine og_aload_n dX4_unlink_0 rfl rfl ?_
  refine og_getf dX4_unlink_1 kfX4_24 (by assumption) (by assumption) ?_
  refine og_aload_n dX4_unlink_4 rfl rfl ?_
  refine og_getf dX4_unlink_5 kfX4_20 (by assumption) (by assumption) ?_
  refine og_acmp_eq (tgt := 22) dX4_unlink_8 (by decide) (fun hc => ?_) (fun hc => ?_)
  · exact one (Or.inl ((ob_top_eq hs2.l).mp hc))
  · have hl : l ≠ .leaf := fun e => hc ((ob_top_eq hs2.l).mpr e)
    refine og_aload_n dX4_unlink_11 rfl rfl ?_
    refine og_getf dX4_unlink_12 kfX4_27 (by assumption) (by assumption) ?_
    refine og_aload_n dX4_unlink_15 rfl rfl ?_
    refine og_getf dX4_unlink_16 kfX4_20 (by assumption) (by assumption) ?_
    refine og_acmp_ne (tgt := 26) dX4_unlink_19 (by decide) (fun hd => ?_) (fun hd => ?_)
    · have hr : r ≠ .leaf := fun e => hd ((ob_top_eq hs2.r).mpr e)
      refine og_aload_n dX4_unlink_26 rfl rfl ?_
      refine og_aload_n dX4_unlink_27 rfl rfl ?_
      refine og_getf dX4_unlink_28 kfX4_27 (by assumption) (by assumption) ?_
      refine og_callVn dX4_unlink_31 kvX4_73 (ct_least ht hnl hs2.r hr) rfl ht rfl rfl ⟨by decide, by decide⟩ (by decide) (by decide) (Nat.le_of_ble_eq_true rfl) rfl (fun E w' h9 => by obtain ⟨-, _, _, _, _, _, -, -, h8⟩ := h9; cases h8) (fun v w' h9 => ?_)
      obtain ⟨rfl, zz, qy, y, cy, ry, er, hzl, hv⟩ := h9
      cases hv
      have eZ : ob_plug z0 (.inner q g c l r) = ob_plug (zz ++ (false, g, c, l, q) :: z0) (.inner qy y cy .leaf ry) := by rw [ob_plug_app, ← er]; rfl
      have hZ : ob_zt T V t nl (zz ++ (false, g, c, l, q) :: z0) (.inner qy y cy .leaf ry) := by
        refine ob_zt.down_app zz ?_
        rw [← er]
        exact ob_zt.down false hzt
      have hyr : y ∈ ob_ads r := by rw [er]; exact ob_mem_plug.mpr (Or.inr (by simp [ob_ads]))
      have hyg : y ≠ g := by
        intro e
        have := hnd
        simp only [ob_ads, List.nodup_append, List.nodup_cons] at this
        exact this.2.1.2.1.1 (by rw [← e]; exact hyr)
      have hy1 := hTa y (by simp [ob_ads, hyr])
      have hyz : y ∉ ob_zads z0 ++ ob_ads (.inner q g c l (ob_plug zz ry)) := by
        have h9 := hZ.2.2.2.2.2.2.2
        rw [ob_zads_app] at h9
        simp only [ob_zads, ob_ads, List.nil_append, List.nodup_append, List.nodup_cons, List.mem_append, List.mem_cons, List.append_assoc, List.cons_append] at h9
        simp only [List.mem_append, ob_ads, List.mem_cons, ob_mem_plug]
        grind
      refine cut_out ⟨by decide, by decide⟩ (by decide) (by decide) hZ (Or.inl rfl) (fun V1 hz1 h15 hfr1 => ?_)
      have hz1' : ob_zt T V1 t nl z0 (.inner q g c l (ob_plug zz ry)) := ob_zt.up (ob_zt.up_app zz hz1)
      have hg1 := g1
      refine og_aload_n dX4_unlink_106 rfl rfl ?_
      refine og_aload_n dX4_unlink_107 rfl rfl ?_
      refine og_acmp_eq (tgt := 117) dX4_unlink_108 (by decide) (fun z9 => absurd z9 (hyg)) (fun _ => ?_)
      refine og_aload_n dX4_unlink_111 rfl rfl ?_
      refine og_aload_n dX4_unlink_112 rfl rfl ?_
      refine og_aload_n dX4_unlink_113 rfl rfl ?_
      refine og_callVn dX4_unlink_114 kvX4_81 (ct_takeOver hz1' hl hy1.1 hy1.2 hyz) rfl ht rfl rfl ⟨by decide, by decide⟩ (by decide) (by decide) (Nat.le_of_ble_eq_true rfl) rfl (fun E w' h9 => by cases h9.1) (fun v w' h9 => ?_)
      obtain ⟨hv, V2, rfl, hz2, n1, n2, hfr2⟩ := h9
      cases hv
      have hz3 : ob_zt T V2 t nl (zz ++ (false, y, c, l, q) :: z0) ry := ob_zt.down_app zz (ob_zt.down false hz2)
      have h25 : V2 (ob_top nl ry) 5 = .ref (ob_zp nl (zz ++ (false, y, c, l, q) :: z0)) := by
        cases hry : ry with
        | inner q9 a9 c9 l9 r9 => subst hry; exact hz3.2.2.2.2.2.1.2.2.1
        | leaf =>
          subst hry
          cases zz with
          | nil => exact n1 rfl
          | cons f zz =>
            obtain ⟨d', a', c', b', q'⟩ := f
            have h26 := n2 (by
              rw [ob_plug_mk]
              intro e
              have : ob_ads (ob_plug zz (ob_mkn d' q' a' c' .leaf b')) = [] := by rw [e]; rfl
              have h27 : a' ∈ ob_ads (ob_plug zz (ob_mkn d' q' a' c' .leaf b')) := ob_mem_plug.mpr (Or.inr (ob_mem_mk.mpr (Or.inl rfl)))
              rw [this] at h27; cases h27)
            show V2 nl 5 = _
            rw [h26]
            exact h15
      have memA : ∀ a, a ∈ ob_zads (zz ++ (false, g, c, l, q) :: z0) ++ ob_ads (.inner qy y cy .leaf ry) ↔ a ∈ ob_ads (ob_plug z0 (.inner q g c l r)) := by
        intro a
        rw [eZ, ob_mem_plug, List.mem_append]
      refine og_lv [(0, .ref t), (1, .ref g), (2, .ref y), (3, .ref (ob_top nl ry)), (4, ob_cv (!cy))] (by cases cy <;> rfl) ?_
      refine unlink_end (m := 0) ⟨by decide, by decide⟩ (by decide) (by decide) hz3 h25 ?_ ?_ adsE ?_ ?_
      · have := after_cut (Z := zz ++ (false, g, c, l, q) :: z0) (Z' := zz ++ (false, y, c, l, q) :: z0) (l := .leaf) (r := ry) (qy := qy) (y := y) (cy := cy) (N := N) (by rw [← eZ]; exact hrb) (by rw [← eZ]; exact hred) (Or.inl rfl) (fun m h9 => ob_zk_addr zz z0 false g y c l q q m h9) (fun h9 => ob_zr9_addr zz z0 false g y c l q q h9) (fun _ => by simp)
        exact this
      · have := hlen _ _ _ _ _ _ eZ
        simp only [List.length_append, List.length_cons] at this ⊢
        omega
      · rw [ob_plug_app, ob_plug_mk, ob_ads_plug]
        rw [er]
        simp only [ob_mkn, Bool.false_eq_true, if_false, ob_ads, ob_ads_plug, hzl]
        simp
      · refine ob_fr.tr (A := nl :: ob_ads (ob_plug z0 (.inner q g c l r))) (A' := nl :: y :: (ob_zads z0 ++ ob_ads (.inner q g c l (ob_plug zz ry)))) (V1 := V1) (fun a j hb => hfr1 a j (fun h9 => hb (h9.imp id (fun h8 => ⟨?_, h8.2⟩)))) hfr2 (fun a ha => ?_)
        · rcases List.mem_cons.mp h8.1 with h7 | h7
          · rw [h7]; simp
          · exact List.mem_cons_of_mem _ ((memA a).mp h7)
        · rcases List.mem_cons.mp ha with h7 | h7
          · rw [h7]; simp
          · refine List.mem_cons_of_mem _ ((memA a).mp ?_)
            rw [ob_zads_app]
            simp only [List.mem_cons, List.mem_append, ob_ads, ob_mem_plug, ob_zads] at h7 ⊢
            grind
    · exact one (Or.inr ((ob_top_eq hs2.r).mp hd))
end OBU3
end
section
/-! THE HEAP'S CHAIN OF BLOCKS: address, start, units, owner; joinFreeOnes, firstFit -/
abbrev ob_bk : Type := Nat × Nat × Nat × Option Nat
/-- a stretch of the chain, from v to v' -/
def ob_sg (T : ob_T) (V : ob_V) : List ob_bk → Value → Value → Prop
  | [], v, v' => v = v'
  | (b, s, u, o) :: l, v, v' => v = .ref b ∧ T b = some (0, 0) ∧ V b 0 = .int (nI s) ∧ V b 1 = .int (nI u) ∧ V b 2 = va_rf o ∧ ob_sg T V l (V b 3) v'
theorem ob_sg_app {T : ob_T} {V : ob_V} : ∀ {l1 l2 : List ob_bk} {v v' : Value}, ob_sg T V (l1 ++ l2) v v' ↔ ∃ m, ob_sg T V l1 v m ∧ ob_sg T V l2 m v'
  | [], l2, v, v' => by simp [ob_sg]
  | (b, s, u, o) :: l1, l2, v, v' => by
    simp only [List.cons_append, ob_sg, ob_sg_app]
    constructor
    · rintro ⟨h1, h2, h3, h4, h5, m, h6, h7⟩; exact ⟨m, ⟨h1, h2, h3, h4, h5, h6⟩, h7⟩
    · rintro ⟨m, ⟨h1, h2, h3, h4, h5, h6⟩, h7⟩; exact ⟨h1, h2, h3, h4, h5, m, h6, h7⟩
theorem ob_sg_congr {T : ob_T} {V V' : ob_V} : ∀ {l : List ob_bk} {v v' : Value}, (∀ a ∈ l.map (·.1), ∀ k, V' a k = V a k) → ob_sg T V l v v' → ob_sg T V' l v v'
  | [], _, _, _, h => h
  | (b, s, u, o) :: l, v, v', h, ⟨h1, h2, h3, h4, h5, h6⟩ => by
    have hb := h b (by simp)
    refine ⟨h1, h2, by rw [hb]; exact h3, by rw [hb]; exact h4, by rw [hb]; exact h5, ?_⟩
    rw [hb]
    exact ob_sg_congr (fun a ha => h a (by simp only [List.map_cons, List.mem_cons]; exact Or.inr ha)) h6
theorem ob_sg_ext {T T' : ob_T} {V : ob_V} (hT : ∀ a x, T a = some x → T' a = some x) : ∀ {l : List ob_bk} {v v' : Value}, ob_sg T V l v v' → ob_sg T' V l v v'
  | [], _, _, h => h
  | (b, s, u, o) :: l, v, v', ⟨h1, h2, h3, h4, h5, h6⟩ => ⟨h1, hT b _ h2, h3, h4, h5, ob_sg_ext hT h6⟩
/-- the blocks lie side by side from i to cap -/
def ob_til : List ob_bk → Nat → Nat → Prop
  | [], i, cap => i = cap
  | (_, s, u, _) :: l, i, cap => s = i ∧ 1 ≤ u ∧ ob_til l (i + u) cap
theorem ob_til_app : ∀ {l1 l2 : List ob_bk} {i cap : Nat}, ob_til (l1 ++ l2) i cap ↔ ∃ m, ob_til l1 i m ∧ ob_til l2 m cap
  | [], l2, i, cap => by simp [ob_til]
  | (b, s, u, o) :: l1, l2, i, cap => by
    simp only [List.cons_append, ob_til, ob_til_app]
    grind
theorem ob_til_le : ∀ {l : List ob_bk} {i cap : Nat}, ob_til l i cap → i ≤ cap ∧ ∀ e ∈ l, i ≤ e.2.1 ∧ 1 ≤ e.2.2.1 ∧ e.2.1 + e.2.2.1 ≤ cap
  | [], i, cap, h => ⟨by simp [ob_til] at h; omega, by simp⟩
  | (b, s, u, o) :: l, i, cap, ⟨h1, h2, h3⟩ => by
    obtain ⟨g1, g2⟩ := ob_til_le h3
    refine ⟨by omega, fun e he => ?_⟩
    rcases List.mem_cons.mp he with rfl | he
    · exact ⟨by simp [h1], h2, by simp; omega⟩
    · obtain ⟨k1, k2, k3⟩ := g2 e he
      exact ⟨by omega, k2, k3⟩
/-- units that have an owner -/
def ob_us : List ob_bk → Nat
  | [] => 0
  | (_, _, u, some _) :: l => u + ob_us l
  | (_, _, _, none) :: l => ob_us l
theorem ob_us_app : ∀ (l1 l2 : List ob_bk), ob_us (l1 ++ l2) = ob_us l1 + ob_us l2
  | [], _ => by simp [ob_us]
  | (b, s, u, some a) :: l1, l2 => by simp [ob_us, ob_us_app l1 l2]; omega
  | (b, s, u, none) :: l1, l2 => by simp [ob_us, ob_us_app l1 l2]
theorem ob_us_le : ∀ {l : List ob_bk} {i cap : Nat}, ob_til l i cap → i + ob_us l ≤ cap
  | [], i, cap, h => by simp [ob_til] at h; simp [ob_us]; omega
  | (b, s, u, some a) :: l, i, cap, ⟨h1, h2, h3⟩ => by have := ob_us_le h3; simp [ob_us]; omega
  | (b, s, u, none) :: l, i, cap, ⟨h1, h2, h3⟩ => by have := ob_us_le h3; simp [ob_us]; omega
/-- free ones joined to u, and the rest -/
def ob_jn : Nat → List ob_bk → Nat × List ob_bk
  | u, [] => (u, [])
  | u, (_, _, u2, none) :: l => ob_jn (u + u2) l
  | u, (b2, s2, u2, some a) :: l => (u, (b2, s2, u2, some a) :: l)
theorem ob_jn_spec : ∀ (l : List ob_bk) (u : Nat), ∃ fr, l = fr ++ (ob_jn u l).2 ∧ (∀ e ∈ fr, e.2.2.2 = none) ∧ u ≤ (ob_jn u l).1 ∧ ob_us l = ob_us (ob_jn u l).2 ∧ (∀ i cap, ob_til l (i + u) cap → ob_til (ob_jn u l).2 (i + (ob_jn u l).1) cap)
  | [], u => ⟨[], by simp [ob_jn], by simp, by simp [ob_jn], by simp [ob_jn], fun i cap h => by simpa [ob_jn] using h⟩
  | (b2, s2, u2, none) :: l, u => by
    obtain ⟨fr, h1, h2, h3, h4, h5⟩ := ob_jn_spec l (u + u2)
    refine ⟨(b2, s2, u2, none) :: fr, by simp only [ob_jn, List.cons_append]; rw [← h1], ?_, by simp only [ob_jn]; omega, by simp only [ob_jn, ob_us]; exact h4, fun i cap h => ?_⟩
    · intro e he
      rcases List.mem_cons.mp he with rfl | he
      · rfl
      · exact h2 e he
    · simp only [ob_jn]
      exact h5 i cap (by obtain ⟨-, -, h9⟩ := h; rw [← Nat.add_assoc]; exact h9)
  | (b2, s2, u2, some a) :: l, u => ⟨[], by simp [ob_jn], by simp, by simp [ob_jn], by simp [ob_jn], fun i cap h => by simpa [ob_jn] using h⟩
/-- somewhere m free units lie together (acc of them right before) -/
def ob_run (m : Nat) : Nat → List ob_bk → Bool
  | acc, [] => decide (m ≤ acc)
  | acc, (_, _, u, none) :: l => ob_run m (acc + u) l
  | acc, (_, _, _, some _) :: l => decide (m ≤ acc) || ob_run m 0 l
theorem ob_run_jn {m : Nat} (hm : 1 ≤ m) : ∀ (l : List ob_bk) (u : Nat), ob_run m u l = (decide (m ≤ (ob_jn u l).1) || ob_run m 0 (ob_jn u l).2)
  | [], u => by
    have : ¬ m ≤ 0 := by omega
    simp [ob_run, ob_jn, this]
    try rfl
  | (b2, s2, u2, none) :: l, u => by simp only [ob_run, ob_jn]; exact ob_run_jn hm l (u + u2)
  | (b2, s2, u2, some a) :: l, u => by
    have : ¬ m ≤ 0 := by omega
    simp [ob_run, ob_jn, this]
    try rfl
section OBJ
variable {X : ob_X} {T : ob_T} {V : ob_V} {B : ob_B} {J : ob_J} {R : Room} {Q : ob_r → ob_w → Prop} {k n : Nat}
theorem va_rf_ref (o : Option Nat) : (va_rf o).isRef = true := by cases o <;> rfl
theorem ob_sg_v {l : List ob_bk} {v : Value} (h : ob_sg T V l v .null) : v.isRef = true := by
  cases l with
  | nil => have : v = .null := h; rw [this]; rfl
  | cons f l => obtain ⟨b, s, u, o⟩ := f; rw [h.1]; rfl
theorem join_loop {b : Nat} (hb : T b = some (0, 0)) (hk : k ≤ R.cells) (hs : n ≤ R.slots) : ∀ (l : List ob_bk) (u : Nat) (v : Value), ob_sg T V l v .null → b ∉ l.map (·.1) →
    (∀ v', ob_sg T V (ob_jn u l).2 v' .null → Q (.inl none) (T, ob_set (ob_set V b 1 (.int (nI (ob_jn u l).1))) b 3 v', B, J)) →
    ob_G X mX1_joinFreeOnes R Q 5 [(0, .ref b), (1, v)] [] (T, ob_set V b 1 (.int (nI u)), B, J) k n := by
  intro l
  induction l with
  | nil =>
    intro u v h hnb hq
    have hv : v = .null := h
    subst hv
    refine og_aload_n dX1_joinFreeOnes_5 rfl rfl ?_
    refine og_ifnullN (tgt := 37) dX1_joinFreeOnes_6 (by decide) ?_
    refine og_aload_n dX1_joinFreeOnes_37 rfl rfl ?_
    refine og_aload_n dX1_joinFreeOnes_38 rfl rfl ?_
    refine og_put dX1_joinFreeOnes_39 kfX1_37 hb rfl rfl ?_
    exact og_return rfl dX1_joinFreeOnes_42 hk hs (hq .null rfl)
  | cons f l ih =>
    obtain ⟨b2, s2, u2, o⟩ := f
    intro u v h hnb hq
    obtain ⟨rfl, h2, h3, h4, h5, h6⟩ := id h
    have hne : b2 ≠ b := fun e => hnb (by simp [e])
    have far : ∀ j, ob_set V b 1 (.int (nI u)) b2 j = V b2 j := fun j => ob_set_a _ _ _ _ j hne
    have e2 : ob_set V b 1 (.int (nI u)) b2 2 = va_rf o := by rw [far]; exact h5
    cases o with
    | some a =>
      have e2 : ob_set V b 1 (.int (nI u)) b2 2 = .ref a := e2
      refine og_aload_n dX1_joinFreeOnes_5 rfl rfl ?_
      refine og_ifnull dX1_joinFreeOnes_6 ?_
      refine og_aload_n dX1_joinFreeOnes_9 rfl rfl ?_
      refine og_getf dX1_joinFreeOnes_10 kfX1_59 (by assumption) (by assumption) ?_
      refine og_ifnonnull (tgt := 37) dX1_joinFreeOnes_13 (by decide) ?_
      refine og_aload_n dX1_joinFreeOnes_37 rfl rfl ?_
      refine og_aload_n dX1_joinFreeOnes_38 rfl rfl ?_
      refine og_put dX1_joinFreeOnes_39 kfX1_37 hb rfl rfl ?_
      exact og_return rfl dX1_joinFreeOnes_42 hk hs (hq (.ref b2) h)
    | none =>
      have e2 : ob_set V b 1 (.int (nI u)) b2 2 = .null := e2
      have e1 : ob_set V b 1 (.int (nI u)) b 1 = .int (nI u) := ob_set_s _ _ _ _
      have e4 : ob_set V b 1 (.int (nI u)) b2 1 = .int (nI u2) := by rw [far]; exact h4
      refine og_aload_n dX1_joinFreeOnes_5 rfl rfl ?_
      refine og_ifnull dX1_joinFreeOnes_6 ?_
      refine og_aload_n dX1_joinFreeOnes_9 rfl rfl ?_
      refine og_getf dX1_joinFreeOnes_10 kfX1_59 (by assumption) (by assumption) ?_
      refine og_ifnonnullN dX1_joinFreeOnes_13 ?_
      refine og_aload_n dX1_joinFreeOnes_16 rfl rfl ?_
      refine og_dup dX1_joinFreeOnes_17 rfl ?_
      refine og_getf dX1_joinFreeOnes_18 kfX1_63 (by assumption) (by assumption) ?_
      refine og_aload_n dX1_joinFreeOnes_21 rfl rfl ?_
      refine og_getf dX1_joinFreeOnes_22 kfX1_63 (by assumption) (by assumption) ?_
      refine og_iadd dX1_joinFreeOnes_25 ?_
      refine og_put dX1_joinFreeOnes_26 kfX1_63 hb rfl rfl ?_
      refine og_w (T, ob_set V b 1 (.int (nI (u + u2))), B, J) (by
        have : ob_set (ob_set V b 1 (.int (nI u))) b 1 (.int (nI u + nI u2)) = ob_set V b 1 (.int (nI (u + u2))) := by
          rw [nI_add]; funext x j; simp only [ob_set]; split <;> rfl
        exact congrArg (fun z => (T, z, B, J)) this) ?_
      have e3 : ob_set V b 1 (.int (nI (u + u2))) b2 3 = V b2 3 := ob_set_a _ _ _ _ _ hne
      have hr : (V b2 3).isRef = true := ob_sg_v h6
      refine og_aload_n dX1_joinFreeOnes_29 rfl rfl ?_
      refine og_getf dX1_joinFreeOnes_30 kfX1_37 (by assumption) (by assumption) ?_
      refine og_astore_n dX1_joinFreeOnes_33 (by decide) hr ?_
      refine og_goto (tgt := 5) dX1_joinFreeOnes_34 (by decide) ?_
      refine og_lv [(0, .ref b), (1, V b2 3)] rfl ?_
      exact ih (u + u2) (V b2 3) h6 (fun h9 => hnb (by simp only [List.map_cons, List.mem_cons]; exact Or.inr h9)) hq
theorem ct_join {b s u : Nat} {l : List ob_bk} (h : ob_sg T V ((b, s, u, none) :: l) (.ref b) .null) (hnb : b ∉ l.map (·.1)) : ob_C X mX1_joinFreeOnes 0 0 0 [.ref b] (T, V, B, J) (fun r w' => r = .inl none ∧ ∃ v', ob_sg T V (ob_jn u l).2 v' .null ∧ w' = (T, ob_set (ob_set V b 1 (.int (nI (ob_jn u l).1))) b 3 v', B, J)) := by
  refine ob_C_of (by decide) rfl (Nat.le_of_ble_eq_true rfl) ?_
  obtain ⟨-, hb, h3, h4, h5, h6⟩ := h
  refine og_lv [(0, .ref b)] rfl ?_
  refine og_aload_n dX1_joinFreeOnes_0 rfl rfl ?_
  refine og_getf dX1_joinFreeOnes_1 kfX1_37 hb rfl ?_
  refine og_astore_n dX1_joinFreeOnes_4 (by decide) (ob_sg_v h6) ?_
  refine og_lv [(0, .ref b), (1, V b 3)] rfl ?_
  refine og_w (T, ob_set V b 1 (.int (nI u)), B, J) ?_ ?_
  · have : ob_set V b 1 (.int (nI u)) = V := by
      funext x j
      by_cases h9 : x = b ∧ j = 1
      · rw [h9.1, h9.2, ob_set_s]; exact h4.symm
      · exact if_neg h9
    rw [this]
  exact join_loop hb (Nat.le_refl _) (Nat.le_refl _) l u (V b 3) h6 hnb (fun v' hv => ⟨rfl, v', hv, rfl⟩)
/-- the chain behind the edge -/
def ob_hq (T : ob_T) (V : ob_V) (edge cap : Nat) (l : List ob_bk) : Prop := T edge = some (0, 0) ∧ ob_sg T V l (V edge 3) .null ∧ (edge :: l.map (·.1)).Nodup ∧ ob_til l 0 cap
/-- the end of firstFit: the same taken blocks; the answer fits -/
def ob_fit (T : ob_T) (V : ob_V) (B : ob_B) (J : ob_J) (edge cap m : Nat) (l : List ob_bk) : ob_r → ob_w → Prop := fun r w' => ∃ r0 V' l2, r = .inl (some (va_rf r0)) ∧ w' = (T, V', B, J) ∧ ob_hq T V' edge cap l2 ∧ ob_us l2 = ob_us l ∧ (∀ e : ob_bk, e.2.2.2 ≠ none → (e ∈ l2 ↔ e ∈ l)) ∧ (∀ a j, a ∉ l.map (·.1) → V' a j = V a j) ∧ (∀ a ∈ l2.map (·.1), a ∈ l.map (·.1)) ∧ (∀ b, r0 = some b → ∃ s u, (b, s, u, none) ∈ l2 ∧ m ≤ u) ∧ (r0 = none ↔ ob_run m 0 l = false)
theorem fit_loop {V0 : ob_V} {hp edge cap m : Nat} {l0 : List ob_bk} (hcap : cap ≤ 4096) (hm : m < 100000) (hm1 : 1 ≤ m) (hR : 1 ≤ R.frames ∧ 60 ≤ R.locals) (hk : k ≤ R.cells) (hs : n ≤ R.slots) :
    ∀ (f : Nat) (rest done : List ob_bk) (V : ob_V) (v : Value), rest.length ≤ f → T edge = some (0, 0) → ob_sg T V done (V edge 3) v → ob_sg T V rest v .null → (edge :: (done ++ rest).map (·.1)).Nodup → ob_til (done ++ rest) 0 cap → ob_us (done ++ rest) = ob_us l0 → (∀ e : ob_bk, e.2.2.2 ≠ none → (e ∈ done ++ rest ↔ e ∈ l0)) → (∀ a j, a ∉ l0.map (·.1) → V a j = V0 a j) → (∀ a ∈ (done ++ rest).map (·.1), a ∈ l0.map (·.1)) → ob_run m 0 l0 = ob_run m 0 rest →
    ob_G X mX1_firstFit R (ob_fit T V0 B J edge cap m l0) 8 [(0, .ref hp), (1, .int (nI m)), (2, v)] [] (T, V, B, J) k n := by
  intro f
  induction f with
  | zero =>
    intro rest done V v hf hed hd hr hnd htil hus hta hfr hsub hrun
    have er : rest = [] := List.length_eq_zero_iff.mp (by omega)
    subst er
    have hv : v = .null := hr
    subst hv
    refine og_aload_n dX1_firstFit_8 rfl rfl ?_
    refine og_ifnullN (tgt := 41) dX1_firstFit_9 (by decide) ?_
    refine og_null dX1_firstFit_41 ?_
    rw [List.append_nil] at hnd htil hus hta hsub
    exact og_areturn rfl (Or.inl ⟨_, rfl⟩) (Or.inl rfl) dX1_firstFit_42 hk hs ⟨none, V, done, rfl, rfl, ⟨hed, hd, hnd, htil⟩, hus, hta, hfr, hsub, fun b h => (by cases h), fun _ => (by rw [hrun]; simp [ob_run]; omega), fun _ => rfl⟩
  | succ f ih =>
    intro rest done V v hf hed hd hr hnd htil hus hta hfr hsub hrun
    cases rest with
    | nil =>
      have hv : v = .null := hr
      subst hv
      refine og_aload_n dX1_firstFit_8 rfl rfl ?_
      refine og_ifnullN (tgt := 41) dX1_firstFit_9 (by decide) ?_
      refine og_null dX1_firstFit_41 ?_
      rw [List.append_nil] at hnd htil hus hta hsub
      exact og_areturn rfl (Or.inl ⟨_, rfl⟩) (Or.inl rfl) dX1_firstFit_42 hk hs ⟨none, V, done, rfl, rfl, ⟨hed, hd, hnd, htil⟩, hus, hta, hfr, hsub, fun b h => (by cases h), fun _ => (by rw [hrun]; simp [ob_run]; omega), fun _ => rfl⟩
    | cons e rest =>
      obtain ⟨b, s, u, o⟩ := e
      obtain ⟨rfl, h2, h3, h4, h5, h6⟩ := id hr
      have hnd2 := hnd
      simp only [List.map_append, List.map_cons, List.nodup_cons, List.nodup_append, List.mem_append, List.mem_cons] at hnd2
      cases o with
      | some a =>
        have h5 : V b 2 = .ref a := h5
        have hrf := ob_sg_v h6
        refine og_aload_n dX1_firstFit_8 rfl rfl ?_
        refine og_ifnull dX1_firstFit_9 ?_
        refine og_aload_n dX1_firstFit_12 rfl rfl ?_
        refine og_getf dX1_firstFit_13 kfX1_59 (by assumption) (by assumption) ?_
        refine og_ifnonnull (tgt := 33) dX1_firstFit_16 (by decide) ?_
        refine og_aload_n dX1_firstFit_33 rfl rfl ?_
        refine og_getf dX1_firstFit_34 kfX1_37 h2 rfl ?_
        refine og_astore_n dX1_firstFit_37 (by decide) hrf ?_
        refine og_goto (tgt := 8) dX1_firstFit_38 (by decide) ?_
        refine og_lv [(0, .ref hp), (1, .int (nI m)), (2, V b 3)] rfl ?_
        refine ih rest (done ++ [(b, s, u, some a)]) V (V b 3) (by simp only [List.length_cons] at hf; omega) hed (ob_sg_app.mpr ⟨_, hd, rfl, h2, h3, h4, h5, rfl⟩) h6 ?_ ?_ ?_ ?_ hfr ?_ (by rw [hrun]; simp [ob_run]; omega)
        all_goals (rw [List.append_assoc]; assumption)
      | none =>
        have h5 : V b 2 = .null := h5
        have hb' : b ∉ rest.map (·.1) := fun h9 => hnd2.2.2.1.1 h9
        refine og_aload_n dX1_firstFit_8 rfl rfl ?_
        refine og_ifnull dX1_firstFit_9 ?_
        refine og_aload_n dX1_firstFit_12 rfl rfl ?_
        refine og_getf dX1_firstFit_13 kfX1_59 (by assumption) (by assumption) ?_
        refine og_ifnonnullN dX1_firstFit_16 ?_
        refine og_aload_n dX1_firstFit_19 rfl rfl ?_
        refine og_callSn dX1_firstFit_20 ksX1_93 (ct_join hr hb') rfl rfl ⟨hR.1, Nat.le_trans (by decide) hR.2⟩ hk hs (Nat.le_of_ble_eq_true rfl) rfl (fun E w' h9 => by cases h9.1) (fun v w' h9 => ?_)
        obtain ⟨hv, v', hv', rfl⟩ := h9
        cases hv
        obtain ⟨fr, j1, j2, j3, j4, j5⟩ := ob_jn_spec rest u
        generalize hu' : (ob_jn u rest).1 = u' at *
        generalize hr' : (ob_jn u rest).2 = rest' at *
        obtain ⟨mid, tm1, tm2, tm3, tm4⟩ := ob_til_app.mp htil
        have tm4' := j5 mid cap tm4
        have hb1 : ∀ x j, x ≠ b → ob_set (ob_set V b 1 (.int (nI u'))) b 3 v' x j = V x j := fun x j hx => by simp [ob_set, hx]
        generalize hV1 : ob_set (ob_set V b 1 (.int (nI u'))) b 3 v' = V1 at *
        have b0 : V1 b 0 = .int (nI s) := by rw [← hV1]; simp [ob_set, h3]
        have b1 : V1 b 1 = .int (nI u') := by rw [← hV1]; simp [ob_set]
        have b2 : V1 b 2 = .null := by rw [← hV1]; simp [ob_set, h5]
        have b3 : V1 b 3 = v' := by rw [← hV1]; simp [ob_set]
        have eb : edge ≠ b := fun e => hnd2.1 (Or.inr (Or.inl e))
        have hrr : ∀ x ∈ rest'.map (·.1), x ∈ rest.map (·.1) := fun x hx => by rw [j1, List.map_append]; exact List.mem_append_right _ hx
        have hd1 : ob_sg T V1 done (V1 edge 3) (.ref b) := by
          rw [hb1 edge 3 eb]
          exact ob_sg_congr (fun x hx j => hb1 x j (fun e => hnd2.2.2.2 x hx b (Or.inl rfl) e)) hd
        have hr1 : ob_sg T V1 rest' v' .null := ob_sg_congr (fun x hx j => hb1 x j (fun e => hb' (by rw [← e]; exact hrr x hx))) hv'
        have hfr1 : ∀ a j, a ∉ l0.map (·.1) → V1 a j = V0 a j := fun a j ha => by
          rw [hb1 a j (fun e => ha (hsub a (by rw [e]; simp)))]; exact hfr a j ha
        have til1 : ob_til (done ++ (b, s, u', none) :: rest') 0 cap := ob_til_app.mpr ⟨mid, tm1, tm2, by omega, tm4'⟩
        have hle := (ob_til_le til1).2 (b, s, u', none) (by simp)
        have hle' : u' ≤ 4096 := by simp at hle; omega
        have nd1 : (edge :: (done ++ (b, s, u', none) :: rest').map (·.1)).Nodup := by
          have hfrr : (rest.map (·.1)).Nodup := hnd2.2.2.1.2
          rw [j1, List.map_append, List.nodup_append] at hfrr
          simp only [List.map_append, List.map_cons, List.nodup_cons, List.nodup_append, List.mem_append, List.mem_cons]
          refine ⟨?_, hnd2.2.1, ⟨fun h9 => hb' (hrr b h9), hfrr.2.1⟩, ?_⟩
          · rintro (h9 | h9 | h9)
            · exact hnd2.1 (Or.inl h9)
            · exact hnd2.1 (Or.inr (Or.inl h9))
            · exact hnd2.1 (Or.inr (Or.inr (hrr edge h9)))
          · intro x hx y hy
            refine hnd2.2.2.2 x hx y ?_
            rcases hy with h9 | h9
            · exact Or.inl h9
            · exact Or.inr (hrr y h9)
        have us1 : ob_us (done ++ (b, s, u', none) :: rest') = ob_us l0 := by
          rw [← hus, ob_us_app, ob_us_app]; simp only [ob_us]; omega
        have ta1 : ∀ e : ob_bk, e.2.2.2 ≠ none → (e ∈ done ++ (b, s, u', none) :: rest' ↔ e ∈ l0) := by
          intro e he
          rw [← hta e he]
          simp only [List.mem_append, List.mem_cons]
          rw [j1]
          simp only [List.mem_append]
          have n1 : e ≠ (b, s, u', none) := fun h9 => he (by rw [h9])
          have n2 : e ≠ (b, s, u, none) := fun h9 => he (by rw [h9])
          have n3 : e ∉ fr := fun h9 => he (j2 e h9)
          simp [n1, n2, n3]
        have sub1 : ∀ a ∈ (done ++ (b, s, u', none) :: rest').map (·.1), a ∈ l0.map (·.1) := by
          intro a ha
          refine hsub a ?_
          simp only [List.map_append, List.map_cons, List.mem_append, List.mem_cons] at ha ⊢
          rcases ha with h9 | h9 | h9
          · exact Or.inl h9
          · exact Or.inr (Or.inl h9)
          · exact Or.inr (Or.inr (hrr a h9))
        have hrun2 : ob_run m 0 l0 = (decide (m ≤ u') || ob_run m 0 rest') := by rw [hrun, ← hu', ← hr', ← ob_run_jn hm1]; simp [ob_run]
        refine og_aload_n dX1_firstFit_23 rfl rfl ?_
        refine og_getf dX1_firstFit_24 kfX1_63 (by assumption) (by assumption) ?_
        refine og_iload_n dX1_firstFit_27 rfl ?_
        refine og_icmp_lt (tgt := 33) dX1_firstFit_28 (by decide) (fun hc => ?_) (fun hc => ?_)
        · have hlt9 : ¬ m ≤ u' := fun h9 => absurd hc (nI_nlt h9 (by omega))
          have hrf : (V1 b 3).isRef = true := by rw [b3]; exact ob_sg_v hr1
          refine og_aload_n dX1_firstFit_33 rfl rfl ?_
          refine og_getf dX1_firstFit_34 kfX1_37 h2 rfl ?_
          refine og_astore_n dX1_firstFit_37 (by decide) hrf ?_
          refine og_goto (tgt := 8) dX1_firstFit_38 (by decide) ?_
          refine og_lv [(0, .ref hp), (1, .int (nI m)), (2, V1 b 3)] rfl ?_
          have hlen : rest'.length ≤ rest.length := by rw [j1, List.length_append]; omega
          refine ih rest' (done ++ [(b, s, u', none)]) V1 (V1 b 3) (by simp only [List.length_cons] at hf; omega) hed (ob_sg_app.mpr ⟨_, hd1, rfl, h2, b0, b1, b2, rfl⟩) (by rw [b3]; exact hr1) ?_ ?_ ?_ ?_ hfr1 ?_ (by rw [hrun2, decide_eq_false hlt9]; simp)
          all_goals (rw [List.append_assoc]; assumption)
        · have hge : m ≤ u' := by
            rcases Nat.lt_or_ge u' m with h9 | h9
            · exact absurd (nI_lt h9 (by omega)) hc
            · exact h9
          refine og_aload_n dX1_firstFit_31 rfl rfl ?_
          exact og_areturn rfl (Or.inl ⟨_, rfl⟩) (Or.inr ⟨_, rfl⟩) dX1_firstFit_32 hk hs ⟨some b, V1, done ++ (b, s, u', none) :: rest', rfl, rfl, ⟨hed, ob_sg_app.mpr ⟨_, hd1, rfl, h2, b0, b1, b2, by rw [b3]; exact hr1⟩, nd1, til1⟩, us1, ta1, hfr1, sub1, fun b9 h9 => (by cases h9; exact ⟨s, u', by simp, hge⟩), fun h9 => (by cases h9), fun h9 => by rw [hrun2, decide_eq_true hge] at h9; cases h9⟩
theorem ct_firstFit {hp edge cap m : Nat} {l : List ob_bk} (hhp : T hp = some (1, 0)) (hed : V hp 1 = .ref edge) (h : ob_hq T V edge cap l) (hcap : cap ≤ 4096) (hm : m < 100000) (hm1 : 1 ≤ m) : ob_C X mX1_firstFit 1 0 0 [.ref hp, .int (nI m)] (T, V, B, J) (ob_fit T V B J edge cap m l) := by
  refine ob_C_of (by decide) rfl (Nat.le_of_ble_eq_true rfl) ?_
  obtain ⟨h1, h2, h3, h4⟩ := h
  refine og_lv [(0, .ref hp), (1, .int (nI m))] rfl ?_
  refine og_aload_n dX1_firstFit_0 rfl rfl ?_
  refine og_getf dX1_firstFit_1 kfX1_33 (by assumption) (by assumption) ?_
  refine og_getf dX1_firstFit_4 kfX1_37 h1 rfl ?_
  refine og_astore_n dX1_firstFit_7 (by decide) (ob_sg_v h2) ?_
  refine og_lv [(0, .ref hp), (1, .int (nI m)), (2, V edge 3)] rfl ?_
  exact fit_loop hcap hm hm1 ⟨by decide, by decide⟩ (Nat.le_refl _) (Nat.le_refl _) _ l [] V (V edge 3) (Nat.le_refl _) h1 rfl h2 h3 h4 rfl (fun _ _ => Iff.rfl) (fun _ _ _ => rfl) (fun _ h => h) rfl
end OBJ
end
section
/-! THE HEAP: cut, moveTo, pushTogether -/
theorem kAB : Cond.arrayClass (newarray.typeOf .byte) ∈ ob_tb := ob_in 104 (by decide +kernel) (by decide +kernel)
theorem kAI : Cond.arrayClass (newarray.typeOf .int) ∈ ob_tb := ob_in 720 (by decide +kernel) (by decide +kernel)
theorem kAJ : Cond.arrayClass (newarray.typeOf .long) ∈ ob_tb := ob_in 837 (by decide +kernel) (by decide +kernel)
def ob_fs0 (j : Nat) : Value := if j < 2 then .int 0 else .null
theorem ob_fs0_ok : ∀ j, j < 4 → defaultValue (ob_ty 0 j) = ob_fs0 j := by
  intro j hj
  match j, hj with
  | 0, _ => rfl
  | 1, _ => rfl
  | 2, _ => rfl
  | 3, _ => rfl
theorem ob_new_ext {T : ob_T} {q c n : Nat} (hq : T q = none) : (∀ x y, T x = some y → ob_new T q c n x = some y) ∧ ob_new T q c n q = some (c, n) := by
  refine ⟨fun x y h => ?_, if_pos rfl⟩
  have : x ≠ q := fun e => by rw [e, hq] at h; cases h
  simp only [ob_new, if_neg this]; exact h
/-- memory grown; fields of what is no block as before -/
def ob_hf (T : ob_T) (V : ob_V) (T' : ob_T) (V' : ob_V) : Prop := (∀ x y, T x = some y → T' x = some y) ∧ ∀ x c n, T x = some (c, n) → c ≠ 0 → ∀ k, V' x k = V x k
/-- the same, but for the heap object hp -/
def ob_hg (hp : Nat) (T : ob_T) (V : ob_V) (T' : ob_T) (V' : ob_V) : Prop := (∀ x y, T x = some y → T' x = some y) ∧ ∀ x c n, T x = some (c, n) → c ≠ 0 → x ≠ hp → ∀ k, V' x k = V x k
theorem ob_hf.rfl {T : ob_T} {V : ob_V} : ob_hf T V T V := ⟨fun _ _ h => h, fun _ _ _ _ _ _ => Eq.refl _⟩
theorem ob_hf.tr {T T' T2 : ob_T} {V V' V2 : ob_V} (h : ob_hf T V T' V') (g : ob_hf T' V' T2 V2) : ob_hf T V T2 V2 := ⟨fun x y a => g.1 x y (h.1 x y a), fun x c n a b k => (g.2 x c n (h.1 x _ a) b k).trans (h.2 x c n a b k)⟩
theorem ob_hg.tr {hp : Nat} {T T' T2 : ob_T} {V V' V2 : ob_V} (h : ob_hg hp T V T' V') (g : ob_hg hp T' V' T2 V2) : ob_hg hp T V T2 V2 := ⟨fun x y a => g.1 x y (h.1 x y a), fun x c n a b d k => (g.2 x c n (h.1 x _ a) b d k).trans (h.2 x c n a b d k)⟩
theorem ob_hf.g {hp : Nat} {T T' : ob_T} {V V' : ob_V} (h : ob_hf T V T' V') : ob_hg hp T V T' V' := ⟨h.1, fun x c n a b _ => h.2 x c n a b⟩
/-- taken blocks: the same, with the same bytes, perhaps at other places -/
def ob_rl (B : ob_B) (hb : Nat) (l : List ob_bk) (B' : ob_B) (hb' : Nat) (l' : List ob_bk) : Prop := (∀ b s u a, ((b, s, u, some a) : ob_bk) ∈ l → ∃ s', ((b, s', u, some a) : ob_bk) ∈ l' ∧ ∀ j, j < 16 * u → B' hb' (16 * s' + j) = B hb (16 * s + j)) ∧ (∀ b s' u a, ((b, s', u, some a) : ob_bk) ∈ l' → ∃ s, ((b, s, u, some a) : ob_bk) ∈ l)
theorem ob_rl.tr {B B' B2 : ob_B} {hb hb' hb2 : Nat} {l l' l2 : List ob_bk} (h : ob_rl B hb l B' hb' l') (g : ob_rl B' hb' l' B2 hb2 l2) : ob_rl B hb l B2 hb2 l2 := by
  refine ⟨fun b s u a hm => ?_, fun b s u a hm => ?_⟩
  · obtain ⟨s', h1, h2⟩ := h.1 b s u a hm
    obtain ⟨s2, g1, g2⟩ := g.1 b s' u a h1
    exact ⟨s2, g1, fun j hj => (g2 j hj).trans (h2 j hj)⟩
  · obtain ⟨s', h1⟩ := g.2 b s u a hm
    exact h.2 b s' u a h1
theorem ob_rl.same {B : ob_B} {hb : Nat} {l l' : List ob_bk} (h : ∀ e : ob_bk, e.2.2.2 ≠ none → (e ∈ l' ↔ e ∈ l)) : ob_rl B hb l B hb l' := by
  refine ⟨fun b s u a hm => ⟨s, (h (b, s, u, some a) (by simp)).mpr hm, fun j _ => rfl⟩, fun b s u a hm => ⟨s, (h (b, s, u, some a) (by simp)).mp hm⟩⟩
theorem ob_sg_T {T : ob_T} {V : ob_V} : ∀ {l : List ob_bk} {v v' : Value}, ob_sg T V l v v' → ∀ x ∈ l.map (·.1), T x = some (0, 0)
  | [], _, _, _ => by simp
  | (b, s, u, o) :: l, v, v', ⟨h1, h2, h3, h4, h5, h6⟩ => by
    intro x hx
    rcases List.mem_cons.mp hx with rfl | hx
    · exact h2
    · exact ob_sg_T h6 x hx
theorem ob_nf {v : Value} {d : String} (h : v.isRef = true) : narrow (.object d) v = v ∧ fits (.object d) v = true := by cases v <;> simp_all [Value.isRef, narrow, fits]
theorem nI_16 (s : Nat) : nI s * 16 = nI (16 * s) := by rw [Nat.mul_comm, ← pk_mul]; rfl
theorem nI_sub {a b : Nat} (h : b ≤ a) : nI a - nI b = nI (a - b) := by
  have : nI a = nI (a - b) + nI b := by rw [nI_add]; congr 1; omega
  rw [this, Int32.add_sub_cancel]
section OBP
variable {X : ob_X} {T : ob_T} {V : ob_V} {B : ob_B} {J : ob_J} {R : Room} {Q : ob_r → ob_w → Prop} {k n : Nat}
theorem ct_cut {edge cap b s u m : Nat} {l1 l2 : List ob_bk} (h : ob_hq T V edge cap (l1 ++ (b, s, u, none) :: l2)) (hm : 1 ≤ m) (hmu : m ≤ u) (hcap : cap ≤ 4096) : ob_C X mX1_cut 2 1 4 [.ref b, .int (nI m)] (T, V, B, J) (fun r w' => r = .inl none ∧ ∃ T' V' l2', w' = (T', V', B, J) ∧ ob_hf T V T' V' ∧ ob_hq T' V' edge cap (l1 ++ (b, s, m, none) :: l2') ∧ ob_us l2' = ob_us l2 ∧ ∀ e : ob_bk, e.2.2.2 ≠ none → (e ∈ l2' ↔ e ∈ l2)) := by
  refine ob_C_of (by decide) rfl (Nat.le_of_ble_eq_true rfl) ?_
  obtain ⟨h1, h2, h3, h4⟩ := id h
  obtain ⟨v, k1, rfl, k2, k3, k4, k5, k6⟩ := ob_sg_app.mp h2
  have k5 : V b 2 = .null := k5
  obtain ⟨mid, t1, t2, t3, t4⟩ := ob_til_app.mp h4
  have hle := (ob_til_le h4).2 (b, s, u, none) (by simp)
  have hu : s + u ≤ 4096 := by simp at hle; omega
  refine og_lv [(0, .ref b), (1, .int (nI m))] rfl ?_
  refine og_aload_n dX1_cut_0 rfl rfl ?_
  refine og_getf dX1_cut_1 kfX1_63 (by assumption) (by assumption) ?_
  refine og_iload_n dX1_cut_4 rfl ?_
  refine og_icmp_le (tgt := 46) dX1_cut_5 (by decide) (fun hc => ?_) (fun hc => ?_)
  · have e : u = m := by have := (nI_leI (by omega) (by omega)).mp hc; omega
    subst e
    exact og_return rfl dX1_cut_46 (by decide) (by decide) ⟨rfl, T, V, l2, rfl, ob_hf.rfl, h, rfl, fun _ _ => Iff.rfl⟩
  · have hlt : m < u := by
      rcases Nat.lt_or_ge m u with h9 | h9
      · exact h9
      · exact absurd (nI_le h9 (by omega)) hc
    refine og_new dX1_cut_8 kc0 klX1_28 kn0 kt0 ob_fs0_ok (by decide) (by decide) (fun q hq _ => ?_)
    obtain ⟨nT1, nT2⟩ := ob_new_ext (c := 0) (n := 0) hq
    have nb := nT1 b _ k2
    have hqb : b ≠ q := fun e => by rw [e] at k2; rw [show T q = none from hq] at k2; cases k2
    have hql : q ∉ edge :: (l1 ++ (b, s, u, none) :: l2).map (·.1) := by
      intro h9
      have : T q = some (0, 0) := by
        rcases List.mem_cons.mp h9 with h9 | h9
        · rw [h9]; exact h1
        · exact ob_sg_T h2 q h9
      rw [show T q = none from hq] at this; cases this
    generalize hT' : ob_new T q 0 0 = T' at *
    have nV0 : ob_row V q ob_fs0 b 0 = .int (nI s) := by simp [ob_row, hqb, k3]
    have nV1 : ob_row V q ob_fs0 b 1 = .int (nI u) := by simp [ob_row, hqb, k4]
    refine og_dup dX1_cut_11 rfl ?_
    refine og_aload_n dX1_cut_12 rfl rfl ?_
    refine og_getf dX1_cut_13 kfX1_69 (by assumption) (by assumption) ?_
    refine og_iload_n dX1_cut_16 rfl ?_
    refine og_iadd dX1_cut_17 ?_
    refine og_aload_n dX1_cut_18 rfl rfl ?_
    refine og_getf dX1_cut_19 kfX1_63 (by assumption) (by assumption) ?_
    refine og_iload_n dX1_cut_22 rfl ?_
    refine og_isub dX1_cut_23 ?_
    refine og_callIe dX1_cut_24 kiX1_30 (ct_Block nT2) rfl rfl ⟨by decide, by decide⟩ (by decide) (by decide) (Nat.le_of_ble_eq_true rfl) ?_
    refine og_astore_n dX1_cut_27 (by decide) rfl ?_
    refine og_aload_n dX1_cut_28 rfl rfl ?_
    refine og_aload_n dX1_cut_29 rfl rfl ?_
    refine og_getf dX1_cut_30 kfX1_37 nb (v := V b 3) (by simp [ob_set, ob_row, hqb]) ?_
    refine og_put dX1_cut_33 kfX1_37 nT2 (ob_nf (ob_sg_v k6)).1 (ob_nf (ob_sg_v k6)).2 ?_
    refine og_aload_n dX1_cut_36 rfl rfl ?_
    refine og_aload_n dX1_cut_37 rfl rfl ?_
    refine og_put dX1_cut_38 kfX1_37 (by assumption) rfl rfl ?_
    refine og_aload_n dX1_cut_41 rfl rfl ?_
    refine og_iload_n dX1_cut_42 rfl ?_
    refine og_put dX1_cut_43 kfX1_63 (by assumption) rfl rfl ?_
    have hmq : q ∉ l1.map (·.1) ∧ q ∉ l2.map (·.1) ∧ q ≠ edge := by
      refine ⟨fun h9 => hql ?_, fun h9 => hql ?_, fun h9 => hql ?_⟩
      · simp only [List.map_append, List.map_cons, List.mem_cons, List.mem_append]; exact Or.inr (Or.inl h9)
      · simp only [List.map_append, List.map_cons, List.mem_cons, List.mem_append]; exact Or.inr (Or.inr (Or.inr h9))
      · rw [h9]; simp
    have hnd2 := h3
    simp only [List.map_append, List.map_cons, List.nodup_cons, List.nodup_append, List.mem_append, List.mem_cons] at hnd2
    refine og_return rfl dX1_cut_46 (by decide) (by decide) ?_
    show _ ∧ _
    generalize hV' : ob_set (ob_set (ob_set (ob_set (ob_set (ob_row V q ob_fs0) q 0 (.int (nI s + nI m))) q 1 (.int (nI u - nI m))) q 3 (V b 3)) b 3 (.ref q)) b 1 (.int (nI m)) = V'
    have far : ∀ x j, x ≠ q → x ≠ b → V' x j = V x j := fun x j h1 h2 => by rw [← hV']; simp [ob_set, ob_row, h1, h2]
    have q0 : V' q 0 = .int (nI (s + m)) := by rw [← hV', ← nI_add]; simp [ob_set, hqb.symm]
    have q1 : V' q 1 = .int (nI (u - m)) := by rw [← hV', ← nI_sub (by omega)]; simp [ob_set, hqb.symm]
    have q2 : V' q 2 = .null := by rw [← hV']; simp [ob_set, ob_row, ob_fs0]
    have q3 : V' q 3 = V b 3 := by rw [← hV']; simp [ob_set, hqb.symm]
    have b0 : V' b 0 = .int (nI s) := by rw [← hV']; simp [ob_set, ob_row, hqb, k3]
    have b1 : V' b 1 = .int (nI m) := by rw [← hV']; simp [ob_set]
    have b2 : V' b 2 = .null := by rw [← hV']; simp [ob_set, ob_row, hqb, k5]
    have b3 : V' b 3 = .ref q := by rw [← hV']; simp [ob_set]
    have eb : edge ≠ b := fun e => hnd2.1 (Or.inr (Or.inl e))
    refine ⟨rfl, T', V', (q, s + m, u - m, none) :: l2, rfl, ⟨nT1, fun x c n hx hc9 k => far x k ?_ ?_⟩, ⟨nT1 _ _ h1, ?_, ?_, ?_⟩, by simp [ob_us], fun e he => ?_⟩
    · exact fun e => by rw [e, show T q = none from hq] at hx; cases hx
    · exact fun e => by rw [e, k2] at hx; cases hx; exact hc9 rfl
    · rw [far edge 3 hmq.2.2.symm eb]
      refine ob_sg_app.mpr ⟨.ref b, ob_sg_ext nT1 (ob_sg_congr (fun a ha k => far a k (fun e => hmq.1 (e ▸ ha)) (fun e => hnd2.2.2.2 a ha b (Or.inl rfl) e)) k1), rfl, nb, b0, b1, b2, b3, nT2, q0, q1, q2, ?_⟩
      rw [q3]
      exact ob_sg_ext nT1 (ob_sg_congr (fun a ha k => far a k (fun e => hmq.2.1 (e ▸ ha)) (fun e => hnd2.2.2.1.1 (e ▸ ha))) k6)
    · have := (List.perm_middle (l₁ := edge :: l1.map (·.1) ++ [b]) (a := q) (l₂ := l2.map (·.1))).nodup_iff
      simp only [List.map_append, List.map_cons, List.cons_append, List.append_assoc, List.nil_append] at this hql h3 ⊢
      exact this.mpr (List.nodup_cons.mpr ⟨hql, h3⟩)
    · exact ob_til_app.mpr ⟨mid, t1, t2, hm, by omega, by omega, by rw [show mid + m + (u - m) = mid + u by omega]; exact t4⟩
    · rw [List.mem_cons]
      exact ⟨fun h9 => h9.resolve_left (fun h8 => he (by rw [h8])), Or.inr⟩
theorem ct_moveTo {hp hb cap b s u e : Nat} (h1 : T hp = some (1, 0)) (h2 : V hp 4 = .ref hb) (h3 : T hb = some (7, 16 * cap)) (hcap : cap ≤ 4096) (hF : sb_Fit (B hb)) (k1 : T b = some (0, 0)) (k2 : V b 0 = .int (nI s)) (k3 : V b 1 = .int (nI u)) (hs : s + u ≤ cap) (he : e + u ≤ cap) : ob_C X mX1_moveTo 1 0 0 [.ref hp, .ref b, .int (nI e)] (T, V, B, J) (ob_e none (T, ob_set V b 0 (.int (nI e)), ob_row B hb (va_cpy (B hb) (B hb) (16 * s) (16 * e) (16 * u)), J)) := by
  refine ob_C_of (by decide) rfl (Nat.le_of_ble_eq_true rfl) ?_
  refine og_aload_n dX1_moveTo_0 rfl rfl ?_
  refine og_getf dX1_moveTo_1 kfX1_24 (by assumption) (by assumption) ?_
  refine og_aload_n dX1_moveTo_4 rfl rfl ?_
  refine og_getf dX1_moveTo_5 kfX1_69 (by assumption) (by assumption) ?_
  refine og_bipush (v := 16) dX1_moveTo_8 (by decide) ?_
  refine og_imul dX1_moveTo_10 ?_
  refine og_aload_n dX1_moveTo_11 rfl rfl ?_
  refine og_getf dX1_moveTo_12 kfX1_24 (by assumption) (by assumption) ?_
  refine og_iload_n dX1_moveTo_15 rfl ?_
  refine og_bipush (v := 16) dX1_moveTo_16 (by decide) ?_
  refine og_imul dX1_moveTo_18 ?_
  refine og_aload_n dX1_moveTo_19 rfl rfl ?_
  refine og_getf dX1_moveTo_20 kfX1_63 (by assumption) (by assumption) ?_
  refine og_bipush (v := 16) dX1_moveTo_23 (by decide) ?_
  refine og_imul dX1_moveTo_25 ?_
  refine og_copyB dX1_moveTo_26 kAX1_72 kAn kAs kAi h3 h3 (nI_16 s) (nI_16 e) (nI_16 u) (by omega) (by omega) ⟨by omega, by omega⟩ (fun i _ => hF _) (by decide) (by decide) ?_
  refine og_aload_n dX1_moveTo_29 rfl rfl ?_
  refine og_iload_n dX1_moveTo_30 rfl ?_
  refine og_put dX1_moveTo_31 kfX1_69 (by assumption) rfl rfl ?_
  exact og_return rfl dX1_moveTo_34 (by decide) (by decide) ⟨rfl, rfl⟩
/-- the packed blocks: closed by whatever the last one's link is set to -/
def ob_pk (T : ob_T) (V : ob_V) (edge last : Nat) (D : List ob_bk) : Prop := last ∈ edge :: D.map (·.1) ∧ ∀ v, ob_sg T (ob_set V last 3 v) D (ob_set V last 3 v edge 3) v
/-- packing: l0 of B0 as far as rest (from place m on), packed as D up to place e -/
def ob_pi (T : ob_T) (V0 V : ob_V) (B0 B : ob_B) (hb edge cap e m last : Nat) (l0 D rest : List ob_bk) (v : Value) : Prop :=
  ob_pk T V edge last D ∧ ob_sg T V rest v .null ∧ (edge :: (D ++ rest).map (·.1)).Nodup ∧ ob_til D 0 e ∧ ob_us D = e ∧ ob_til rest m cap ∧ e ≤ m ∧ ob_us l0 = e + ob_us rest ∧ (∀ x c n, T x = some (c, n) → c ≠ 0 → ∀ k, V x k = V0 x k) ∧ (∀ x, x ≠ hb → B x = B0 x) ∧ sb_Fit (B hb) ∧ (∀ j, 16 * m ≤ j → B hb j = B0 hb j) ∧
  (∀ b s u a, ((b, s, u, some a) : ob_bk) ∈ l0 → ((b, s, u, some a) : ob_bk) ∈ rest ∨ ∃ s', ((b, s', u, some a) : ob_bk) ∈ D ∧ ∀ j, j < 16 * u → B hb (16 * s' + j) = B0 hb (16 * s + j)) ∧ (∀ b s' u a, ((b, s', u, some a) : ob_bk) ∈ D ++ rest → ∃ s, ((b, s, u, some a) : ob_bk) ∈ l0)
theorem push_loop {hp hb edge cap : Nat} {V0 : ob_V} {B0 : ob_B} {l0 : List ob_bk} (h1 : T hp = some (1, 0)) (h2 : V0 hp 4 = .ref hb) (h3 : T hb = some (7, 16 * cap)) (hcap : cap ≤ 4096) (hR : 2 ≤ R.frames ∧ 120 ≤ R.locals) (hk : k ≤ R.cells) (hs : n ≤ R.slots) :
    ∀ (rest D : List ob_bk) (V : ob_V) (B : ob_B) (e m last : Nat) (v : Value), T edge = some (0, 0) → T last = some (0, 0) → ob_pi T V0 V B0 B hb edge cap e m last l0 D rest v →
    (∀ D' V' B' e' last', T last' = some (0, 0) → ob_pi T V0 V' B0 B' hb edge cap e' cap last' l0 D' [] .null → ob_G X mX1_pushTogether R Q 54 [(0, .ref hp), (1, .int (nI e')), (2, .ref last'), (3, .null)] [] (T, V', B', J) k n) →
    ob_G X mX1_pushTogether R Q 15 [(0, .ref hp), (1, .int (nI e)), (2, .ref last), (3, v)] [] (T, V, B, J) k n := by
  intro rest
  induction rest with
  | nil =>
    intro D V B e m last v hed hla hp9 kk
    have hv : v = .null := hp9.2.1
    have hm : m = cap := hp9.2.2.2.2.2.1
    subst hv
    subst hm
    refine og_aload_n dX1_pushTogether_15 rfl rfl ?_
    refine og_ifnullN (tgt := 54) dX1_pushTogether_16 (by decide) ?_
    exact kk D V B e last hla hp9
  | cons f rest ih =>
    obtain ⟨b, s, u, o⟩ := f
    intro D V B e m last v hed hla hp9 kk
    obtain ⟨⟨p0, p1⟩, p2, p3, p4, p5, p6, p7, p8, p9, p10, p11, p12, p13, p14⟩ := hp9
    obtain ⟨rfl, g1, g2, g3, g4, g5⟩ := id p2
    obtain ⟨rfl, q2, q3⟩ := p6
    have hcp := (ob_til_le q3).1
    have hhp : V hp 4 = .ref hb := by rw [p9 hp 1 0 h1 (by decide)]; exact h2
    have hnd2 := p3
    simp only [List.map_append, List.map_cons, List.nodup_cons, List.nodup_append, List.mem_append, List.mem_cons] at hnd2
    cases o with
    | none =>
      have g4 : V b 2 = .null := g4
      have hrf := ob_sg_v g5
      refine og_aload_n dX1_pushTogether_15 rfl rfl ?_
      refine og_ifnull dX1_pushTogether_16 ?_
      refine og_aload_n dX1_pushTogether_19 rfl rfl ?_
      refine og_getf dX1_pushTogether_20 kfX1_59 (by assumption) (by assumption) ?_
      refine og_ifnullN (tgt := 46) dX1_pushTogether_23 (by decide) ?_
      refine og_aload_n dX1_pushTogether_46 rfl rfl ?_
      refine og_getf dX1_pushTogether_47 kfX1_37 g1 rfl ?_
      refine og_astore_n dX1_pushTogether_50 (by decide) hrf ?_
      refine og_goto (tgt := 15) dX1_pushTogether_51 (by decide) ?_
      refine og_lv [(0, .ref hp), (1, .int (nI e)), (2, .ref last), (3, V b 3)] rfl ?_
      refine ih D V B e (s + u) last (V b 3) hed hla ⟨⟨p0, p1⟩, g5, ?_, p4, p5, q3, by omega, p8, p9, p10, p11, fun j hj => p12 j (by omega), fun b2 s2 u2 a2 hm => ?_, fun b2 s2 u2 a2 hm => p14 b2 s2 u2 a2 ?_⟩ kk
      · simp only [List.map_append, List.nodup_cons, List.nodup_append, List.mem_append]
        exact ⟨fun h => hnd2.1 (h.imp id Or.inr), hnd2.2.1, hnd2.2.2.1.2, fun x hx y hy => hnd2.2.2.2 x hx y (Or.inr hy)⟩
      · rcases p13 b2 s2 u2 a2 hm with h9 | h9
        · rcases List.mem_cons.mp h9 with h9 | h9
          · cases h9
          · exact Or.inl h9
        · exact Or.inr h9
      · rcases List.mem_append.mp hm with h9 | h9
        · exact List.mem_append_left _ h9
        · exact List.mem_append_right _ (List.mem_cons_of_mem _ h9)
    | some a =>
      have g4 : V b 2 = .ref a := g4
      have hrf := ob_sg_v g5
      have hu2 : ob_us ((b, s, u, some a) :: rest) = u + ob_us rest := rfl
      refine og_aload_n dX1_pushTogether_15 rfl rfl ?_
      refine og_ifnull dX1_pushTogether_16 ?_
      refine og_aload_n dX1_pushTogether_19 rfl rfl ?_
      refine og_getf dX1_pushTogether_20 kfX1_59 (by assumption) (by assumption) ?_
      refine og_ifnull dX1_pushTogether_23 ?_
      refine og_aload_n dX1_pushTogether_26 rfl rfl ?_
      refine og_aload_n dX1_pushTogether_27 rfl rfl ?_
      refine og_iload_n dX1_pushTogether_28 rfl ?_
      refine og_callVe dX1_pushTogether_29 kvX1_106 (ct_moveTo h1 hhp h3 hcap p11 g1 g2 g3 (by omega) (by omega)) rfl h1 rfl rfl ⟨Nat.le_trans (by decide) hR.1, Nat.le_trans (by decide) hR.2⟩ hk hs (Nat.le_of_ble_eq_true rfl) rfl ?_
      have c1 : ob_set V b 0 (.int (nI e)) b 1 = .int (nI u) := by simp [ob_set, g3]
      refine og_iload_n dX1_pushTogether_32 rfl ?_
      refine og_aload_n dX1_pushTogether_33 rfl rfl ?_
      refine og_getf dX1_pushTogether_34 kfX1_63 (by assumption) (by assumption) ?_
      refine og_iadd dX1_pushTogether_37 ?_
      refine og_istore_n dX1_pushTogether_38 (by decide) ?_
      refine og_aload_n dX1_pushTogether_39 rfl rfl ?_
      refine og_aload_n dX1_pushTogether_40 rfl rfl ?_
      refine og_put dX1_pushTogether_41 kfX1_37 (by assumption) rfl rfl ?_
      refine og_aload_n dX1_pushTogether_44 rfl rfl ?_
      refine og_astore_n dX1_pushTogether_45 (by decide) rfl ?_
      have lb : last ≠ b := by
        intro h9
        subst h9
        rcases List.mem_cons.mp p0 with h9 | h9
        · exact hnd2.1 (Or.inr (Or.inl h9.symm))
        · exact hnd2.2.2.2 _ h9 _ (Or.inl rfl) rfl
      have c3 : ob_set (ob_set V b 0 (.int (nI e))) last 3 (.ref b) b 3 = V b 3 := by simp [ob_set, lb.symm]
      refine og_aload_n dX1_pushTogether_46 rfl rfl ?_
      refine og_getf dX1_pushTogether_47 kfX1_37 (by assumption) (by assumption) ?_
      refine og_astore_n dX1_pushTogether_50 (by decide) hrf ?_
      refine og_goto (tgt := 15) dX1_pushTogether_51 (by decide) ?_
      refine og_lv [(0, .ref hp), (1, .int (nI (e + u))), (2, .ref b), (3, V b 3)] (by rw [← nI_add]; rfl) ?_
      have hbD : b ∉ D.map (·.1) := fun h9 => hnd2.2.2.2 _ h9 _ (Or.inl rfl) rfl
      have eb : edge ≠ b := fun e => hnd2.1 (Or.inr (Or.inl e))
      have hbr : b ∉ rest.map (·.1) := hnd2.2.2.1.1
      have hlr : last ∉ rest.map (·.1) := by
        intro h9
        rcases List.mem_cons.mp p0 with h8 | h8
        · exact hnd2.1 (Or.inr (Or.inr (h8 ▸ h9)))
        · exact hnd2.2.2.2 _ h8 _ (Or.inr h9) rfl
      have hD := (ob_til_le p4).2
      have hcp2 : ∀ j, ob_row B hb (va_cpy (B hb) (B hb) (16 * s) (16 * e) (16 * u)) hb j = if 16 * e ≤ j ∧ j < 16 * e + 16 * u then B hb (16 * s + (j - 16 * e)) else B hb j := fun j => by simp [ob_row, va_cpy]
      refine ih (D ++ [(b, e, u, some a)]) (ob_set (ob_set V b 0 (.int (nI e))) last 3 (.ref b)) (ob_row B hb (va_cpy (B hb) (B hb) (16 * s) (16 * e) (16 * u))) (e + u) (s + u) b (V b 3) hed g1 ⟨⟨by simp, fun v => ?_⟩, ?_, ?_, ob_til_app.mpr ⟨e, p4, rfl, q2, rfl⟩, ?_, q3, by omega, ?_, ?_, ?_, ?_, ?_, ?_, ?_⟩ kk
      · have far : ∀ x j, x ≠ b → ob_set (ob_set (ob_set V b 0 (.int (nI e))) last 3 (.ref b)) b 3 v x j = ob_set V last 3 (.ref b) x j := fun x j hx => by simp [ob_set, hx]
        refine ob_sg_app.mpr ⟨.ref b, ?_, rfl, g1, ?_, ?_, ?_, ?_⟩
        · rw [far edge 3 eb]
          exact ob_sg_congr (fun x hx j => far x j (fun e => hbD (e ▸ hx))) (p1 (.ref b))
        · simp [ob_set, lb.symm]
        · simp [ob_set, lb.symm, g3]
        · simp [ob_set, lb.symm, g4, va_rf]
        · exact ob_set_s _ _ _ _
      · exact ob_sg_congr (fun x hx j => by
          have h8 : x ≠ b := fun e => hbr (e ▸ hx)
          have h9 : x ≠ last := fun e => hlr (e ▸ hx)
          simp [ob_set, h8, h9]) g5
      · simpa using p3
      · rw [ob_us_app, p5]; simp [ob_us]
      · rw [p8, hu2]; omega
      · intro x c n9 hx hc k9
        have h8 : x ≠ b := fun e => by rw [e, g1] at hx; cases hx; exact hc rfl
        have h9 : x ≠ last := fun e => by rw [e, hla] at hx; cases hx; exact hc rfl
        rw [← p9 x c n9 hx hc k9]
        simp [ob_set, h8, h9]
      · intro x hx
        rw [← p10 x hx]
        simp [ob_row, hx]
      · have : ob_row B hb (va_cpy (B hb) (B hb) (16 * s) (16 * e) (16 * u)) hb = va_cpy (B hb) (B hb) (16 * s) (16 * e) (16 * u) := by simp [ob_row]
        rw [this]
        exact sb_fitC p11 p11
      · intro j hj
        rw [hcp2, if_neg (by omega)]
        exact p12 j (by omega)
      · intro b2 s2 u2 a2 hm
        rcases p13 b2 s2 u2 a2 hm with h9 | ⟨s', h9, h8⟩
        · rcases List.mem_cons.mp h9 with h9 | h9
          · cases h9
            refine Or.inr ⟨e, by simp, fun j hj => ?_⟩
            rw [hcp2, if_pos (by omega), show 16 * s + (16 * e + j - 16 * e) = 16 * s + j by omega]
            exact p12 _ (by omega)
          · exact Or.inl h9
        · refine Or.inr ⟨s', List.mem_append_left _ h9, fun j hj => ?_⟩
          have := hD _ h9
          simp only at this
          rw [hcp2, if_neg (by omega)]
          exact h8 j hj
      · intro b2 s2 u2 a2 hm
        rw [List.append_assoc] at hm
        rcases List.mem_append.mp hm with h9 | h9
        · exact p14 b2 s2 u2 a2 (List.mem_append_left _ h9)
        · rcases List.mem_cons.mp h9 with h9 | h9
          · cases h9
            exact p14 b s u a (List.mem_append_right _ (by simp))
          · exact p14 b2 s2 u2 a2 (List.mem_append_right _ (List.mem_cons_of_mem _ h9))
theorem ct_pushTogether {hp hb edge cap : Nat} {l : List ob_bk} (h1 : T hp = some (1, 0)) (h1e : V hp 1 = .ref edge) (h1c : V hp 3 = .int (nI cap)) (h2 : V hp 4 = .ref hb) (h3 : T hb = some (7, 16 * cap)) (hcap : cap ≤ 4096) (hF : sb_Fit (B hb)) (h : ob_hq T V edge cap l) (hus : ob_us l < cap) : ob_C X mX1_pushTogether 2 1 4 [.ref hp] (T, V, B, J) (fun r w' => ∃ q T' V' B' D, r = .inl (some (.ref q)) ∧ w' = (T', V', B', J) ∧ ob_hf T V T' V' ∧ ob_hq T' V' edge cap (D ++ [(q, ob_us l, cap - ob_us l, none)]) ∧ ob_us D = ob_us l ∧ (∀ x, x ≠ hb → B' x = B x) ∧ sb_Fit (B' hb) ∧ ob_rl B hb l B' hb D) := by
  refine ob_C_of (by decide) rfl (Nat.le_of_ble_eq_true rfl) ?_
  obtain ⟨g1, g2, g3, g4⟩ := h
  refine og_lv [(0, .ref hp)] rfl ?_
  refine og_iconst (v := 0) dX1_pushTogether_0 (by decide) ?_
  refine og_istore_n dX1_pushTogether_1 (by decide) ?_
  refine og_aload_n dX1_pushTogether_2 rfl rfl ?_
  refine og_getf dX1_pushTogether_3 kfX1_33 (by assumption) (by assumption) ?_
  refine og_astore_n dX1_pushTogether_6 (by decide) rfl ?_
  refine og_aload_n dX1_pushTogether_7 rfl rfl ?_
  refine og_getf dX1_pushTogether_8 kfX1_33 (by assumption) (by assumption) ?_
  refine og_getf dX1_pushTogether_11 kfX1_37 g1 rfl ?_
  refine og_astore_n dX1_pushTogether_14 (by decide) (ob_sg_v g2) ?_
  refine og_lv [(0, .ref hp), (1, .int (nI 0)), (2, .ref edge), (3, V edge 3)] rfl ?_
  refine push_loop (l0 := l) (B0 := B) h1 h2 h3 hcap ⟨by decide, by decide⟩ (by decide) (by decide) l [] V B 0 0 edge (V edge 3) g1 g1 ⟨⟨by simp, fun v => (ob_set_s _ _ _ _ : ob_set V edge 3 v edge 3 = v)⟩, g2, g3, rfl, rfl, g4, Nat.le_refl _, by simp, fun _ _ _ _ _ _ => rfl, fun _ _ => rfl, hF, fun _ _ => rfl, fun b s u a hm => Or.inl hm, fun b s u a hm => ⟨s, hm⟩⟩ ?_
  intro D V' B' e last hla hpi
  obtain ⟨⟨p0, p1⟩, p2, p3, p4, p5, p6, p7, p8, p9, p10, p11, p12, p13, p14⟩ := hpi
  have he : e = ob_us l := by rw [p8]; simp [ob_us]
  rw [List.append_nil] at p3
  have hTD : ∀ x ∈ edge :: D.map (·.1), T x = some (0, 0) := by
    intro x hx
    rcases List.mem_cons.mp hx with h9 | h9
    · rw [h9]; exact g1
    · exact ob_sg_T (p1 .null) x h9
  refine og_new dX1_pushTogether_54 kc0 klX1_28 kn0 kt0 ob_fs0_ok (by decide) (by decide) (fun q hq _ => ?_)
  have hq : T q = none := hq
  obtain ⟨nT1, nT2⟩ := ob_new_ext (c := 0) (n := 0) hq
  have nq : ∀ x ∈ edge :: D.map (·.1), x ≠ q := fun x hx e => by rw [e] at hx; rw [hTD q hx] at hq; cases hq
  have hpq : hp ≠ q := fun e => by rw [e, hq] at h1; cases h1
  have h1' := nT1 _ _ h1
  have c1 : ob_row V' q ob_fs0 hp 3 = .int (nI cap) := by simp [ob_row, hpq]; rw [p9 hp 1 0 h1 (by decide)]; exact h1c
  have hlq := nq last p0
  have hla' := nT1 _ _ hla
  generalize hT' : ob_new T q 0 0 = T' at *
  refine og_dup dX1_pushTogether_57 rfl ?_
  refine og_iload_n dX1_pushTogether_58 rfl ?_
  refine og_aload_n dX1_pushTogether_59 rfl rfl ?_
  refine og_getf dX1_pushTogether_60 kfX1_21 (by assumption) (by assumption) ?_
  refine og_iload_n dX1_pushTogether_63 rfl ?_
  refine og_isub dX1_pushTogether_64 ?_
  refine og_callIe dX1_pushTogether_65 kiX1_30 (ct_Block nT2) rfl rfl ⟨by decide, by decide⟩ (by decide) (by decide) (Nat.le_of_ble_eq_true rfl) ?_
  refine og_astore_n dX1_pushTogether_68 (by decide) rfl ?_
  refine og_aload_n dX1_pushTogether_69 rfl rfl ?_
  refine og_aload_n dX1_pushTogether_70 rfl rfl ?_
  refine og_put dX1_pushTogether_71 kfX1_37 (by assumption) rfl rfl ?_
  refine og_aload_n dX1_pushTogether_74 rfl rfl ?_
  refine og_areturn rfl (Or.inl ⟨_, rfl⟩) (Or.inr ⟨_, rfl⟩) dX1_pushTogether_75 (by decide) (by decide) ?_
  generalize hV2 : ob_set (ob_set (ob_set (ob_row V' q ob_fs0) q 0 (.int (nI e))) q 1 (.int (nI cap - nI e))) last 3 (.ref q) = V2
  have far : ∀ x j, x ≠ q → V2 x j = ob_set V' last 3 (.ref q) x j := fun x j h1 => by rw [← hV2]; simp [ob_set, ob_row, h1]
  have q0 : V2 q 0 = .int (nI e) := by rw [← hV2]; simp [ob_set, hlq.symm]
  have q1 : V2 q 1 = .int (nI (cap - e)) := by rw [← hV2, ← nI_sub (by omega)]; simp [ob_set, hlq.symm]
  have q2 : V2 q 2 = .null := by rw [← hV2]; simp [ob_set, ob_row, ob_fs0, hlq.symm]
  have q3 : V2 q 3 = .null := by rw [← hV2]; simp [ob_set, ob_row, ob_fs0, hlq.symm]
  refine ⟨q, T', V2, B', D, rfl, by rw [← hV2], ⟨nT1, fun x c n9 hx hc k9 => ?_⟩, ⟨nT1 _ _ g1, ?_, ?_, ?_⟩, by omega, p10, p11, fun b s u a hm => ?_, fun b s u a hm => p14 b s u a (by rw [List.append_nil]; exact hm)⟩
  · have h8 : x ≠ q := fun e => by rw [e, hq] at hx; cases hx
    have h9 : x ≠ last := fun e => by rw [e, hla] at hx; cases hx; exact hc rfl
    rw [far x k9 h8, ob_set_a _ _ _ _ _ h9]
    exact p9 x c n9 hx hc k9
  · rw [far edge 3 (nq edge (by simp))]
    refine ob_sg_app.mpr ⟨.ref q, ob_sg_ext nT1 (ob_sg_congr (fun x hx j => far x j (nq x (List.mem_cons_of_mem _ hx))) (p1 (.ref q))), rfl, nT2, by rw [← he]; exact q0, by rw [← he]; exact q1, q2, q3⟩
  · have : (edge :: D.map (·.1) ++ [q]).Nodup := by
      rw [List.nodup_append]
      exact ⟨p3, by simp, fun x hx y hy => by rw [List.mem_singleton.mp hy]; exact nq x hx⟩
    simpa using this
  · exact ob_til_app.mpr ⟨e, p4, he.symm, by omega, show e + (cap - ob_us l) = cap by omega⟩
  · rcases p13 b s u a hm with h9 | h9
    · cases h9
    · exact h9
end OBP
end
section
/-! THE HEAP: Arrays.copyOf, grow, take -/
section OBR
variable {X : ob_X} {T : ob_T} {V : ob_V} {B : ob_B} {J : ob_J} {R : Room} {Q : ob_r → ob_w → Prop} {k n : Nat}
theorem ct_copyOf {a n0 m : Nat} (ha : T a = some (7, n0)) (hnm : n0 < m) (hm : m ≤ 65536) (hF : sb_Fit (B a)) : ob_C X mJ7_copyOf_9075b 1 1 m [.ref a, .int (nI m)] (T, V, B, J) (fun r w' => ∃ q, T q = none ∧ r = .inl (some (.ref q)) ∧ w' = (ob_new T q 7 m, V, ob_row B q (va_cpy (B a) (fun _ => 0) 0 0 n0), ob_row J q (fun _ => 0))) := by
  refine ob_C_of (by decide) rfl (Nat.le_of_ble_eq_true rfl) ?_
  refine og_lv [(0, .ref a), (1, .int (nI m))] rfl ?_
  refine og_iload_n dJ7_copyOf_9075b_0 rfl ?_
  refine og_aload_n dJ7_copyOf_9075b_1 rfl rfl ?_
  refine og_alen dJ7_copyOf_9075b_2 (by assumption) (by decide) ?_
  refine og_icmp_ne (tgt := 14) dJ7_copyOf_9075b_3 (by decide) (fun _ => ?_) (fun z9 => absurd z9 (fun h9 => absurd ((nI_eq (by omega) (by omega)).mp h9) (by omega)))
  refine og_iload_n dJ7_copyOf_9075b_14 rfl ?_
  refine og_newa (t := 0) dJ7_copyOf_9075b_15 (Or.inl ⟨rfl, rfl⟩) kAB rfl (by omega) (Nat.le_refl 1) (by show 0 + m ≤ m; omega) (fun q hq _ => ?_)
  have hq : T q = none := hq
  obtain ⟨nT1, nT2⟩ := ob_new_ext (c := 7) (n := m) hq
  have haq : a ≠ q := fun e => by rw [e, hq] at ha; cases ha
  have ha' := nT1 _ _ ha
  generalize hT' : ob_new T q (7 + 0) m = T' at *
  have hT2 : ob_new T q 7 m = T' := hT'
  refine og_astore_n dJ7_copyOf_9075b_17 (by decide) rfl ?_
  refine og_aload_n dJ7_copyOf_9075b_18 rfl rfl ?_
  refine og_iconst (v := 0) dJ7_copyOf_9075b_19 (by decide) ?_
  refine og_aload_n dJ7_copyOf_9075b_20 rfl rfl ?_
  refine og_iconst (v := 0) dJ7_copyOf_9075b_21 (by decide) ?_
  refine og_aload_n dJ7_copyOf_9075b_22 rfl rfl ?_
  refine og_alen dJ7_copyOf_9075b_23 (by assumption) (by decide) ?_
  refine og_iload_n dJ7_copyOf_9075b_24 rfl ?_
  refine og_mmin dJ7_copyOf_9075b_25 kMminJ7_304 (Nat.le_of_ble_eq_true rfl) (Nat.le_of_ble_eq_true rfl) (Nat.le_refl _) (by show 0 + m ≤ m; omega) kMmins kMi kMminc ?_
  refine og_st [.int (nI n0), .int 0, .ref q, .int 0, .ref a] (by rw [if_neg (nI_nlt (by omega) (by omega))]) ?_
  have hB : ob_row B q (fun _ => (0 : Int32)) a = B a := by simp [ob_row, haq]
  refine og_copyB dJ7_copyOf_9075b_28 kAJ7_150 kAn kAs kAi ha' nT2 (i0 := 0) (i1 := 0) rfl rfl rfl (by omega) (by omega) ⟨by omega, by omega⟩ (fun i _ => by show fits .byte (.int (ob_row B q (fun _ => (0 : Int32)) a _)) = true; rw [hB]; exact hF _) (Nat.le_of_ble_eq_true rfl) (Nat.le_of_ble_eq_true rfl) ?_
  refine og_aload_n dJ7_copyOf_9075b_31 rfl rfl ?_
  refine og_areturn rfl (Or.inr ⟨_, rfl⟩) (Or.inr ⟨_, rfl⟩) dJ7_copyOf_9075b_32 (Nat.le_refl _) (by show 0 + m ≤ m; omega) ⟨q, hq, rfl, ?_⟩
  rw [hT2]
  show (T', V, _, _) = _
  refine Prod.ext rfl (Prod.ext rfl (Prod.ext ?_ rfl))
  show ob_row (ob_row B q fun _ => 0) q (va_cpy (ob_row B q (fun _ => 0) a) (ob_row B q (fun _ => 0) q) 0 0 n0) = _
  rw [hB]
  funext x
  by_cases hx : x = q
  · simp [ob_row, hx]
  · simp [ob_row, hx]
/-- the last link of a chain that begins behind p -/
def ob_la (p : Nat) : List ob_bk → Nat
  | [] => p
  | (b, _, _, _) :: l => ob_la b l
theorem ob_la_mem : ∀ (l : List ob_bk) (p : Nat), ob_la p l ∈ p :: l.map (·.1)
  | [], p => by simp [ob_la]
  | (b, s, u, o) :: l, p => by simp only [ob_la, List.map_cons]; exact List.mem_cons_of_mem _ (ob_la_mem l b)
theorem ob_sg_snoc {v : Value} : ∀ (l : List ob_bk) (p : Nat), (p :: l.map (·.1)).Nodup → ob_sg T V l (V p 3) .null → ob_sg T (ob_set V (ob_la p l) 3 v) l (ob_set V (ob_la p l) 3 v p 3) v
  | [], p, _, _ => (ob_set_s _ _ _ _ : ob_set V p 3 v p 3 = v)
  | (b, s, u, o) :: l, p, hn, ⟨h1, h2, h3, h4, h5, h6⟩ => by
    have hnp : p ≠ ob_la b l := fun e => (List.nodup_cons.mp hn).1 (by rw [e]; exact ob_la_mem l b)
    refine ⟨?_, h2, ?_, ?_, ?_, ?_⟩
    · show ob_set V (ob_la b l) 3 v p 3 = _
      rw [ob_set_a _ _ _ _ _ hnp]; exact h1
    · rw [ob_set_k _ _ _ _ _ (by decide)]; exact h3
    · rw [ob_set_k _ _ _ _ _ (by decide)]; exact h4
    · rw [ob_set_k _ _ _ _ _ (by decide)]; exact h5
    · exact ob_sg_snoc l b (List.nodup_cons.mp hn).2 h6
theorem grow_loop {hp : Nat} {x g : Int32} : ∀ (l : List ob_bk) (p : Nat), T p = some (0, 0) → ob_sg T V l (V p 3) .null → (V (ob_la p l) 3 = .null → T (ob_la p l) = some (0, 0) → ob_G X mX1_grow R Q 38 [(0, .ref hp), (1, .int x), (2, .int g), (3, .ref (ob_la p l))] [] (T, V, B, J) k n) → ob_G X mX1_grow R Q 23 [(0, .ref hp), (1, .int x), (2, .int g), (3, .ref p)] [] (T, V, B, J) k n := by
  intro l
  induction l with
  | nil =>
    intro p hp9 h kk
    have hv : V p 3 = .null := h
    refine og_aload_n dX1_grow_23 rfl rfl ?_
    refine og_getf dX1_grow_24 kfX1_37 (by assumption) (by assumption) ?_
    refine og_ifnullN (tgt := 38) dX1_grow_27 (by decide) ?_
    exact kk hv hp9
  | cons f l ih =>
    obtain ⟨b, s, u, o⟩ := f
    intro p hp9 h kk
    obtain ⟨h1, h2, h3, h4, h5, h6⟩ := h
    refine og_aload_n dX1_grow_23 rfl rfl ?_
    refine og_getf dX1_grow_24 kfX1_37 (by assumption) (by assumption) ?_
    refine og_ifnull dX1_grow_27 ?_
    refine og_aload_n dX1_grow_30 rfl rfl ?_
    refine og_getf dX1_grow_31 kfX1_37 (by assumption) (by assumption) ?_
    refine og_astore_n dX1_grow_34 (by decide) rfl ?_
    refine og_goto (tgt := 23) dX1_grow_35 (by decide) ?_
    refine og_lv [(0, .ref hp), (1, .int x), (2, .int g), (3, .ref b)] rfl ?_
    exact ih b h2 h6 kk
theorem ct_grow {hp hb edge lim cap nd g : Nat} {l : List ob_bk} (h1 : T hp = some (1, 0)) (h0 : V hp 0 = .int (nI lim)) (h1e : V hp 1 = .ref edge) (h1c : V hp 3 = .int (nI cap)) (h2 : V hp 4 = .ref hb) (h3 : T hb = some (7, 16 * cap)) (hF : sb_Fit (B hb)) (h : ob_hq T V edge cap l) (hlim : lim ≤ 4096) (hnd : cap < nd) (hnl : nd ≤ lim) (hg : g = min lim (max nd (2 * cap))) : ob_C X mX1_grow 2 2 (4 + 16 * g) [.ref hp, .int (nI nd)] (T, V, B, J) (fun r w' => r = .inl none ∧ ∃ q hb' T' V' B' J', w' = (T', V', B', J') ∧ T hb' = none ∧ ob_hg hp T V T' V' ∧ ob_hq T' V' edge g (l ++ [(q, cap, g - cap, none)]) ∧ (∀ k, k < 3 → V' hp k = V hp k) ∧ V' hp 3 = .int (nI g) ∧ V' hp 4 = .ref hb' ∧ T' hb' = some (7, 16 * g) ∧ sb_Fit (B' hb') ∧ (∀ x y, T x = some y → B' x = B x ∧ J' x = J x) ∧ (∀ j, j < 16 * cap → B' hb' j = B hb j)) := by
  refine ob_C_of (by decide) rfl (Nat.le_of_ble_eq_true rfl) ?_
  obtain ⟨g1, g2, g3, g4⟩ := id h
  refine og_lv [(0, .ref hp), (1, .int (nI nd))] rfl ?_
  refine og_aload_n dX1_grow_0 rfl rfl ?_
  refine og_getf dX1_grow_1 kfX1_9 (by assumption) (by assumption) ?_
  refine og_iload_n dX1_grow_4 rfl ?_
  refine og_iconst (v := 2) dX1_grow_5 (by decide) ?_
  refine og_aload_n dX1_grow_6 rfl rfl ?_
  refine og_getf dX1_grow_7 kfX1_21 (by assumption) (by assumption) ?_
  refine og_imul dX1_grow_10 ?_
  refine og_mmax dX1_grow_11 kMmaxX1_97 (Nat.le_of_ble_eq_true rfl) (Nat.le_of_ble_eq_true rfl) (Nat.zero_le _) (Nat.zero_le _) kMmaxs kMi kMmaxc ?_
  refine og_st [.int (nI (max nd (2 * cap))), .int (nI lim)] ?_ ?_
  · rw [show (2 : Int32) * nI cap = nI (2 * cap) by rw [← pk_mul]; rfl]
    by_cases h9 : nd < 2 * cap
    · rw [if_pos (nI_lt h9 (by omega)), Nat.max_eq_right (by omega)]
    · rw [if_neg (nI_nlt (by omega) (by omega)), Nat.max_eq_left (by omega)]
  refine og_mmin dX1_grow_14 kMminX1_15 (Nat.le_of_ble_eq_true rfl) (Nat.le_of_ble_eq_true rfl) (Nat.zero_le _) (Nat.zero_le _) kMmins kMi kMminc ?_
  refine og_st [.int (nI g)] ?_ ?_
  · rw [hg]
    by_cases h9 : max nd (2 * cap) < lim
    · rw [if_pos (nI_lt h9 (by omega)), Nat.min_eq_right (by omega)]
    · rw [if_neg (nI_nlt (by omega) (by omega)), Nat.min_eq_left (by omega)]
  have hgc : cap < g := by omega
  have hgl : g ≤ 4096 := by omega
  refine og_istore_n dX1_grow_17 (by decide) ?_
  refine og_aload_n dX1_grow_18 rfl rfl ?_
  refine og_getf dX1_grow_19 kfX1_33 (by assumption) (by assumption) ?_
  refine og_astore_n dX1_grow_22 (by decide) rfl ?_
  refine og_lv [(0, .ref hp), (1, .int (nI nd)), (2, .int (nI g)), (3, .ref edge)] rfl ?_
  refine grow_loop l edge g1 g2 (fun hla0 hla => ?_)
  have hlm := ob_la_mem l edge
  generalize hl9 : ob_la edge l = last at *
  refine og_aload_n dX1_grow_38 rfl rfl ?_
  refine og_new dX1_grow_39 kc0 klX1_28 kn0 kt0 ob_fs0_ok (by show 0 + 1 ≤ 2; omega) (by show 0 + 4 ≤ 4 + 16 * g; omega) (fun q hq _ => ?_)
  have hq : T q = none := hq
  obtain ⟨nT1, nT2⟩ := ob_new_ext (c := 0) (n := 0) hq
  have h1' := nT1 _ _ h1
  have hla' := nT1 _ _ hla
  have h3' := nT1 _ _ h3
  have ne : ∀ x y, T x = some y → x ≠ q := fun x y hx e => by rw [e, hq] at hx; cases hx
  have hpq := ne _ _ h1
  have hlq := ne _ _ hla
  have c1 : ob_row V q ob_fs0 hp 3 = .int (nI cap) := by simp [ob_row, hpq, h1c]
  generalize hT' : ob_new T q 0 0 = T1 at *
  refine og_dup dX1_grow_42 rfl ?_
  refine og_aload_n dX1_grow_43 rfl rfl ?_
  refine og_getf dX1_grow_44 kfX1_21 (by assumption) (by assumption) ?_
  refine og_iload_n dX1_grow_47 rfl ?_
  refine og_aload_n dX1_grow_48 rfl rfl ?_
  refine og_getf dX1_grow_49 kfX1_21 (by assumption) (by assumption) ?_
  refine og_isub dX1_grow_52 ?_
  refine og_callIe dX1_grow_53 kiX1_30 (ct_Block nT2) rfl rfl ⟨Nat.le_of_ble_eq_true rfl, Nat.le_of_ble_eq_true rfl⟩ (by show 0 + 1 + 0 ≤ 2; omega) (by show 0 + 4 + 0 ≤ 4 + 16 * g; omega) (Nat.le_of_ble_eq_true rfl) ?_
  refine og_put dX1_grow_56 kfX1_37 hla' rfl rfl ?_
  have hpl : hp ≠ last := fun e => by rw [e, hla] at h1; cases h1
  generalize hV1 : ob_set (ob_set (ob_set (ob_row V q ob_fs0) q 0 (.int (nI cap))) q 1 (.int (nI g - nI cap))) last 3 (.ref q) = V1
  have far : ∀ x j, x ≠ q → V1 x j = ob_set V last 3 (.ref q) x j := fun x j h1 => by rw [← hV1]; simp [ob_set, ob_row, h1]
  have q0 : V1 q 0 = .int (nI cap) := by rw [← hV1]; simp [ob_set, hlq.symm]
  have q1 : V1 q 1 = .int (nI (g - cap)) := by rw [← hV1, ← nI_sub (by omega)]; simp [ob_set, hlq.symm]
  have q2 : V1 q 2 = .null := by rw [← hV1]; simp [ob_set, ob_row, ob_fs0, hlq.symm]
  have q3 : V1 q 3 = .null := by rw [← hV1]; simp [ob_set, ob_row, ob_fs0, hlq.symm]
  have far2 : ∀ x c n, T x = some (c, n) → c ≠ 0 → ∀ j, V1 x j = V x j := fun x c n hx hc j => by
    rw [far x j (ne x _ hx)]
    exact ob_set_a _ _ _ _ _ (fun e => by rw [e, hla] at hx; cases hx; exact hc rfl)
  have d4 : V1 hp 4 = .ref hb := by rw [far2 hp 1 0 h1 (by decide)]; exact h2
  refine og_w (T1, V1, B, J) (by rw [← hV1]) ?_
  refine og_aload_n dX1_grow_59 rfl rfl ?_
  refine og_aload_n dX1_grow_60 rfl rfl ?_
  refine og_getf dX1_grow_61 kfX1_24 (by assumption) (by assumption) ?_
  refine og_iload_n dX1_grow_64 rfl ?_
  refine og_bipush (v := 16) dX1_grow_65 (by decide) ?_
  refine og_imul dX1_grow_67 ?_
  refine og_st [.int (nI (16 * g)), .ref hb, .ref hp] (by rw [← nI_16]) ?_
  refine og_callSn dX1_grow_68 ksX1_100 (ct_copyOf h3' (by omega) (by omega) hF) rfl rfl ⟨Nat.le_of_ble_eq_true rfl, Nat.le_of_ble_eq_true rfl⟩ (by show 0 + 1 + 0 + 1 ≤ 2; omega) (by show 0 + 4 + 0 + 16 * g ≤ 4 + 16 * g; omega) (Nat.le_of_ble_eq_true rfl) rfl (fun E w' h9 => by obtain ⟨_, _, h9, _⟩ := h9; cases h9) (fun v w' h9 => ?_)
  obtain ⟨hb', hb0, hv, rfl⟩ := h9
  cases hv
  obtain ⟨mT1, mT2⟩ := ob_new_ext (c := 7) (n := 16 * g) hb0
  generalize ob_new T1 hb' 7 (16 * g) = T2 at *
  have h1' := mT1 _ _ h1'
  have hbn : ∀ x y, T x = some y → x ≠ hb' := fun x y hx e => by have := nT1 _ _ hx; rw [e, hb0] at this; cases this
  have hb00 : T hb' = none := by
    cases h9 : T hb' with
    | none => rfl
    | some y => exact absurd rfl (hbn _ _ h9)
  have d3 : sb_Fit (va_cpy (B hb) (fun _ => 0) 0 0 (16 * cap)) := sb_fitC hF sb_fit0
  refine og_put dX1_grow_71 kfX1_24 h1' rfl rfl ?_
  refine og_aload_n dX1_grow_74 rfl rfl ?_
  refine og_iload_n dX1_grow_75 rfl ?_
  refine og_put dX1_grow_76 kfX1_21 (by assumption) rfl rfl ?_
  refine og_return rfl dX1_grow_79 (by show 0 + 1 + 0 + 1 ≤ 2; omega) (by show 0 + 4 + 0 + 16 * g ≤ 4 + 16 * g; omega) ?_
  generalize hV3 : ob_set (ob_set V1 hp 4 (.ref hb')) hp 3 (.int (nI g)) = V3
  have fr3 : ∀ x j, x ≠ hp → V3 x j = V1 x j := fun x j hx => by rw [← hV3]; simp [ob_set, hx]
  have hTD : ∀ x ∈ edge :: l.map (·.1), T x = some (0, 0) := by
    intro x hx
    rcases List.mem_cons.mp hx with h9 | h9
    · rw [h9]; exact g1
    · exact ob_sg_T g2 x h9
  have hh : ∀ x ∈ edge :: l.map (·.1), x ≠ hp := fun x hx e => by have := hTD x hx; rw [e, h1] at this; cases this
  have hTT : ∀ x y, T x = some y → T2 x = some y := fun x y h => mT1 _ _ (nT1 _ _ h)
  refine ⟨rfl, q, hb', T2, V3, _, _, by rw [← hV3], hb00, ⟨hTT, fun x c n hx hc hne j => ?_⟩, ⟨hTT _ _ g1, ?_, ?_, ?_⟩, ?_, ?_, ?_, mT2, ?_, ?_, ?_⟩
  · rw [fr3 x j hne]; exact far2 x c n hx hc j
  · rw [fr3 edge 3 (hh edge (by simp)), far edge 3 (ne _ _ g1)]
    have hsn := ob_sg_snoc (v := .ref q) l edge g3 g2
    rw [hl9] at hsn
    have hqp : q ≠ hp := fun e => by rw [e, h1] at hq; cases hq
    refine ob_sg_app.mpr ⟨.ref q, ob_sg_ext hTT (ob_sg_congr (fun x hx j => ?_) hsn), rfl, mT1 _ _ nT2, ?_, ?_, ?_, ?_⟩
    · have hx' := List.mem_cons_of_mem edge hx
      rw [fr3 x j (hh x hx'), far x j (ne _ _ (hTD x hx'))]
    · rw [fr3 _ _ hqp]; exact q0
    · rw [fr3 _ _ hqp]; exact q1
    · rw [fr3 _ _ hqp]; exact q2
    · show V3 q 3 = .null
      rw [fr3 _ _ hqp]; exact q3
  · have : (edge :: l.map (·.1) ++ [q]).Nodup := by
      rw [List.nodup_append]
      exact ⟨g3, by simp, fun x hx y hy => by rw [List.mem_singleton.mp hy]; exact ne x _ (hTD x hx)⟩
    simpa using this
  · exact ob_til_app.mpr ⟨cap, g4, rfl, by omega, show cap + (g - cap) = g by omega⟩
  · intro j hj
    rw [← far2 hp 1 0 h1 (by decide) j, ← hV3]
    simp [ob_set, show j ≠ 3 by omega, show j ≠ 4 by omega]
  · rw [← hV3]; simp [ob_set]
  · rw [← hV3]; simp [ob_set]
  · simpa [ob_row] using d3
  · intro x y hx
    have := hbn x y hx
    simp [ob_row, this]
  · intro j hj
    simp [ob_row, va_cpy, hj]
end OBR
end
section
/-! THE HEAP: take -/
def ob_hs (T : ob_T) (V : ob_V) (B : ob_B) (hp edge hb lim cap used : Nat) (l : List ob_bk) : Prop := T hp = some (1, 0) ∧ V hp 0 = .int (nI lim) ∧ V hp 1 = .ref edge ∧ V hp 2 = .int (nI used) ∧ V hp 3 = .int (nI cap) ∧ V hp 4 = .ref hb ∧ T hb = some (7, 16 * cap) ∧ sb_Fit (B hb) ∧ ob_hq T V edge cap l ∧ ob_us l = used ∧ cap ≤ lim ∧ lim ≤ 4096
/-- what taking u units for a did: block b -/
def ob_tk (T : ob_T) (V : ob_V) (B : ob_B) (J : ob_J) (hp hb : Nat) (l : List ob_bk) (u a b : Nat) (T' : ob_T) (V' : ob_V) (B' : ob_B) (J' : ob_J) (hb' : Nat) (l' : List ob_bk) : Prop :=
  ob_hg hp T V T' V' ∧ (∃ s, ((b, s, u, some a) : ob_bk) ∈ l') ∧ (∀ s2 u2 a2, ((b, s2, u2, some a2) : ob_bk) ∉ l) ∧
  (∀ b2 s2 u2 a2, ((b2, s2, u2, some a2) : ob_bk) ∈ l → ∃ s', ((b2, s', u2, some a2) : ob_bk) ∈ l' ∧ ∀ j, j < 16 * u2 → B' hb' (16 * s' + j) = B hb (16 * s2 + j)) ∧
  (∀ b2 s' u2 a2, ((b2, s', u2, some a2) : ob_bk) ∈ l' → (b2 = b ∧ u2 = u ∧ a2 = a) ∨ ∃ s, ((b2, s, u2, some a2) : ob_bk) ∈ l) ∧
  (∀ x y, T x = some y → x ≠ hb → B' x = B x) ∧ (∀ x y, T x = some y → J' x = J x)
theorem ob_tk.pre {T T1 T' : ob_T} {V V1 V' : ob_V} {B B1 B' : ob_B} {J J1 J' : ob_J} {hp hb hb1 hb' u a b : Nat} {l l1 l' : List ob_bk} (h : ob_tk T1 V1 B1 J1 hp hb1 l1 u a b T' V' B' J' hb' l') (g : ob_hg hp T V T1 V1) (r : ob_rl B hb l B1 hb1 l1) (fb : ∀ x y, T x = some y → x ≠ hb → B1 x = B x ∧ x ≠ hb1) (fj : ∀ x y, T x = some y → J1 x = J x) : ob_tk T V B J hp hb l u a b T' V' B' J' hb' l' := by
  obtain ⟨h1, h2, h3, h4, h5, h6, h7⟩ := h
  refine ⟨g.tr h1, h2, fun s2 u2 a2 hm => ?_, fun b2 s2 u2 a2 hm => ?_, fun b2 s2 u2 a2 hm => ?_, fun x y hx hne => ?_, fun x y hx => ?_⟩
  · obtain ⟨s', h9, -⟩ := r.1 _ _ _ _ hm
    exact h3 _ _ _ h9
  · obtain ⟨s', h9, h8⟩ := r.1 _ _ _ _ hm
    obtain ⟨s3, h7, h6⟩ := h4 _ _ _ _ h9
    exact ⟨s3, h7, fun j hj => (h6 j hj).trans (h8 j hj)⟩
  · rcases h5 _ _ _ _ hm with h9 | ⟨s, h9⟩
    · exact Or.inl h9
    · exact Or.inr (r.2 _ _ _ _ h9)
  · have := fb x y hx hne
    rw [h6 x y (g.1 _ _ hx) this.2, this.1]
  · rw [h7 x y (g.1 _ _ hx), fj x y hx]
section OBU
variable {X : ob_X} {T : ob_T} {V : ob_V} {B : ob_B} {J : ob_J} {R : Room} {Q : ob_r → ob_w → Prop} {k n : Nat}
theorem take_end {hp edge hb lim cap used a b s m0 u : Nat} {l1 l2 : List ob_bk} (h : ob_hs T V B hp edge hb lim cap used (l1 ++ (b, s, m0, none) :: l2)) (hu : u ≤ m0) (hu1 : 1 ≤ u) (hR : 3 ≤ R.frames ∧ 180 ≤ R.locals) (hk : k + 1 ≤ R.cells) (hs : n + 4 ≤ R.slots)
    (kk : ∀ T' V' l', ob_hs T' V' B hp edge hb lim cap (used + u) l' → ob_tk T V B J hp hb (l1 ++ (b, s, m0, none) :: l2) u a b T' V' B J hb l' → Q (.inl (some (.ref b))) (T', V', B, J)) :
    ob_G X mX1_take R Q 48 [(0, .ref hp), (1, .ref a), (2, .int (nI u)), (3, .ref b)] [] (T, V, B, J) k n := by
  obtain ⟨h1, h2, h3, h4, h5, h6, h7, h8, h9, h10, h11, h12⟩ := h
  refine og_aload_n dX1_take_48 rfl rfl ?_
  refine og_iload_n dX1_take_49 rfl ?_
  refine og_callSn dX1_take_50 ksX1_55 (ct_cut h9 hu1 hu (by omega)) rfl rfl ⟨hR.1, Nat.le_trans (by decide) hR.2⟩ hk hs (Nat.le_of_ble_eq_true rfl) rfl (fun E w' h9 => by cases h9.1) (fun v w' h99 => ?_)
  obtain ⟨hv, T1, V1, l2', rfl, f1, f2, f3, f4⟩ := h99
  cases hv
  obtain ⟨g1, g2, g3, g4⟩ := id f2
  obtain ⟨v9, k1, rfl, k2, k3, k4, k5, k6⟩ := ob_sg_app.mp g2
  have h1' := f1.1 _ _ h1
  have hhb : ∀ j, V1 hp j = V hp j := f1.2 hp 1 0 h1 (by decide)
  have bhp : b ≠ hp := fun e => by rw [e, h1'] at k2; cases k2
  have e2 : ob_set V1 b 2 (.ref a) hp 2 = .int (nI used) := by rw [ob_set_a _ _ _ _ _ bhp.symm, hhb]; exact h4
  refine og_aload_n dX1_take_53 rfl rfl ?_
  refine og_aload_n dX1_take_54 rfl rfl ?_
  refine og_put dX1_take_55 kfX1_59 (by assumption) rfl rfl ?_
  refine og_aload_n dX1_take_58 rfl rfl ?_
  refine og_dup dX1_take_59 rfl ?_
  refine og_getf dX1_take_60 kfX1_44 (by assumption) (by assumption) ?_
  refine og_iload_n dX1_take_63 rfl ?_
  refine og_iadd dX1_take_64 ?_
  refine og_put dX1_take_65 kfX1_44 (by assumption) rfl rfl ?_
  refine og_aload_n dX1_take_68 rfl rfl ?_
  refine og_areturn rfl (Or.inl ⟨_, rfl⟩) (Or.inr ⟨_, rfl⟩) dX1_take_69 hk hs ?_
  rw [nI_add]
  generalize hV2 : ob_set (ob_set V1 b 2 (.ref a)) hp 2 (.int (nI (used + u))) = V2
  have far : ∀ x j, x ≠ b → x ≠ hp → V2 x j = V1 x j := fun x j ha hb => by rw [← hV2]; simp [ob_set, ha, hb]
  have hpj : ∀ j, j ≠ 2 → V2 hp j = V hp j := fun j hj => by rw [← hhb j, ← hV2]; simp [ob_set, hj]
  have hp2 : V2 hp 2 = .int (nI (used + u)) := by rw [← hV2]; simp [ob_set]
  have bj : ∀ j, j ≠ 2 → V2 b j = V1 b j := fun j hj => by rw [← hV2]; simp [ob_set, hj]
  have b2 : V2 b 2 = .ref a := by rw [← hV2]; simp [ob_set, bhp]
  have hnd2 := g3
  simp only [List.map_append, List.map_cons, List.nodup_cons, List.nodup_append, List.mem_append, List.mem_cons] at hnd2
  have hh : ∀ x, T1 x = some (0, 0) → x ≠ hp := fun x hx e => by rw [e, h1'] at hx; cases hx
  have eb : edge ≠ b := fun e => hnd2.1 (Or.inr (Or.inl e))
  have hn2 : ∀ (s2 u2 : Nat) (a2 : Nat), ((b, s2, u2, some a2) : ob_bk) ∉ l1 ++ (b, s, m0, none) :: l2 := by
    have hnd3 := h9.2.2.1
    simp only [List.map_append, List.map_cons, List.nodup_cons, List.nodup_append, List.mem_append, List.mem_cons] at hnd3
    intro s2 u2 a2 hm
    rcases List.mem_append.mp hm with h | h
    · exact hnd3.2.2.2 b (List.mem_map.mpr ⟨_, h, rfl⟩) b (Or.inl rfl) rfl
    · rcases List.mem_cons.mp h with h | h
      · cases h
      · exact hnd3.2.2.1.1 (List.mem_map.mpr ⟨_, h, rfl⟩)
  refine kk T1 V2 (l1 ++ (b, s, u, some a) :: l2') ⟨h1', by rw [hpj _ (by decide)]; exact h2, by rw [hpj _ (by decide)]; exact h3, hp2, by rw [hpj _ (by decide)]; exact h5, by rw [hpj _ (by decide)]; exact h6, f1.1 _ _ h7, h8, ⟨g1, ?_, ?_, ?_⟩, ?_, h11, h12⟩ ⟨⟨f1.1, ?_⟩, ⟨s, by simp⟩, hn2, ?_, ?_, fun _ _ _ _ => rfl, fun _ _ _ => rfl⟩
  · rw [far edge 3 eb (hh edge g1)]
    refine ob_sg_app.mpr ⟨.ref b, ob_sg_congr (fun x hx j => far x j (fun e => hnd2.2.2.2 x hx b (Or.inl rfl) e) (hh x (ob_sg_T k1 x hx))) k1, rfl, k2, by rw [bj _ (by decide)]; exact k3, by rw [bj _ (by decide)]; exact k4, b2, ?_⟩
    rw [bj _ (by decide)]
    exact ob_sg_congr (fun x hx j => far x j (fun e => hnd2.2.2.1.1 (e ▸ hx)) (hh x (ob_sg_T k6 x hx))) k6
  · simpa using g3
  · obtain ⟨mid, t1, t2⟩ := ob_til_app.mp g4
    exact ob_til_app.mpr ⟨mid, t1, t2⟩
  · rw [← h10, ob_us_app, ob_us_app]
    simp only [ob_us]
    omega
  · intro x c n9 hx hc hne j
    rw [far x j (fun e => ?_) hne]
    · exact f1.2 x c n9 hx hc j
    · have := f1.1 _ _ hx
      rw [e, k2] at this
      cases this
      exact hc rfl
  · intro b2 s2 u2 a2 hm
    refine ⟨s2, ?_, fun _ _ => rfl⟩
    rcases List.mem_append.mp hm with h | h
    · exact List.mem_append_left _ h
    · rcases List.mem_cons.mp h with h | h
      · cases h
      · exact List.mem_append_right _ (List.mem_cons_of_mem _ ((f4 _ (by simp)).mpr h))
  · intro b2 s2 u2 a2 hm
    rcases List.mem_append.mp hm with h | h
    · exact Or.inr ⟨s2, List.mem_append_left _ h⟩
    · rcases List.mem_cons.mp h with h | h
      · cases h; exact Or.inl ⟨rfl, rfl, rfl⟩
      · exact Or.inr ⟨s2, List.mem_append_right _ (List.mem_cons_of_mem _ ((f4 _ (by simp)).mp h))⟩
theorem take_mid {hp edge hb lim cap used a u : Nat} {r0 : Option Nat} {l : List ob_bk} (h : ob_hs T V B hp edge hb lim cap used l) (hu1 : 1 ≤ u) (hr : ∀ b, r0 = some b → ∃ s m0, ((b, s, m0, none) : ob_bk) ∈ l ∧ u ≤ m0) (hn : r0 = none → used + u ≤ cap) (hR : 3 ≤ R.frames ∧ 180 ≤ R.locals) (hk : k + 2 ≤ R.cells) (hs : n + 8 ≤ R.slots)
    (kk : ∀ b T' V' B' l', ob_hs T' V' B' hp edge hb lim cap (used + u) l' → ob_tk T V B J hp hb l u a b T' V' B' J hb l' → Q (.inl (some (.ref b))) (T', V', B', J)) :
    ob_G X mX1_take R Q 39 [(0, .ref hp), (1, .ref a), (2, .int (nI u)), (3, va_rf r0)] [] (T, V, B, J) k n := by
  cases r0 with
  | some b =>
    obtain ⟨s, m0, hm, hum⟩ := hr b rfl
    obtain ⟨l1, l2, rfl⟩ := List.append_of_mem hm
    refine og_lv [(0, .ref hp), (1, .ref a), (2, .int (nI u)), (3, .ref b)] rfl ?_
    refine og_aload_n dX1_take_39 rfl rfl ?_
    refine og_ifnonnull (tgt := 48) dX1_take_40 (by decide) ?_
    exact take_end h hum hu1 hR (by omega) (by omega) (fun T' V' l' a b => kk _ T' V' B l' a b)
  | none =>
    obtain ⟨h1, h2, h3, h4, h5, h6, h7, h8, h9, h10, h11, h12⟩ := id h
    refine og_lv [(0, .ref hp), (1, .ref a), (2, .int (nI u)), (3, .null)] rfl ?_
    refine og_aload_n dX1_take_39 rfl rfl ?_
    refine og_ifnonnullN dX1_take_40 ?_
    refine og_aload_n dX1_take_43 rfl rfl ?_
    have := hn rfl
    refine og_callVn dX1_take_44 kvX1_51 (ct_pushTogether h1 h3 h5 h6 h7 (by omega) h8 h9 (by omega)) rfl h1 rfl rfl ⟨hR.1, Nat.le_trans (by decide) hR.2⟩ (by omega) (by omega) (Nat.le_of_ble_eq_true rfl) rfl (fun E w' h9 => by obtain ⟨_, _, _, _, _, h9, _⟩ := h9; cases h9) (fun v w' h99 => ?_)
    obtain ⟨q, T1, V1, B1, D, hv, rfl, f1, f2, f3, f4, f5, f6⟩ := h99
    cases hv
    refine og_astore_n dX1_take_47 (by decide) rfl ?_
    refine og_lv [(0, .ref hp), (1, .ref a), (2, .int (nI u)), (3, .ref q)] rfl ?_
    have hhb : ∀ j, V1 hp j = V hp j := f1.2 hp 1 0 h1 (by decide)
    refine take_end (l1 := D) (l2 := []) ⟨f1.1 _ _ h1, by rw [hhb]; exact h2, by rw [hhb]; exact h3, by rw [hhb]; exact h4, by rw [hhb]; exact h5, by rw [hhb]; exact h6, f1.1 _ _ h7, f5, f2, ?_, h11, h12⟩ (by omega) hu1 hR (by omega) (by omega) (fun T' V' l' a b => kk _ T' V' B1 l' a (b.pre f1.g ?_ (fun x y hx hne => ⟨f4 x hne, hne⟩) (fun _ _ _ => rfl)))
    · rw [ob_us_app, f3, h10]; simp [ob_us]
    · refine f6.tr (ob_rl.same fun e he => ?_)
      rw [List.mem_append]
      exact ⟨fun h => h.resolve_right (fun h8 => he (by rw [List.mem_singleton.mp h8])), Or.inl⟩
/-- units after growing in take, 0 if it does not grow -/
def ob_gr (l : List ob_bk) (lim cap used u : Nat) : Nat := if ob_run u 0 l = false ∧ cap < used + u then min lim (max (used + u) (2 * cap)) else 0
theorem ct_take {hp edge hb lim cap used a u : Nat} {l : List ob_bk} (h : ob_hs T V B hp edge hb lim cap used l) (hu1 : 1 ≤ u) (hu : used + u ≤ lim) : ob_C X mX1_take 3 4 (12 + 16 * ob_gr l lim cap used u) [.ref hp, .ref a, .int (nI u)] (T, V, B, J) (fun r w' => ∃ b T' V' B' J' hb' l', r = .inl (some (.ref b)) ∧ w' = (T', V', B', J') ∧ ob_hs T' V' B' hp edge hb' lim (if ob_gr l lim cap used u = 0 then cap else ob_gr l lim cap used u) (used + u) l' ∧ ob_tk T V B J hp hb l u a b T' V' B' J' hb' l') := by
  refine ob_C_of (by decide) rfl (Nat.le_of_ble_eq_true rfl) ?_
  obtain ⟨h1, h2, h3, h4, h5, h6, h7, h8, h9, h10, h11, h12⟩ := id h
  refine og_lv [(0, .ref hp), (1, .ref a), (2, .int (nI u))] rfl ?_
  refine og_aload_n dX1_take_0 rfl rfl ?_
  refine og_iload_n dX1_take_1 rfl ?_
  refine og_callVn dX1_take_2 kvX1_40 (ct_firstFit h1 h3 h9 (by omega) (by omega) hu1) rfl h1 rfl rfl ⟨Nat.le_of_ble_eq_true rfl, Nat.le_of_ble_eq_true rfl⟩ (Nat.le_of_ble_eq_true rfl) (Nat.zero_le _) (Nat.le_of_ble_eq_true rfl) rfl (fun E w' h9 => by obtain ⟨_, _, _, h9, _⟩ := h9; cases h9) (fun v w' h99 => ?_)
  obtain ⟨r0, V1, l1, hv, rfl, f1, f2, f3, f4, f5, f6, f7⟩ := h99
  cases hv
  have fV : ∀ x c n, T x = some (c, n) → c ≠ 0 → ∀ j, V1 x j = V x j := fun x c n hx hc j => f4 x j (fun h => by rw [ob_sg_T h9.2.1 x h] at hx; cases hx; exact hc rfl)
  have hh := fV hp 1 0 h1 (by decide)
  have hs1 : ob_hs T V1 B hp edge hb lim cap used l1 := ⟨h1, by rw [hh]; exact h2, by rw [hh]; exact h3, by rw [hh]; exact h4, by rw [hh]; exact h5, by rw [hh]; exact h6, h7, h8, f1, f2.trans h10, h11, h12⟩
  refine og_astore_n dX1_take_5 (by decide) (va_rf_ref r0) ?_
  refine og_lv [(0, .ref hp), (1, .ref a), (2, .int (nI u)), (3, va_rf r0)] rfl ?_
  cases r0 with
  | some b =>
    have hg : ob_gr l lim cap used u = 0 := by
      refine if_neg (fun h => ?_)
      have := f7.mpr h.1
      cases this
    rw [hg]
    refine og_aload_n dX1_take_6 rfl rfl ?_
    refine og_ifnonnull (tgt := 39) dX1_take_7 (by decide) ?_
    refine take_mid hs1 hu1 f6 (fun h => by cases h) ⟨by decide, by decide⟩ (Nat.le_of_ble_eq_true rfl) (Nat.le_of_ble_eq_true rfl) ?_
    intro b T' V' B' l' x1 x2
    exact ⟨b, T', V', B', J, hb, l', rfl, rfl, x1, x2.pre ⟨fun _ _ h => h, fun x c n9 hx hc _ => fV x c n9 hx hc⟩ (ob_rl.same f3) (fun x y hx hne => ⟨rfl, hne⟩) (fun _ _ _ => rfl)⟩
  | none =>
    have hrun := f7.mp rfl
    obtain ⟨e1, e2, e3, e4, e5, e6, -⟩ := id hs1
    refine og_aload_n dX1_take_6 rfl rfl ?_
    refine og_ifnonnullN dX1_take_7 ?_
    refine og_aload_n dX1_take_10 rfl rfl ?_
    refine og_getf dX1_take_11 kfX1_21 (by assumption) (by assumption) ?_
    refine og_aload_n dX1_take_14 rfl rfl ?_
    refine og_getf dX1_take_15 kfX1_44 (by assumption) (by assumption) ?_
    refine og_isub dX1_take_18 ?_
    refine og_iload_n dX1_take_19 rfl ?_
    refine og_st [.int (nI u), .int (nI (cap - used))] ?_ ?_
    · rw [nI_sub (by have := ob_us_le h9.2.2.2; omega)]; rfl
    have hle := ob_us_le h9.2.2.2
    refine og_icmp_ge (tgt := 39) dX1_take_20 (by decide) (fun hc => ?_) (fun hc => ?_)
    · have hle2 := (nI_leI (by omega) (by omega)).mp hc
      have hg : ob_gr l lim cap used u = 0 := if_neg (fun h => by omega)
      rw [hg]
      refine take_mid (r0 := none) hs1 hu1 (fun _ h => by cases h) (fun h => by omega) ⟨by decide, by decide⟩ (Nat.le_of_ble_eq_true rfl) (Nat.le_of_ble_eq_true rfl) ?_
      intro b T' V' B' l' x1 x2
      exact ⟨b, T', V', B', J, hb, l', rfl, rfl, x1, x2.pre ⟨fun _ _ h => h, fun x c n9 hx hc _ => fV x c n9 hx hc⟩ (ob_rl.same f3) (fun x y hx hne => ⟨rfl, hne⟩) (fun _ _ _ => rfl)⟩
    · have hgt : cap < used + u := by
        rcases Nat.lt_or_ge cap (used + u) with h | h
        · exact h
        · exact absurd (nI_le (a := u) (b := cap - used) (by omega) (by omega)) hc
      have hg : ob_gr l lim cap used u = min lim (max (used + u) (2 * cap)) := if_pos ⟨hrun, hgt⟩
      generalize hgg : ob_gr l lim cap used u = g at *
      have hg0 : g ≠ 0 := by omega
      rw [if_neg hg0]
      refine og_aload_n dX1_take_23 rfl rfl ?_
      refine og_aload_n dX1_take_24 rfl rfl ?_
      refine og_getf dX1_take_25 kfX1_44 (by assumption) (by assumption) ?_
      refine og_iload_n dX1_take_28 rfl ?_
      refine og_iadd dX1_take_29 ?_
      refine og_st [.int (nI (used + u)), .ref hp] (by rw [nI_add]) ?_
      refine og_callVn dX1_take_30 kvX1_47 (ct_grow e1 e2 e3 e5 e6 h7 h8 f1 h12 hgt hu hg) rfl h1 rfl rfl ⟨Nat.le_of_ble_eq_true rfl, Nat.le_of_ble_eq_true rfl⟩ (Nat.le_of_ble_eq_true rfl) (by show 0 + 0 + (4 + 16 * g) ≤ 12 + 16 * g; omega) (Nat.le_of_ble_eq_true rfl) rfl (fun E w' h9 => by cases h9.1) (fun v w' h99 => ?_)
      obtain ⟨hv, q, hb1, T2, V2, B2, J2, rfl, g0, g1, g2, g3, g4, g5, g6, g7, g8, g9⟩ := h99
      cases hv
      have h1' := g1.1 _ _ h1
      refine og_aload_n dX1_take_33 rfl rfl ?_
      refine og_iload_n dX1_take_34 rfl ?_
      refine og_callVn dX1_take_35 kvX1_40 (ct_firstFit h1' (by rw [g3 1 (by decide)]; exact e3) g2 (by omega) (by omega) hu1) rfl h1' rfl rfl ⟨Nat.le_of_ble_eq_true rfl, Nat.le_of_ble_eq_true rfl⟩ (Nat.le_of_ble_eq_true rfl) (by show 0 + 0 + (4 + 16 * g) + 0 ≤ 12 + 16 * g; omega) (Nat.le_of_ble_eq_true rfl) rfl (fun E w' h9 => by obtain ⟨_, _, _, h9, _⟩ := h9; cases h9) (fun v w' h99 => ?_)
      obtain ⟨r1, V3, l3, hv, rfl, i1, i2, i3, i4, i5, i6, i7⟩ := h99
      cases hv
      have fV3 : ∀ x c n, T2 x = some (c, n) → c ≠ 0 → ∀ j, V3 x j = V2 x j := fun x c n hx hc j => i4 x j (fun h => by rw [ob_sg_T g2.2.1 x h] at hx; cases hx; exact hc rfl)
      have hh3 := fV3 hp 1 0 h1' (by decide)
      refine og_astore_n dX1_take_38 (by decide) (va_rf_ref r1) ?_
      refine og_lv [(0, .ref hp), (1, .ref a), (2, .int (nI u)), (3, va_rf r1)] rfl ?_
      have us2 : ob_us l3 = used := by rw [i2, ob_us_app, f2, h10]; simp [ob_us]
      refine take_mid (cap := g) (l := l3) (lim := lim) (used := used) ⟨h1', by rw [hh3, g3 0 (by decide)]; exact e2, by rw [hh3, g3 1 (by decide)]; exact e3, by rw [hh3, g3 2 (by decide)]; exact e4, by rw [hh3]; exact g4, by rw [hh3]; exact g5, g6, g7, i1, us2, by omega, h12⟩ hu1 i6 (fun h => by omega) ⟨Nat.le_of_ble_eq_true rfl, Nat.le_of_ble_eq_true rfl⟩ (Nat.le_of_ble_eq_true rfl) (by show 0 + 0 + (4 + 16 * g) + 0 + 8 ≤ 12 + 16 * g; omega) ?_
      intro b T' V' B' l' x1 x2
      refine ⟨b, T', V', B', J2, hb1, l', rfl, rfl, x1, ?_⟩
      have r1 : ob_rl B hb l B hb l1 := ob_rl.same f3
      have r2 : ob_rl B hb l1 B2 hb1 l3 := by
        have til := (ob_til_le f1.2.2.2).2
        refine ⟨fun b s u a hm => ⟨s, (i3 (b, s, u, some a) (by simp)).mpr (List.mem_append_left _ hm), fun j hj => g9 _ ?_⟩, fun b s u a hm => ⟨s, ?_⟩⟩
        · have := til _ hm
          simp only at this
          omega
        · have := (i3 (b, s, u, some a) (by simp)).mp hm
          rcases List.mem_append.mp this with h | h
          · exact h
          · cases List.mem_singleton.mp h
      refine x2.pre ⟨g1.1, fun x c n9 hx hc hne j => ?_⟩ (r1.tr r2) (fun x y hx hne => ⟨(g8 x y hx).1, fun e => by rw [e, g0] at hx; cases hx⟩) (fun x y hx => (g8 x y hx).2)
      rw [fV3 x c n9 (g1.1 _ _ hx) hc j, g1.2 x c n9 hx hc hne j, fV x c n9 hx hc j]
end OBU
end
section
/-! THE HEAP: giveBack, empty, write, read, <init>, isSound; Row.<init>, Tree.<init> -/
def ob_fs1 (j : Nat) : Value := if j = 1 ∨ j = 4 then .null else .int 0
theorem ob_fs1_ok : ∀ j, j < 5 → defaultValue (ob_ty 1 j) = ob_fs1 j := by
  intro j hj
  match j, hj with
  | 0, _ => rfl
  | 1, _ => rfl
  | 2, _ => rfl
  | 3, _ => rfl
  | 4, _ => rfl
def ob_fs2 (j : Nat) : Value := if j < 2 ∨ 6 ≤ j then .int 0 else .null
theorem ob_fs2_ok : ∀ j, j < 8 → defaultValue (ob_ty 2 j) = ob_fs2 j := by
  intro j hj
  match j, hj with
  | 0, _ => rfl
  | 1, _ => rfl
  | 2, _ => rfl
  | 3, _ => rfl
  | 4, _ => rfl
  | 5, _ => rfl
  | 6, _ => rfl
  | 7, _ => rfl
def ob_fs3 (j : Nat) : Value := if j = 1 then .int 0 else .null
theorem ob_fs3_ok : ∀ j, j < 2 → defaultValue (ob_ty 3 j) = ob_fs3 j := by
  intro j hj
  match j, hj with
  | 0, _ => rfl
  | 1, _ => rfl
theorem ob_fs4_ok : ∀ j, j < 3 → defaultValue (ob_ty 4 j) = (fun _ => Value.null) j := by
  intro j hj
  match j, hj with
  | 0, _ => rfl
  | 1, _ => rfl
  | 2, _ => rfl
section OBW
variable {X : ob_X} {T : ob_T} {V : ob_V} {B : ob_B} {J : ob_J} {R : Room} {Q : ob_r → ob_w → Prop} {k n : Nat}
theorem ct_giveBack {hp edge hb lim cap used a b s u : Nat} {l1 l2 : List ob_bk} (h : ob_hs T V B hp edge hb lim cap used (l1 ++ (b, s, u, some a) :: l2)) : ob_C X mX1_giveBack 0 0 0 [.ref hp, .ref b] (T, V, B, J) (fun r w' => ∃ V', r = .inl none ∧ w' = (T, V', B, J) ∧ u ≤ used ∧ ob_hg hp T V T V' ∧ ob_hs T V' B hp edge hb lim cap (used - u) (l1 ++ (b, s, u, none) :: l2)) := by
  refine ob_C_of (by decide) rfl (Nat.le_of_ble_eq_true rfl) ?_
  obtain ⟨h1, h2, h3, h4, h5, h6, h7, h8, h9, h10, h11, h12⟩ := id h
  obtain ⟨g1, g2, g3, g4⟩ := id h9
  obtain ⟨v9, k1, rfl, k2, k3, k4, k5, k6⟩ := ob_sg_app.mp g2
  have bhp : b ≠ hp := fun e => by rw [e, h1] at k2; cases k2
  have hle := (ob_til_le g4).2 (b, s, u, some a) (by simp)
  have hus : ob_us l1 + (u + ob_us l2) = used := by rw [← h10, ob_us_app]; rfl
  have huu : used ≤ 4096 := by have := ob_us_le g4; omega
  have e2 : ob_set V b 2 .null hp 2 = .int (nI used) := by rw [ob_set_a _ _ _ _ _ bhp.symm]; exact h4
  have e1 : ob_set V b 2 .null b 1 = .int (nI u) := by rw [ob_set_k _ _ _ _ _ (by decide)]; exact k4
  refine og_aload_n dX1_giveBack_0 rfl rfl ?_
  refine og_null dX1_giveBack_1 ?_
  refine og_put dX1_giveBack_2 kfX1_59 (by assumption) rfl rfl ?_
  refine og_aload_n dX1_giveBack_5 rfl rfl ?_
  refine og_dup dX1_giveBack_6 rfl ?_
  refine og_getf dX1_giveBack_7 kfX1_44 (by assumption) (by assumption) ?_
  refine og_aload_n dX1_giveBack_10 rfl rfl ?_
  refine og_getf dX1_giveBack_11 kfX1_63 (by assumption) (by assumption) ?_
  refine og_isub dX1_giveBack_14 ?_
  refine og_put dX1_giveBack_15 kfX1_44 (by assumption) rfl rfl ?_
  refine og_return rfl dX1_giveBack_18 (by decide) (by decide) ?_
  rw [nI_sub (by omega)]
  generalize hV2 : ob_set (ob_set V b 2 .null) hp 2 (.int (nI (used - u))) = V2
  have far : ∀ x j, x ≠ b → x ≠ hp → V2 x j = V x j := fun x j ha hb => by rw [← hV2]; simp [ob_set, ha, hb]
  have hpj : ∀ j, j ≠ 2 → V2 hp j = V hp j := fun j hj => by rw [← hV2]; simp [ob_set, hj]
  have hp2 : V2 hp 2 = .int (nI (used - u)) := by rw [← hV2]; simp [ob_set]
  have bj : ∀ j, j ≠ 2 → V2 b j = V b j := fun j hj => by rw [← hV2]; simp [ob_set, hj]
  have b2 : V2 b 2 = .null := by rw [← hV2]; simp [ob_set, bhp]
  have hnd2 := g3
  simp only [List.map_append, List.map_cons, List.nodup_cons, List.nodup_append, List.mem_append, List.mem_cons] at hnd2
  have hh : ∀ x, T x = some (0, 0) → x ≠ hp := fun x hx e => by rw [e, h1] at hx; cases hx
  have eb : edge ≠ b := fun e => hnd2.1 (Or.inr (Or.inl e))
  refine ⟨V2, rfl, by rw [← hV2], by omega, ⟨fun _ _ h => h, fun x c n9 hx hc hne j => far x j (fun e => by rw [e, k2] at hx; cases hx; exact hc rfl) hne⟩, h1, by rw [hpj _ (by decide)]; exact h2, by rw [hpj _ (by decide)]; exact h3, hp2, by rw [hpj _ (by decide)]; exact h5, by rw [hpj _ (by decide)]; exact h6, h7, h8, ⟨g1, ?_, ?_, ?_⟩, ?_, h11, h12⟩
  · rw [far edge 3 eb (hh edge g1)]
    refine ob_sg_app.mpr ⟨.ref b, ob_sg_congr (fun x hx j => far x j (fun e => hnd2.2.2.2 x hx b (Or.inl rfl) e) (hh x (ob_sg_T k1 x hx))) k1, rfl, k2, by rw [bj _ (by decide)]; exact k3, by rw [bj _ (by decide)]; exact k4, b2, ?_⟩
    rw [bj _ (by decide)]
    exact ob_sg_congr (fun x hx j => far x j (fun e => hnd2.2.2.1.1 (e ▸ hx)) (hh x (ob_sg_T k6 x hx))) k6
  · simpa using g3
  · obtain ⟨mid, t1, t2⟩ := ob_til_app.mp g4
    exact ob_til_app.mpr ⟨mid, t1, t2⟩
  · rw [ob_us_app]
    simp only [ob_us]
    omega
theorem ct_Hempty {hp edge hb lim cap used : Nat} {l : List ob_bk} (h : ob_hs T V B hp edge hb lim cap used l) (hc1 : 1 ≤ cap) : ob_C X mX1_empty 2 1 4 [.ref hp] (T, V, B, J) (fun r w' => ∃ T' V' l', r = .inl none ∧ w' = (T', V', B, J) ∧ ob_hg hp T V T' V' ∧ ob_hs T' V' B hp edge hb lim cap 0 l' ∧ ∀ b s u a, ((b, s, u, some a) : ob_bk) ∉ l') := by
  refine ob_C_of (by decide) rfl (Nat.le_of_ble_eq_true rfl) ?_
  obtain ⟨h1, h2, h3, h4, h5, h6, h7, h8, h9, h10, h11, h12⟩ := id h
  obtain ⟨g1, g2, g3, g4⟩ := id h9
  refine og_aload_n dX1_empty_0 rfl rfl ?_
  refine og_getf dX1_empty_1 kfX1_33 (by assumption) (by assumption) ?_
  refine og_new dX1_empty_4 kc0 klX1_28 kn0 kt0 ob_fs0_ok (by decide) (by decide) (fun q hq _ => ?_)
  have hq : T q = none := hq
  obtain ⟨nT1, nT2⟩ := ob_new_ext (c := 0) (n := 0) hq
  have ne : ∀ x y, T x = some y → x ≠ q := fun x y hx e => by rw [e, hq] at hx; cases hx
  have h1' := nT1 _ _ h1
  have g1' := nT1 _ _ g1
  have hpq := ne _ _ h1
  have eq := ne _ _ g1
  have c1 : ob_row V q ob_fs0 hp 3 = .int (nI cap) := by simp [ob_row, hpq, h5]
  generalize hT' : ob_new T q 0 0 = T' at *
  refine og_dup dX1_empty_7 rfl ?_
  refine og_iconst (v := 0) dX1_empty_8 (by decide) ?_
  refine og_aload_n dX1_empty_9 rfl rfl ?_
  refine og_getf dX1_empty_10 kfX1_21 (by assumption) (by assumption) ?_
  refine og_callIe dX1_empty_13 kiX1_30 (ct_Block nT2) rfl rfl ⟨by decide, by decide⟩ (by decide) (by decide) (Nat.le_of_ble_eq_true rfl) ?_
  refine og_put dX1_empty_16 kfX1_37 (by assumption) rfl rfl ?_
  refine og_aload_n dX1_empty_19 rfl rfl ?_
  refine og_iconst (v := 0) dX1_empty_20 (by decide) ?_
  refine og_put dX1_empty_21 kfX1_44 (by assumption) rfl rfl ?_
  refine og_return rfl dX1_empty_24 (by decide) (by decide) ?_
  have ehp : edge ≠ hp := fun e => by rw [e, h1] at g1; cases g1
  generalize hV2 : ob_set (ob_set (ob_set (ob_set (ob_row V q ob_fs0) q 0 (.int 0)) q 1 (.int (nI cap))) edge 3 (.ref q)) hp 2 (.int 0) = V2
  have far : ∀ x j, x ≠ q → x ≠ edge → x ≠ hp → V2 x j = V x j := fun x j ha hb hc => by rw [← hV2]; simp [ob_set, ob_row, ha, hb, hc]
  have hpj : ∀ j, j ≠ 2 → V2 hp j = V hp j := fun j hj => by rw [← hV2]; simp [ob_set, ob_row, hj, hpq, ehp.symm]
  have hp2 : V2 hp 2 = .int 0 := by rw [← hV2]; simp [ob_set]
  have q0 : V2 q 0 = .int 0 := by rw [← hV2]; simp [ob_set, hpq.symm, eq.symm]
  have q1 : V2 q 1 = .int (nI cap) := by rw [← hV2]; simp [ob_set, hpq.symm, eq.symm]
  have q2 : V2 q 2 = .null := by rw [← hV2]; simp [ob_set, ob_row, ob_fs0, hpq.symm, eq.symm]
  have q3 : V2 q 3 = .null := by rw [← hV2]; simp [ob_set, ob_row, ob_fs0, hpq.symm, eq.symm]
  have e3 : V2 edge 3 = .ref q := by rw [← hV2]; simp [ob_set, ehp]
  refine ⟨T', V2, [(q, 0, cap, none)], rfl, by rw [← hV2], ⟨nT1, fun x c n9 hx hc hne j => far x j (ne _ _ hx) (fun e => by rw [e, g1] at hx; cases hx; exact hc rfl) hne⟩, ⟨h1', by rw [hpj _ (by decide)]; exact h2, by rw [hpj _ (by decide)]; exact h3, hp2, by rw [hpj _ (by decide)]; exact h5, by rw [hpj _ (by decide)]; exact h6, nT1 _ _ h7, h8, ⟨g1', ?_, ?_, ?_⟩, rfl, h11, h12⟩, by simp⟩
  · rw [e3]; exact ⟨rfl, nT2, q0, q1, q2, q3⟩
  · simp [eq]
  · exact ⟨rfl, hc1, Nat.zero_add _⟩
theorem ct_write {hp edge hb lim cap used b s u rw9 ra nr len : Nat} {o : Option Nat} {l : List ob_bk} (h : ob_hs T V B hp edge hb lim cap used l) (hb9 : T b = some (0, 0)) (hb0 : V b 0 = .int (nI s)) (hsu : s + u ≤ cap) (hr : T rw9 = some (3, 0)) (hr0 : V rw9 0 = .ref ra) (hra : T ra = some (7, nr)) (hnr : nr < 1000000) (hF : sb_Fit (B ra)) (hl : len ≤ nr) (hlu : len ≤ 16 * u) : ob_C X mX1_write 1 0 0 [.ref hp, .ref b, .ref rw9, .int (nI len)] (T, V, B, J) (ob_e none (T, V, ob_row B hb (va_cpy (B ra) (B hb) 0 (16 * s) len), J)) := by
  refine ob_C_of (by decide) rfl (Nat.le_of_ble_eq_true rfl) ?_
  obtain ⟨h1, h2, h3, h4, h5, h6, h7, h8, h9, h10, h11, h12⟩ := id h
  refine og_aload_n dX1_write_0 rfl rfl ?_
  refine og_getf dX1_write_1 kfX1_66 (by assumption) (by assumption) ?_
  refine og_iconst (v := 0) dX1_write_4 (by decide) ?_
  refine og_aload_n dX1_write_5 rfl rfl ?_
  refine og_getf dX1_write_6 kfX1_24 (by assumption) (by assumption) ?_
  refine og_aload_n dX1_write_9 rfl rfl ?_
  refine og_getf dX1_write_10 kfX1_69 (by assumption) (by assumption) ?_
  refine og_bipush (v := 16) dX1_write_13 (by decide) ?_
  refine og_imul dX1_write_15 ?_
  refine og_iload_n dX1_write_16 rfl ?_
  refine og_copyB dX1_write_17 kAX1_72 kAn kAs kAi hra h7 (i0 := 0) rfl (nI_16 s) rfl (by omega) (by omega) ⟨by omega, by omega⟩ (fun i _ => hF _) (by decide) (by decide) ?_
  exact og_return rfl dX1_write_20 (by decide) (by decide) ⟨rfl, rfl⟩
theorem ct_read {hp edge hb lim cap used b s sk rw9 ra nr len : Nat} {l : List ob_bk} (h : ob_hs T V B hp edge hb lim cap used l) (hb9 : T b = some (0, 0)) (hb0 : V b 0 = .int (nI s)) (hsu : 16 * s + sk + len ≤ 16 * cap) (hr : T rw9 = some (3, 0)) (hr0 : V rw9 0 = .ref ra) (hra : T ra = some (7, nr)) (hnr : nr < 1000000) (hl : len ≤ nr) : ob_C X mX1_read 1 0 0 [.ref hp, .ref b, .int (nI sk), .int (nI len), .ref rw9] (T, V, B, J) (ob_e none (T, ob_set V rw9 1 (.int (nI len)), ob_row B ra (va_cpy (B hb) (B ra) (16 * s + sk) 0 len), J)) := by
  refine ob_C_of (by decide) rfl (Nat.le_of_ble_eq_true rfl) ?_
  obtain ⟨h1, h2, h3, h4, h5, h6, h7, h8, h9, h10, h11, h12⟩ := id h
  refine og_aload_n dX1_read_0 rfl rfl ?_
  refine og_getf dX1_read_1 kfX1_24 (by assumption) (by assumption) ?_
  refine og_aload_n dX1_read_4 rfl rfl ?_
  refine og_getf dX1_read_5 kfX1_69 (by assumption) (by assumption) ?_
  refine og_bipush (v := 16) dX1_read_8 (by decide) ?_
  refine og_imul dX1_read_10 ?_
  refine og_iload_n dX1_read_11 rfl ?_
  refine og_iadd dX1_read_12 ?_
  refine og_aload dX1_read_13 rfl rfl ?_
  refine og_getf dX1_read_15 kfX1_66 (by assumption) (by assumption) ?_
  refine og_iconst (v := 0) dX1_read_18 (by decide) ?_
  refine og_iload_n dX1_read_19 rfl ?_
  refine og_copyB dX1_read_20 kAX1_72 kAn kAs kAi h7 hra (i0 := 16 * s + sk) (i1 := 0) (by rw [nI_16, nI_add]) rfl rfl (by omega) (by omega) ⟨by omega, by omega⟩ (fun i _ => h8 _) (by decide) (by decide) ?_
  refine og_aload dX1_read_23 rfl rfl ?_
  refine og_iload_n dX1_read_25 rfl ?_
  refine og_put dX1_read_26 kfX1_78 (by assumption) rfl rfl ?_
  exact og_return rfl dX1_read_29 (by decide) (by decide) ⟨rfl, rfl⟩
theorem hsound_loop {hp : Nat} {cap : Nat} (hcap : cap ≤ 4096) : ∀ (l : List ob_bk) (e t : Nat) (v : Value), ob_sg T V l v .null → ob_til l e cap → t ≤ e →
    ob_G X mX1_isSound R Q 67 [(0, .ref hp), (1, .int (nI cap)), (2, .int (nI (t + ob_us l)))] [] (T, V, B, J) k n → ob_G X mX1_isSound R Q 12 [(0, .ref hp), (1, .int (nI e)), (2, .int (nI t)), (3, v)] [] (T, V, B, J) k n := by
  intro l
  induction l with
  | nil =>
    intro e t v h1 h2 h3 kk
    have hv : v = .null := h1
    have he : e = cap := h2
    subst hv
    subst he
    refine og_aload_n dX1_isSound_12 rfl rfl ?_
    refine og_ifnullN (tgt := 67) dX1_isSound_13 (by decide) ?_
    exact og_lv [(0, .ref hp), (1, .int (nI e)), (2, .int (nI t))] rfl kk
  | cons f l ih =>
    obtain ⟨b, s, u, o⟩ := f
    intro e t v h1 h2 h3 kk
    obtain ⟨rfl, g1, g2, g3, g4, g5⟩ := h1
    obtain ⟨rfl, q2, q3⟩ := h2
    have hle := (ob_til_le q3).1
    have hrf := ob_sg_v g5
    refine og_aload_n dX1_isSound_12 rfl rfl ?_
    refine og_ifnull dX1_isSound_13 ?_
    refine og_aload_n dX1_isSound_16 rfl rfl ?_
    refine og_getf dX1_isSound_17 kfX1_69 (by assumption) (by assumption) ?_
    refine og_iload_n dX1_isSound_20 rfl ?_
    refine og_icmp_ne (tgt := 32) dX1_isSound_21 (by decide) (fun z9 => absurd (rfl) z9) (fun _ => ?_)
    refine og_aload_n dX1_isSound_24 rfl rfl ?_
    refine og_getf dX1_isSound_25 kfX1_63 (by assumption) (by assumption) ?_
    refine og_iconst (v := 1) dX1_isSound_28 (by decide) ?_
    refine og_icmp_ge (tgt := 34) dX1_isSound_29 (by decide) (fun _ => ?_) (fun z9 => absurd (nI_le (a := 1) q2 (by omega)) z9)
    refine og_iload_n dX1_isSound_34 rfl ?_
    refine og_aload_n dX1_isSound_35 rfl rfl ?_
    refine og_getf dX1_isSound_36 kfX1_63 (by assumption) (by assumption) ?_
    refine og_iadd dX1_isSound_39 ?_
    refine og_istore_n dX1_isSound_40 (by decide) ?_
    refine og_iload_n dX1_isSound_41 rfl ?_
    refine og_aload_n dX1_isSound_42 rfl rfl ?_
    cases o with
    | none =>
      have g4 : V b 2 = .null := g4
      refine og_getf dX1_isSound_43 kfX1_59 (by assumption) (by assumption) ?_
      refine og_ifnonnullN dX1_isSound_46 ?_
      refine og_iconst (v := 0) dX1_isSound_49 (by decide) ?_
      refine og_goto (tgt := 57) dX1_isSound_50 (by decide) ?_
      refine og_iadd dX1_isSound_57 ?_
      refine og_st [.int (nI t)] (by rw [Int32.add_zero]) ?_
      refine og_istore_n dX1_isSound_58 (by decide) ?_
      refine og_aload_n dX1_isSound_59 rfl rfl ?_
      refine og_getf dX1_isSound_60 kfX1_37 g1 rfl ?_
      refine og_astore_n dX1_isSound_63 (by decide) hrf ?_
      refine og_goto (tgt := 12) dX1_isSound_64 (by decide) ?_
      refine og_lv [(0, .ref hp), (1, .int (nI (s + u))), (2, .int (nI t)), (3, V b 3)] (by rw [← nI_add]; rfl) ?_
      exact ih (s + u) t _ g5 q3 (by omega) kk
    | some a =>
      have g4 : V b 2 = .ref a := g4
      refine og_getf dX1_isSound_43 kfX1_59 (by assumption) (by assumption) ?_
      refine og_ifnonnull (tgt := 53) dX1_isSound_46 (by decide) ?_
      refine og_aload_n dX1_isSound_53 rfl rfl ?_
      refine og_getf dX1_isSound_54 kfX1_63 (by assumption) (by assumption) ?_
      refine og_iadd dX1_isSound_57 ?_
      refine og_istore_n dX1_isSound_58 (by decide) ?_
      refine og_aload_n dX1_isSound_59 rfl rfl ?_
      refine og_getf dX1_isSound_60 kfX1_37 g1 rfl ?_
      refine og_astore_n dX1_isSound_63 (by decide) hrf ?_
      refine og_goto (tgt := 12) dX1_isSound_64 (by decide) ?_
      refine og_lv [(0, .ref hp), (1, .int (nI (s + u))), (2, .int (nI (t + u))), (3, V b 3)] (by rw [← nI_add, ← nI_add]; rfl) ?_
      exact ih (s + u) (t + u) _ g5 q3 (by omega) (by rw [Nat.add_assoc]; exact kk)
theorem ct_Hsound {hp edge hb lim cap used : Nat} {l : List ob_bk} (h : ob_hs T V B hp edge hb lim cap used l) : ob_C X mX1_isSound 0 0 0 [.ref hp] (T, V, B, J) (ob_e (some (.int 1)) (T, V, B, J)) := by
  refine ob_C_of (by decide) rfl (Nat.le_of_ble_eq_true rfl) ?_
  obtain ⟨h1, h2, h3, h4, h5, h6, h7, h8, h9, h10, h11, h12⟩ := id h
  obtain ⟨g1, g2, g3, g4⟩ := id h9
  refine og_lv [(0, .ref hp)] rfl ?_
  refine og_iconst (v := 0) dX1_isSound_0 (by decide) ?_
  refine og_istore_n dX1_isSound_1 (by decide) ?_
  refine og_iconst (v := 0) dX1_isSound_2 (by decide) ?_
  refine og_istore_n dX1_isSound_3 (by decide) ?_
  refine og_aload_n dX1_isSound_4 rfl rfl ?_
  refine og_getf dX1_isSound_5 kfX1_33 (by assumption) (by assumption) ?_
  refine og_getf dX1_isSound_8 kfX1_37 g1 rfl ?_
  refine og_astore_n dX1_isSound_11 (by decide) (ob_sg_v g2) ?_
  refine og_lv [(0, .ref hp), (1, .int (nI 0)), (2, .int (nI 0)), (3, V edge 3)] rfl ?_
  refine hsound_loop (cap := cap) (by omega) l 0 0 _ g2 g4 (Nat.le_refl _) ?_
  rw [Nat.zero_add, h10]
  refine og_iload_n dX1_isSound_67 rfl ?_
  refine og_aload_n dX1_isSound_68 rfl rfl ?_
  refine og_getf dX1_isSound_69 kfX1_21 (by assumption) (by assumption) ?_
  refine og_icmp_ne (tgt := 113) dX1_isSound_72 (by decide) (fun z9 => absurd (rfl) z9) (fun _ => ?_)
  refine og_aload_n dX1_isSound_75 rfl rfl ?_
  refine og_getf dX1_isSound_76 kfX1_21 (by assumption) (by assumption) ?_
  refine og_aload_n dX1_isSound_79 rfl rfl ?_
  refine og_getf dX1_isSound_80 kfX1_9 (by assumption) (by assumption) ?_
  refine og_icmp_gt (tgt := 113) dX1_isSound_83 (by decide) (fun z9 => absurd z9 (fun h9 => absurd (nI_le h11 (by omega)) (Int32.not_le.mpr h9))) (fun _ => ?_)
  refine og_aload_n dX1_isSound_86 rfl rfl ?_
  refine og_getf dX1_isSound_87 kfX1_24 (by assumption) (by assumption) ?_
  refine og_alen dX1_isSound_90 (by assumption) (by decide) ?_
  refine og_aload_n dX1_isSound_91 rfl rfl ?_
  refine og_getf dX1_isSound_92 kfX1_21 (by assumption) (by assumption) ?_
  refine og_bipush (v := 16) dX1_isSound_95 (by decide) ?_
  refine og_imul dX1_isSound_97 ?_
  refine og_icmp_ne (tgt := 113) dX1_isSound_98 (by decide) (fun z9 => absurd (by rw [nI_16]) z9) (fun _ => ?_)
  refine og_iload_n dX1_isSound_101 rfl ?_
  refine og_aload_n dX1_isSound_102 rfl rfl ?_
  refine og_getf dX1_isSound_103 kfX1_44 (by assumption) (by assumption) ?_
  refine og_icmp_ne (tgt := 113) dX1_isSound_106 (by decide) (fun z9 => absurd (rfl) z9) (fun _ => ?_)
  refine og_iconst (v := 1) dX1_isSound_109 (by decide) ?_
  refine og_goto (tgt := 114) dX1_isSound_110 (by decide) ?_
  exact og_ireturn (ty := .boolean) rfl dX1_isSound_114 rfl (by decide) (by decide) ⟨rfl, rfl⟩
theorem ct_Row {r m : Nat} (hr : T r = some (3, 0)) (hm : m ≤ 100000) : ob_C X mX3_init 1 1 m [.ref r, .int (nI m)] (T, V, B, J) (fun x w' => ∃ ra, T ra = none ∧ x = .inl none ∧ w' = (ob_new T ra 7 m, ob_set V r 0 (.ref ra), ob_row B ra (fun _ => 0), ob_row J ra (fun _ => 0))) := by
  refine ob_C_of (by decide) rfl (Nat.le_of_ble_eq_true rfl) ?_
  refine og_lv [(0, .ref r), (1, .int (nI m))] rfl ?_
  refine og_aload_n dX3_init_0 rfl rfl ?_
  refine og_objInit dX3_init_1 kOX3_1 kOi kOc (Nat.le_of_ble_eq_true rfl) (Nat.le_of_ble_eq_true rfl) ?_
  refine og_aload_n dX3_init_4 rfl rfl ?_
  refine og_iload_n dX3_init_5 rfl ?_
  refine og_newa (t := 0) dX3_init_6 (Or.inl ⟨rfl, rfl⟩) kAB rfl (by omega) (Nat.le_refl 1) (by show 0 + m ≤ m; omega) (fun q hq _ => ?_)
  have hq : T q = none := hq
  obtain ⟨nT1, nT2⟩ := ob_new_ext (c := 7) (n := m) hq
  refine og_putF dX3_init_8 kfX3_7 rfl rfl (nT1 _ _ hr) rfl rfl ?_
  exact og_return rfl dX3_init_11 (Nat.le_refl _) (by show 0 + m ≤ m; omega) ⟨q, hq, rfl, rfl⟩
theorem ct_Tree {t hp : Nat} (ht : T t = some (4, 0)) (hh : T hp = some (1, 0)) : ob_C X mX4_init 2 1 8 [.ref t, .ref hp] (T, V, B, J) (fun x w' => ∃ nl T' V', T nl = none ∧ x = .inl none ∧ w' = (T', V', B, J) ∧ (∀ x y, T x = some y → T' x = some y) ∧ ob_tr T' V' t nl .leaf ∧ V' t 0 = .ref hp ∧ ∀ x y, T x = some y → x ≠ t → ∀ j, V' x j = V x j) := by
  refine ob_C_of (by decide) rfl (Nat.le_of_ble_eq_true rfl) ?_
  refine og_lv [(0, .ref t), (1, .ref hp)] rfl ?_
  refine og_aload_n dX4_init_0 rfl rfl ?_
  refine og_objInit dX4_init_1 kOX4_3 kOi kOc (by decide) (by decide) ?_
  refine og_aload_n dX4_init_4 rfl rfl ?_
  refine og_aload_n dX4_init_5 rfl rfl ?_
  refine og_putF dX4_init_6 kfX4_9 rfl rfl (by assumption) rfl rfl ?_
  refine og_aload_n dX4_init_9 rfl rfl ?_
  refine og_new dX4_init_10 kc2 klX4_15 kn2 kt2 ob_fs2_ok (by decide) (by decide) (fun q hq _ => ?_)
  have hq : T q = none := hq
  obtain ⟨nT1, nT2⟩ := ob_new_ext (c := 2) (n := 0) hq
  have ne : ∀ x y, T x = some y → x ≠ q := fun x y hx e => by rw [e, hq] at hx; cases hx
  have ht' := nT1 _ _ ht
  have htq := ne _ _ ht
  generalize hT' : ob_new T q 2 0 = T' at *
  refine og_dup dX4_init_13 rfl ?_
  refine og_iconst (v := 0) dX4_init_14 (by decide) ?_
  refine og_callIe dX4_init_15 kiX4_17 (ct_Node nT2) rfl rfl ⟨by decide, by decide⟩ (by decide) (by decide) (Nat.le_of_ble_eq_true rfl) ?_
  refine og_putF dX4_init_18 kfX4_20 rfl rfl ht' rfl rfl ?_
  generalize hV1 : ob_set (ob_set (ob_row (ob_set V t 0 (.ref hp)) q ob_fs2) q 0 (.int 0)) t 1 (.ref q) = V1
  have e1 : V1 t 1 = .ref q := by rw [← hV1]; simp [ob_set]
  have e0 : V1 t 0 = .ref hp := by rw [← hV1]; simp [ob_set, ob_row, htq]
  have e6 : V1 q 6 = .int 0 := by rw [← hV1]; simp [ob_set, ob_row, htq.symm, ob_fs2]
  have e7 : V1 q 7 = .int 0 := by rw [← hV1]; simp [ob_set, ob_row, htq.symm, ob_fs2]
  have far : ∀ x j, x ≠ q → x ≠ t → V1 x j = V x j := fun x j ha hb => by rw [← hV1]; simp [ob_set, ob_row, ha, hb]
  refine og_w (T', V1, B, J) (by rw [← hV1]) ?_
  refine og_aload_n dX4_init_21 rfl rfl ?_
  refine og_getf dX4_init_22 kfX4_20 (by assumption) (by assumption) ?_
  refine og_aload_n dX4_init_25 rfl rfl ?_
  refine og_getf dX4_init_26 kfX4_20 (by assumption) (by assumption) ?_
  refine og_put dX4_init_29 kfX4_24 (by assumption) rfl rfl ?_
  have e12 : ob_set V1 q 3 (.ref q) t 1 = .ref q := by rw [ob_set_a _ _ _ _ _ htq]; exact e1
  refine og_aload_n dX4_init_32 rfl rfl ?_
  refine og_getf dX4_init_33 kfX4_20 (by assumption) (by assumption) ?_
  refine og_aload_n dX4_init_36 rfl rfl ?_
  refine og_getf dX4_init_37 kfX4_20 (by assumption) (by assumption) ?_
  refine og_put dX4_init_40 kfX4_27 (by assumption) rfl rfl ?_
  have e13 : ob_set (ob_set V1 q 3 (.ref q)) q 4 (.ref q) t 1 = .ref q := by rw [ob_set_a _ _ _ _ _ htq]; exact e12
  refine og_aload_n dX4_init_43 rfl rfl ?_
  refine og_getf dX4_init_44 kfX4_20 (by assumption) (by assumption) ?_
  refine og_aload_n dX4_init_47 rfl rfl ?_
  refine og_getf dX4_init_48 kfX4_20 (by assumption) (by assumption) ?_
  refine og_put dX4_init_51 kfX4_30 (by assumption) rfl rfl ?_
  have e14 : ob_set (ob_set (ob_set V1 q 3 (.ref q)) q 4 (.ref q)) q 5 (.ref q) t 1 = .ref q := by rw [ob_set_a _ _ _ _ _ htq]; exact e13
  refine og_aload_n dX4_init_54 rfl rfl ?_
  refine og_aload_n dX4_init_55 rfl rfl ?_
  refine og_getf dX4_init_56 kfX4_20 (by assumption) (by assumption) ?_
  refine og_put dX4_init_59 kfX4_33 (by assumption) rfl rfl ?_
  refine og_return rfl dX4_init_62 (by decide) (by decide) ⟨q, T', _, hq, rfl, rfl, nT1, ⟨ht', ?_, ?_, ⟨nT2, ?_, ?_, ?_, ?_⟩, ?_, ⟨?_, ?_⟩, ?_⟩, ?_, ?_⟩
  · simp [ob_set, htq, e1]
  · simp [ob_set, ob_top]
  · simp [ob_set, htq.symm]
  · simp [ob_set, htq.symm]
  · simp [ob_set, htq.symm, e6]
  · simp [ob_set, htq.symm, e7]
  · simp [ob_set, htq.symm]
  · simp [ob_tm]
  · simp [ob_ads]
  · simp [ob_ads]
  · simp [ob_set, htq, e0]
  · intro x y hx hxt j
    have hxq := ne _ _ hx
    simp [ob_set, hxt, hxq, far x j hxq hxt]
theorem ct_Heap {hp lim : Nat} (hh : T hp = some (1, 0)) (h2 : V hp 2 = .int 0) (hl1 : 1 ≤ lim) (hl : lim ≤ 4096) : ob_C X mX1_init 2 3 264 [.ref hp, .int (nI lim)] (T, V, B, J) (fun x w' => ∃ T' V' B' J' edge hb l, x = .inl none ∧ w' = (T', V', B', J') ∧ ob_hg hp T V T' V' ∧ ob_hs T' V' B' hp edge hb lim (min lim 16) 0 l ∧ (∀ b s u a, ((b, s, u, some a) : ob_bk) ∉ l) ∧ T hb = none ∧ (∀ x y, T x = some y → B' x = B x ∧ J' x = J x)) := by
  refine ob_C_of (by decide) rfl (Nat.le_of_ble_eq_true rfl) ?_
  refine og_lv [(0, .ref hp), (1, .int (nI lim))] rfl ?_
  refine og_aload_n dX1_init_0 rfl rfl ?_
  refine og_objInit dX1_init_1 kOX1_3 kOi kOc (by decide) (by decide) ?_
  refine og_aload_n dX1_init_4 rfl rfl ?_
  refine og_iload_n dX1_init_5 rfl ?_
  refine og_putF dX1_init_6 kfX1_9 rfl rfl (by assumption) rfl rfl ?_
  refine og_aload_n dX1_init_9 rfl rfl ?_
  refine og_iload_n dX1_init_10 rfl ?_
  refine og_bipush (v := 16) dX1_init_11 (by decide) ?_
  refine og_mmin dX1_init_13 kMminX1_15 (Nat.le_of_ble_eq_true rfl) (Nat.le_of_ble_eq_true rfl) (by decide) (by decide) kMmins kMi kMminc ?_
  generalize hcap : min lim 16 = cap at *
  refine og_st [.int (nI cap), .ref hp] ?_ ?_
  · rw [← hcap, show (16 : Int32) = nI 16 from rfl]
    by_cases h9 : 16 < lim
    · rw [if_pos (nI_lt h9 (by omega)), Nat.min_eq_right (by omega)]
    · rw [if_neg (nI_nlt (by omega) (by omega)), Nat.min_eq_left (by omega)]
  have e3 : ob_set (ob_set V hp 0 (.int (nI lim))) hp 3 (.int (nI cap)) hp 3 = .int (nI cap) := ob_set_s _ _ _ _
  refine og_put dX1_init_16 kfX1_21 (by assumption) rfl rfl ?_
  refine og_aload_n dX1_init_19 rfl rfl ?_
  refine og_aload_n dX1_init_20 rfl rfl ?_
  refine og_getf dX1_init_21 kfX1_21 (by assumption) (by assumption) ?_
  refine og_bipush (v := 16) dX1_init_24 (by decide) ?_
  refine og_imul dX1_init_26 ?_
  refine og_st [.int (nI (16 * cap)), .ref hp] (by rw [nI_16]) ?_
  refine og_newa (t := 0) dX1_init_27 (Or.inl ⟨rfl, rfl⟩) kAB rfl (by omega) (by decide) (by show 0 + 16 * cap ≤ 264; omega) (fun hb hb0 _ => ?_)
  have hb0 : T hb = none := hb0
  obtain ⟨nT1, nT2⟩ := ob_new_ext (c := 7) (n := 16 * cap) hb0
  generalize hT1 : ob_new T hb (7 + 0) (16 * cap) = T1 at *
  have hT1' : ob_new T hb 7 (16 * cap) = T1 := hT1
  have hh1 := nT1 _ _ hh
  refine og_put dX1_init_29 kfX1_24 hh1 rfl rfl ?_
  refine og_aload_n dX1_init_32 rfl rfl ?_
  refine og_new dX1_init_33 kc0 klX1_28 kn0 kt0 ob_fs0_ok (by decide) (by show 0 + 16 * cap + 4 ≤ 264; omega) (fun ed hed _ => ?_)
  have hed : T1 ed = none := hed
  obtain ⟨mT1, mT2⟩ := ob_new_ext (c := 0) (n := 0) hed
  generalize hT2 : ob_new T1 ed 0 0 = T2 at *
  have hh2 := mT1 _ _ hh1
  have ne1 : ∀ x y, T1 x = some y → x ≠ ed := fun x y hx e => by rw [e, hed] at hx; cases hx
  have hpe := ne1 _ _ hh1
  refine og_dup dX1_init_36 rfl ?_
  refine og_iconst (v := 0) dX1_init_37 (by decide) ?_
  refine og_iconst (v := 0) dX1_init_38 (by decide) ?_
  refine og_callIe dX1_init_39 kiX1_30 (ct_Block mT2) rfl rfl ⟨by decide, by decide⟩ (by decide) (by show 0 + 16 * cap + 4 + 0 ≤ 264; omega) (Nat.le_of_ble_eq_true rfl) ?_
  refine og_putF dX1_init_42 kfX1_33 rfl rfl hh2 rfl rfl ?_
  generalize hV2 : ob_set (ob_set (ob_set (ob_row (ob_set (ob_set (ob_set V hp 0 (.int (nI lim))) hp 3 (.int (nI cap))) hp 4 (.ref hb)) ed ob_fs0) ed 0 (.int 0)) ed 1 (.int 0)) hp 1 (.ref ed) = V2
  have far : ∀ x j, x ≠ ed → x ≠ hp → V2 x j = V x j := fun x j ha hb => by rw [← hV2]; simp [ob_set, ob_row, ha, hb]
  have c0 : V2 hp 0 = .int (nI lim) := by rw [← hV2]; simp [ob_set, ob_row, hpe]
  have c1 : V2 hp 1 = .ref ed := by rw [← hV2]; simp [ob_set]
  have c2 : V2 hp 2 = .int 0 := by rw [← hV2]; simp [ob_set, ob_row, hpe, h2]
  have c3 : V2 hp 3 = .int (nI cap) := by rw [← hV2]; simp [ob_set, ob_row, hpe]
  have c4 : V2 hp 4 = .ref hb := by rw [← hV2]; simp [ob_set, ob_row, hpe]
  refine og_w (T2, V2, ob_row B hb (fun _ => 0), ob_row J hb (fun _ => 0)) (by rw [← hV2]) ?_
  refine og_aload_n dX1_init_45 rfl rfl ?_
  refine og_getf dX1_init_46 kfX1_33 (by assumption) (by assumption) ?_
  refine og_new dX1_init_49 kc0 klX1_28 kn0 kt0 ob_fs0_ok (by decide) (by show 0 + 16 * cap + 4 + 0 + 4 ≤ 264; omega) (fun q hq _ => ?_)
  have hq : T2 q = none := hq
  obtain ⟨pT1, pT2⟩ := ob_new_ext (c := 0) (n := 0) hq
  generalize hT3 : ob_new T2 q 0 0 = T3 at *
  have hh3 := pT1 _ _ hh2
  have ne2 : ∀ x y, T2 x = some y → x ≠ q := fun x y hx e => by rw [e, hq] at hx; cases hx
  have hpq := ne2 _ _ hh2
  have edq := ne2 _ _ mT2
  have c5 : ob_row V2 q ob_fs0 hp 3 = .int (nI cap) := by simp [ob_row, hpq, c3]
  refine og_dup dX1_init_52 rfl ?_
  refine og_iconst (v := 0) dX1_init_53 (by decide) ?_
  refine og_aload_n dX1_init_54 rfl rfl ?_
  refine og_getf dX1_init_55 kfX1_21 (by assumption) (by assumption) ?_
  refine og_callIe dX1_init_58 kiX1_30 (ct_Block pT2) rfl rfl ⟨by decide, by decide⟩ (by decide) (by show 0 + 16 * cap + 4 + 0 + 4 + 0 ≤ 264; omega) (Nat.le_of_ble_eq_true rfl) ?_
  have mT3 := pT1 _ _ mT2
  refine og_put dX1_init_61 kfX1_37 mT3 rfl rfl ?_
  refine og_return rfl dX1_init_64 (by decide) (by show 0 + 16 * cap + 4 + 0 + 4 + 0 ≤ 264; omega) ?_
  generalize hV3 : ob_set (ob_set (ob_set (ob_row V2 q ob_fs0) q 0 (.int 0)) q 1 (.int (nI cap))) ed 3 (.ref q) = V3
  have far3 : ∀ x j, x ≠ q → x ≠ ed → V3 x j = V2 x j := fun x j ha hb => by rw [← hV3]; simp [ob_set, ob_row, ha, hb]
  have TT : ∀ x y, T x = some y → T3 x = some y := fun x y h => pT1 _ _ (mT1 _ _ (nT1 _ _ h))
  refine ⟨T3, V3, _, _, ed, hb, [(q, 0, cap, none)], rfl, by rw [← hV3], ⟨TT, fun x c n9 hx hc hne j => ?_⟩, ⟨hh3, ?_, ?_, ?_, ?_, ?_, pT1 _ _ (mT1 _ _ nT2), ?_, ⟨mT3, ?_, ?_, ?_⟩, rfl, ?_, hl⟩, by simp, hb0, fun x y hx => ?_⟩
  · have hx1 := nT1 _ _ hx
    rw [far3 x j (ne2 _ _ (mT1 _ _ hx1)) (ne1 _ _ hx1), far x j (ne1 _ _ hx1) hne]
  · rw [far3 _ _ hpq hpe]; exact c0
  · rw [far3 _ _ hpq hpe]; exact c1
  · rw [far3 _ _ hpq hpe]; exact c2
  · rw [far3 _ _ hpq hpe]; exact c3
  · rw [far3 _ _ hpq hpe]; exact c4
  · simpa [ob_row] using sb_fit0
  · rw [show V3 ed 3 = .ref q by rw [← hV3]; simp [ob_set]]
    refine ⟨rfl, pT2, ?_, ?_, ?_, ?_⟩
    · rw [← hV3]; simp [ob_set, edq.symm]; rfl
    · rw [← hV3]; simp [ob_set, edq.symm]
    · rw [← hV3]; simp [ob_set, ob_row, edq.symm, ob_fs0, va_rf]
    · show V3 q 3 = .null
      rw [← hV3]; simp [ob_set, ob_row, edq.symm, ob_fs0]
  · simp [edq]
  · exact ⟨rfl, by omega, Nat.zero_add _⟩
  · omega
  · have : x ≠ hb := fun e => by rw [e, hb0] at hx; cases hx
    simp [ob_row, this]
end OBW
end
