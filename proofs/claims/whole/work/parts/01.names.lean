-- ===== PART A: goes FIRST, ahead of the names: the tables' words, and 'selects' of the private methods out of them =====
/-- a private method of a class that the tables say can be made, by its rows of tables_1 -/
def lw_okq (q : MethodName × Nat) : Prop := (q.1.cls ≠ "java/lang/invoke/MethodHandle" ∧ q.1.cls ≠ "java/lang/invoke/VarHandle") ∧ Cond.instantiable q.1.cls q.2 ∈ tables_1 ∧ Cond.privateMethod q.1 ∈ tables_1 ∧ Cond.instanceMethod q.1 ∈ tables_1
theorem lw_p0 : lw_okq (⟨"MendingMorningsModel", "record", "()V"⟩, 21) := ⟨⟨by decide +kernel, by decide +kernel⟩, List.mem_of_getElem? (i := 595) (by decide +kernel), List.mem_of_getElem? (i := 675) (by decide +kernel), List.mem_of_getElem? (i := 676) (by decide +kernel)⟩
theorem lw_p1 : lw_okq (⟨"MendingMorningsModel", "setFixer", "(III)V"⟩, 21) := ⟨⟨by decide +kernel, by decide +kernel⟩, List.mem_of_getElem? (i := 595) (by decide +kernel), List.mem_of_getElem? (i := 686) (by decide +kernel), List.mem_of_getElem? (i := 687) (by decide +kernel)⟩
theorem lw_p2 : lw_okq (⟨"MendingMorningsModel", "isFixer", "(I)Z"⟩, 21) := ⟨⟨by decide +kernel, by decide +kernel⟩, List.mem_of_getElem? (i := 595) (by decide +kernel), List.mem_of_getElem? (i := 694) (by decide +kernel), List.mem_of_getElem? (i := 695) (by decide +kernel)⟩
theorem lw_p3 : lw_okq (⟨"MendingMorningsModel", "ofFixer", "(II)I"⟩, 21) := ⟨⟨by decide +kernel, by decide +kernel⟩, List.mem_of_getElem? (i := 595) (by decide +kernel), List.mem_of_getElem? (i := 698) (by decide +kernel), List.mem_of_getElem? (i := 699) (by decide +kernel)⟩
theorem lw_p4 : lw_okq (⟨"MendingMorningsModel", "those", "()I"⟩, 21) := ⟨⟨by decide +kernel, by decide +kernel⟩, List.mem_of_getElem? (i := 595) (by decide +kernel), List.mem_of_getElem? (i := 702) (by decide +kernel), List.mem_of_getElem? (i := 703) (by decide +kernel)⟩
theorem lw_p5 : lw_okq (⟨"MendingMorningsModel", "findFault", "()I"⟩, 21) := ⟨⟨by decide +kernel, by decide +kernel⟩, List.mem_of_getElem? (i := 595) (by decide +kernel), List.mem_of_getElem? (i := 710) (by decide +kernel), List.mem_of_getElem? (i := 711) (by decide +kernel)⟩
theorem lw_p6 : lw_okq (⟨"MendingMorningsModel", "readsThing", "()Z"⟩, 21) := ⟨⟨by decide +kernel, by decide +kernel⟩, List.mem_of_getElem? (i := 595) (by decide +kernel), List.mem_of_getElem? (i := 714) (by decide +kernel), List.mem_of_getElem? (i := 715) (by decide +kernel)⟩
theorem lw_p7 : lw_okq (⟨"MendingMorningsModel", "readsStep", "()Z"⟩, 21) := ⟨⟨by decide +kernel, by decide +kernel⟩, List.mem_of_getElem? (i := 595) (by decide +kernel), List.mem_of_getElem? (i := 718) (by decide +kernel), List.mem_of_getElem? (i := 719) (by decide +kernel)⟩
theorem lw_p8 : lw_okq (⟨"MendingMorningsModel", "takeDigit", "(II)I"⟩, 21) := ⟨⟨by decide +kernel, by decide +kernel⟩, List.mem_of_getElem? (i := 595) (by decide +kernel), List.mem_of_getElem? (i := 722) (by decide +kernel), List.mem_of_getElem? (i := 723) (by decide +kernel)⟩
theorem lw_p9 : lw_okq (⟨"MendingMorningsModel", "character", "(I)I"⟩, 21) := ⟨⟨by decide +kernel, by decide +kernel⟩, List.mem_of_getElem? (i := 595) (by decide +kernel), List.mem_of_getElem? (i := 726) (by decide +kernel), List.mem_of_getElem? (i := 727) (by decide +kernel)⟩
theorem lw_p10 : lw_okq (⟨"MendingMorningsModel", "isNext", "(I)Z"⟩, 21) := ⟨⟨by decide +kernel, by decide +kernel⟩, List.mem_of_getElem? (i := 595) (by decide +kernel), List.mem_of_getElem? (i := 730) (by decide +kernel), List.mem_of_getElem? (i := 731) (by decide +kernel)⟩
theorem lw_p11 : lw_okq (⟨"MendingMorningsModel", "toldMany", "()I"⟩, 21) := ⟨⟨by decide +kernel, by decide +kernel⟩, List.mem_of_getElem? (i := 595) (by decide +kernel), List.mem_of_getElem? (i := 734) (by decide +kernel), List.mem_of_getElem? (i := 735) (by decide +kernel)⟩
theorem lw_p12 : lw_okq (⟨"MendingMorningsModel", "comes", "()V"⟩, 21) := ⟨⟨by decide +kernel, by decide +kernel⟩, List.mem_of_getElem? (i := 595) (by decide +kernel), List.mem_of_getElem? (i := 738) (by decide +kernel), List.mem_of_getElem? (i := 739) (by decide +kernel)⟩
theorem lw_p13 : lw_okq (⟨"MendingMorningsModel", "setThing", "(III)V"⟩, 21) := ⟨⟨by decide +kernel, by decide +kernel⟩, List.mem_of_getElem? (i := 595) (by decide +kernel), List.mem_of_getElem? (i := 742) (by decide +kernel), List.mem_of_getElem? (i := 743) (by decide +kernel)⟩
theorem lw_p14 : lw_okq (⟨"MendingMorningsModel", "isThing", "(I)Z"⟩, 21) := ⟨⟨by decide +kernel, by decide +kernel⟩, List.mem_of_getElem? (i := 595) (by decide +kernel), List.mem_of_getElem? (i := 754) (by decide +kernel), List.mem_of_getElem? (i := 755) (by decide +kernel)⟩
theorem lw_p15 : lw_okq (⟨"MendingMorningsModel", "ofThing", "(II)I"⟩, 21) := ⟨⟨by decide +kernel, by decide +kernel⟩, List.mem_of_getElem? (i := 595) (by decide +kernel), List.mem_of_getElem? (i := 758) (by decide +kernel), List.mem_of_getElem? (i := 759) (by decide +kernel)⟩
def lw_privs_1 : List (MethodName × Nat) := [(⟨"MendingMorningsModel", "record", "()V"⟩, 21), (⟨"MendingMorningsModel", "setFixer", "(III)V"⟩, 21), (⟨"MendingMorningsModel", "isFixer", "(I)Z"⟩, 21), (⟨"MendingMorningsModel", "ofFixer", "(II)I"⟩, 21), (⟨"MendingMorningsModel", "those", "()I"⟩, 21), (⟨"MendingMorningsModel", "findFault", "()I"⟩, 21), (⟨"MendingMorningsModel", "readsThing", "()Z"⟩, 21), (⟨"MendingMorningsModel", "readsStep", "()Z"⟩, 21), (⟨"MendingMorningsModel", "takeDigit", "(II)I"⟩, 21), (⟨"MendingMorningsModel", "character", "(I)I"⟩, 21), (⟨"MendingMorningsModel", "isNext", "(I)Z"⟩, 21), (⟨"MendingMorningsModel", "toldMany", "()I"⟩, 21), (⟨"MendingMorningsModel", "comes", "()V"⟩, 21), (⟨"MendingMorningsModel", "setThing", "(III)V"⟩, 21), (⟨"MendingMorningsModel", "isThing", "(I)Z"⟩, 21), (⟨"MendingMorningsModel", "ofThing", "(II)I"⟩, 21)]
theorem lw_r1 : ∀ q ∈ lw_privs_1, lw_okq q := List.forall_mem_cons.mpr ⟨lw_p0, List.forall_mem_cons.mpr ⟨lw_p1, List.forall_mem_cons.mpr ⟨lw_p2, List.forall_mem_cons.mpr ⟨lw_p3, List.forall_mem_cons.mpr ⟨lw_p4, List.forall_mem_cons.mpr ⟨lw_p5, List.forall_mem_cons.mpr ⟨lw_p6, List.forall_mem_cons.mpr ⟨lw_p7, List.forall_mem_cons.mpr ⟨lw_p8, List.forall_mem_cons.mpr ⟨lw_p9, List.forall_mem_cons.mpr ⟨lw_p10, List.forall_mem_cons.mpr ⟨lw_p11, List.forall_mem_cons.mpr ⟨lw_p12, List.forall_mem_cons.mpr ⟨lw_p13, List.forall_mem_cons.mpr ⟨lw_p14, List.forall_mem_cons.mpr ⟨lw_p15, fun _ h => absurd h List.not_mem_nil⟩⟩⟩⟩⟩⟩⟩⟩⟩⟩⟩⟩⟩⟩⟩⟩
theorem lw_p16 : lw_okq (⟨"MendingMorningsModel", "waitsAnew", "(I)V"⟩, 21) := ⟨⟨by decide +kernel, by decide +kernel⟩, List.mem_of_getElem? (i := 595) (by decide +kernel), List.mem_of_getElem? (i := 762) (by decide +kernel), List.mem_of_getElem? (i := 763) (by decide +kernel)⟩
theorem lw_p17 : lw_okq (⟨"MendingMorningsModel", "inState", "(I)I"⟩, 21) := ⟨⟨by decide +kernel, by decide +kernel⟩, List.mem_of_getElem? (i := 595) (by decide +kernel), List.mem_of_getElem? (i := 766) (by decide +kernel), List.mem_of_getElem? (i := 767) (by decide +kernel)⟩
theorem lw_p18 : lw_okq (⟨"MendingMorningsModel", "passes", "(I)V"⟩, 21) := ⟨⟨by decide +kernel, by decide +kernel⟩, List.mem_of_getElem? (i := 595) (by decide +kernel), List.mem_of_getElem? (i := 774) (by decide +kernel), List.mem_of_getElem? (i := 775) (by decide +kernel)⟩
theorem lw_p19 : lw_okq (⟨"MendingMorningsModel", "slot", "()V"⟩, 21) := ⟨⟨by decide +kernel, by decide +kernel⟩, List.mem_of_getElem? (i := 595) (by decide +kernel), List.mem_of_getElem? (i := 778) (by decide +kernel), List.mem_of_getElem? (i := 779) (by decide +kernel)⟩
theorem lw_p20 : lw_okq (⟨"MendingMorningsModel", "works", "()V"⟩, 21) := ⟨⟨by decide +kernel, by decide +kernel⟩, List.mem_of_getElem? (i := 595) (by decide +kernel), List.mem_of_getElem? (i := 782) (by decide +kernel), List.mem_of_getElem? (i := 783) (by decide +kernel)⟩
theorem lw_p21 : lw_okq (⟨"MendingMorningsModel", "endsStep", "(I)V"⟩, 21) := ⟨⟨by decide +kernel, by decide +kernel⟩, List.mem_of_getElem? (i := 595) (by decide +kernel), List.mem_of_getElem? (i := 786) (by decide +kernel), List.mem_of_getElem? (i := 787) (by decide +kernel)⟩
theorem lw_p22 : lw_okq (⟨"MendingMorningsModel", "isTested", "(I)Z"⟩, 21) := ⟨⟨by decide +kernel, by decide +kernel⟩, List.mem_of_getElem? (i := 595) (by decide +kernel), List.mem_of_getElem? (i := 790) (by decide +kernel), List.mem_of_getElem? (i := 791) (by decide +kernel)⟩
theorem lw_p23 : lw_okq (⟨"MendingMorningsModel", "endsTest", "(I)V"⟩, 21) := ⟨⟨by decide +kernel, by decide +kernel⟩, List.mem_of_getElem? (i := 595) (by decide +kernel), List.mem_of_getElem? (i := 794) (by decide +kernel), List.mem_of_getElem? (i := 795) (by decide +kernel)⟩
theorem lw_p24 : lw_okq (⟨"MendingMorningsModel", "takeAll", "()V"⟩, 21) := ⟨⟨by decide +kernel, by decide +kernel⟩, List.mem_of_getElem? (i := 595) (by decide +kernel), List.mem_of_getElem? (i := 798) (by decide +kernel), List.mem_of_getElem? (i := 799) (by decide +kernel)⟩
theorem lw_p25 : lw_okq (⟨"MendingMorningsModel", "isFree", "(I)Z"⟩, 21) := ⟨⟨by decide +kernel, by decide +kernel⟩, List.mem_of_getElem? (i := 595) (by decide +kernel), List.mem_of_getElem? (i := 802) (by decide +kernel), List.mem_of_getElem? (i := 803) (by decide +kernel)⟩
theorem lw_p26 : lw_okq (⟨"MendingMorningsModel", "longestFor", "(I)I"⟩, 21) := ⟨⟨by decide +kernel, by decide +kernel⟩, List.mem_of_getElem? (i := 595) (by decide +kernel), List.mem_of_getElem? (i := 806) (by decide +kernel), List.mem_of_getElem? (i := 807) (by decide +kernel)⟩
theorem lw_p27 : lw_okq (⟨"MendingMorningsModel", "canTake", "(II)Z"⟩, 21) := ⟨⟨by decide +kernel, by decide +kernel⟩, List.mem_of_getElem? (i := 595) (by decide +kernel), List.mem_of_getElem? (i := 810) (by decide +kernel), List.mem_of_getElem? (i := 811) (by decide +kernel)⟩
theorem lw_p28 : lw_okq (⟨"MendingMorningsModel", "waitsWithPart", "(I)Z"⟩, 21) := ⟨⟨by decide +kernel, by decide +kernel⟩, List.mem_of_getElem? (i := 595) (by decide +kernel), List.mem_of_getElem? (i := 814) (by decide +kernel), List.mem_of_getElem? (i := 815) (by decide +kernel)⟩
theorem lw_p29 : lw_okq (⟨"MendingMorningsModel", "nextStep", "(II)I"⟩, 21) := ⟨⟨by decide +kernel, by decide +kernel⟩, List.mem_of_getElem? (i := 595) (by decide +kernel), List.mem_of_getElem? (i := 818) (by decide +kernel), List.mem_of_getElem? (i := 819) (by decide +kernel)⟩
theorem lw_p30 : lw_okq (⟨"MendingMorningsModel", "isInStock", "(I)Z"⟩, 21) := ⟨⟨by decide +kernel, by decide +kernel⟩, List.mem_of_getElem? (i := 595) (by decide +kernel), List.mem_of_getElem? (i := 822) (by decide +kernel), List.mem_of_getElem? (i := 823) (by decide +kernel)⟩
theorem lw_p31 : lw_okq (⟨"MendingMorningsModel", "has", "(II)Z"⟩, 21) := ⟨⟨by decide +kernel, by decide +kernel⟩, List.mem_of_getElem? (i := 595) (by decide +kernel), List.mem_of_getElem? (i := 826) (by decide +kernel), List.mem_of_getElem? (i := 827) (by decide +kernel)⟩
def lw_privs_2 : List (MethodName × Nat) := [(⟨"MendingMorningsModel", "waitsAnew", "(I)V"⟩, 21), (⟨"MendingMorningsModel", "inState", "(I)I"⟩, 21), (⟨"MendingMorningsModel", "passes", "(I)V"⟩, 21), (⟨"MendingMorningsModel", "slot", "()V"⟩, 21), (⟨"MendingMorningsModel", "works", "()V"⟩, 21), (⟨"MendingMorningsModel", "endsStep", "(I)V"⟩, 21), (⟨"MendingMorningsModel", "isTested", "(I)Z"⟩, 21), (⟨"MendingMorningsModel", "endsTest", "(I)V"⟩, 21), (⟨"MendingMorningsModel", "takeAll", "()V"⟩, 21), (⟨"MendingMorningsModel", "isFree", "(I)Z"⟩, 21), (⟨"MendingMorningsModel", "longestFor", "(I)I"⟩, 21), (⟨"MendingMorningsModel", "canTake", "(II)Z"⟩, 21), (⟨"MendingMorningsModel", "waitsWithPart", "(I)Z"⟩, 21), (⟨"MendingMorningsModel", "nextStep", "(II)I"⟩, 21), (⟨"MendingMorningsModel", "isInStock", "(I)Z"⟩, 21), (⟨"MendingMorningsModel", "has", "(II)Z"⟩, 21)]
theorem lw_r2 : ∀ q ∈ lw_privs_2, lw_okq q := List.forall_mem_cons.mpr ⟨lw_p16, List.forall_mem_cons.mpr ⟨lw_p17, List.forall_mem_cons.mpr ⟨lw_p18, List.forall_mem_cons.mpr ⟨lw_p19, List.forall_mem_cons.mpr ⟨lw_p20, List.forall_mem_cons.mpr ⟨lw_p21, List.forall_mem_cons.mpr ⟨lw_p22, List.forall_mem_cons.mpr ⟨lw_p23, List.forall_mem_cons.mpr ⟨lw_p24, List.forall_mem_cons.mpr ⟨lw_p25, List.forall_mem_cons.mpr ⟨lw_p26, List.forall_mem_cons.mpr ⟨lw_p27, List.forall_mem_cons.mpr ⟨lw_p28, List.forall_mem_cons.mpr ⟨lw_p29, List.forall_mem_cons.mpr ⟨lw_p30, List.forall_mem_cons.mpr ⟨lw_p31, fun _ h => absurd h List.not_mem_nil⟩⟩⟩⟩⟩⟩⟩⟩⟩⟩⟩⟩⟩⟩⟩⟩
theorem lw_p32 : lw_okq (⟨"MendingMorningsModel", "takes", "(II)V"⟩, 21) := ⟨⟨by decide +kernel, by decide +kernel⟩, List.mem_of_getElem? (i := 595) (by decide +kernel), List.mem_of_getElem? (i := 830) (by decide +kernel), List.mem_of_getElem? (i := 831) (by decide +kernel)⟩
theorem lw_p33 : lw_okq (⟨"MendingMorningsModel", "waitOn", "()V"⟩, 21) := ⟨⟨by decide +kernel, by decide +kernel⟩, List.mem_of_getElem? (i := 595) (by decide +kernel), List.mem_of_getElem? (i := 834) (by decide +kernel), List.mem_of_getElem? (i := 835) (by decide +kernel)⟩
theorem lw_p34 : lw_okq (⟨"MendingMorningsModel", "findPlan", "()V"⟩, 21) := ⟨⟨by decide +kernel, by decide +kernel⟩, List.mem_of_getElem? (i := 595) (by decide +kernel), List.mem_of_getElem? (i := 842) (by decide +kernel), List.mem_of_getElem? (i := 843) (by decide +kernel)⟩
theorem lw_p35 : lw_okq (⟨"MendingMorningsModel", "findAble", "()V"⟩, 21) := ⟨⟨by decide +kernel, by decide +kernel⟩, List.mem_of_getElem? (i := 595) (by decide +kernel), List.mem_of_getElem? (i := 846) (by decide +kernel), List.mem_of_getElem? (i := 847) (by decide +kernel)⟩
theorem lw_p36 : lw_okq (⟨"MendingMorningsModel", "most", "(II)I"⟩, 21) := ⟨⟨by decide +kernel, by decide +kernel⟩, List.mem_of_getElem? (i := 595) (by decide +kernel), List.mem_of_getElem? (i := 851) (by decide +kernel), List.mem_of_getElem? (i := 852) (by decide +kernel)⟩
theorem lw_p37 : lw_okq (⟨"MendingMorningsModel", "finds", "(II)Z"⟩, 21) := ⟨⟨by decide +kernel, by decide +kernel⟩, List.mem_of_getElem? (i := 595) (by decide +kernel), List.mem_of_getElem? (i := 855) (by decide +kernel), List.mem_of_getElem? (i := 856) (by decide +kernel)⟩
theorem lw_p38 : lw_okq (⟨"MendingMorningsModel", "lowestFor", "(III)I"⟩, 21) := ⟨⟨by decide +kernel, by decide +kernel⟩, List.mem_of_getElem? (i := 595) (by decide +kernel), List.mem_of_getElem? (i := 859) (by decide +kernel), List.mem_of_getElem? (i := 860) (by decide +kernel)⟩
theorem lw_p39 : lw_okq (⟨"MendingMorningsModel", "doer", "(I)I"⟩, 21) := ⟨⟨by decide +kernel, by decide +kernel⟩, List.mem_of_getElem? (i := 595) (by decide +kernel), List.mem_of_getElem? (i := 875) (by decide +kernel), List.mem_of_getElem? (i := 876) (by decide +kernel)⟩
theorem lw_p40 : lw_okq (⟨"MendingMorningsModel", "skilled", "(I)I"⟩, 21) := ⟨⟨by decide +kernel, by decide +kernel⟩, List.mem_of_getElem? (i := 595) (by decide +kernel), List.mem_of_getElem? (i := 879) (by decide +kernel), List.mem_of_getElem? (i := 880) (by decide +kernel)⟩
theorem lw_p41 : lw_okq (⟨"MendingMorningsModel", "freeMany", "()I"⟩, 21) := ⟨⟨by decide +kernel, by decide +kernel⟩, List.mem_of_getElem? (i := 595) (by decide +kernel), List.mem_of_getElem? (i := 891) (by decide +kernel), List.mem_of_getElem? (i := 892) (by decide +kernel)⟩
theorem lw_p42 : lw_okq (⟨"MendingMorningsModel", "findMore", "(I)V"⟩, 21) := ⟨⟨by decide +kernel, by decide +kernel⟩, List.mem_of_getElem? (i := 595) (by decide +kernel), List.mem_of_getElem? (i := 911) (by decide +kernel), List.mem_of_getElem? (i := 912) (by decide +kernel)⟩
theorem lw_p43 : lw_okq (⟨"MendingMorningsModel", "isOver", "()Z"⟩, 21) := ⟨⟨by decide +kernel, by decide +kernel⟩, List.mem_of_getElem? (i := 595) (by decide +kernel), List.mem_of_getElem? (i := 923) (by decide +kernel), List.mem_of_getElem? (i := 924) (by decide +kernel)⟩
def lw_privs_3 : List (MethodName × Nat) := [(⟨"MendingMorningsModel", "takes", "(II)V"⟩, 21), (⟨"MendingMorningsModel", "waitOn", "()V"⟩, 21), (⟨"MendingMorningsModel", "findPlan", "()V"⟩, 21), (⟨"MendingMorningsModel", "findAble", "()V"⟩, 21), (⟨"MendingMorningsModel", "most", "(II)I"⟩, 21), (⟨"MendingMorningsModel", "finds", "(II)Z"⟩, 21), (⟨"MendingMorningsModel", "lowestFor", "(III)I"⟩, 21), (⟨"MendingMorningsModel", "doer", "(I)I"⟩, 21), (⟨"MendingMorningsModel", "skilled", "(I)I"⟩, 21), (⟨"MendingMorningsModel", "freeMany", "()I"⟩, 21), (⟨"MendingMorningsModel", "findMore", "(I)V"⟩, 21), (⟨"MendingMorningsModel", "isOver", "()Z"⟩, 21)]
theorem lw_r3 : ∀ q ∈ lw_privs_3, lw_okq q := List.forall_mem_cons.mpr ⟨lw_p32, List.forall_mem_cons.mpr ⟨lw_p33, List.forall_mem_cons.mpr ⟨lw_p34, List.forall_mem_cons.mpr ⟨lw_p35, List.forall_mem_cons.mpr ⟨lw_p36, List.forall_mem_cons.mpr ⟨lw_p37, List.forall_mem_cons.mpr ⟨lw_p38, List.forall_mem_cons.mpr ⟨lw_p39, List.forall_mem_cons.mpr ⟨lw_p40, List.forall_mem_cons.mpr ⟨lw_p41, List.forall_mem_cons.mpr ⟨lw_p42, List.forall_mem_cons.mpr ⟨lw_p43, fun _ h => absurd h List.not_mem_nil⟩⟩⟩⟩⟩⟩⟩⟩⟩⟩⟩⟩
def lw_privs : List (MethodName × Nat) := lw_privs_1 ++ (lw_privs_2 ++ (lw_privs_3))
def lw_tbl : List Cond := k2_sels lw_privs ++ tables_1
theorem lw_privs_ok : ∀ q ∈ lw_privs, lw_okq q := by
  show ∀ q ∈ lw_privs_1 ++ (lw_privs_2 ++ (lw_privs_3)), lw_okq q
  exact List.forall_mem_append.mpr ⟨lw_r1, List.forall_mem_append.mpr ⟨lw_r2, lw_r3⟩⟩
-- ===== end of PART A; then your names; then what follows =====
def RX0 : String := "MendingMornings$Fixer"
def TX0 : u_T := fun k => match k with
  | 0 => ("MendingMornings$Fixer", "skills", "I", false)
  | 1 => ("MendingMornings$Fixer", "speed", "I", false)
  | 2 => ("MendingMornings$Fixer", "isThere", "Z", false)
  | 3 => ("MendingMornings$Fixer", "doing", "I", false)
  | 4 => ("MendingMornings$Fixer", "left", "I", false)
  | _ => ("MendingMornings$Fixer", "stepsDone", "I", false)
def tyX0 : Nat → FieldType := fun k => match k with
  | 0 => .int
  | 1 => .int
  | 2 => .boolean
  | 3 => .int
  | 4 => .int
  | _ => .int
abbrev wsX00 : List Cond := u_ws RX0 TX0 6
theorem nmX0 : ∀ a, a < 6 → ∀ b, b < 6 → a ≠ b → (TX0 a).2.1 ≠ (TX0 b).2.1 := by decide +kernel
theorem tyX0_ok : ∀ k, k < 6 → parseFieldDescriptor (TX0 k).2.2.1 = some (tyX0 k) := by decide +kernel
abbrev cX0_init : ByteArray := prog_2_method_1_code
def yX0_init : MethodName := ⟨RX0, "<init>", "()V"⟩
abbrev cX0_start : ByteArray := prog_2_method_2_code
def yX0_start : MethodName := ⟨RX0, "start", "(II)V"⟩
abbrev cX0_becomeFree : ByteArray := prog_2_method_3_code
def yX0_becomeFree : MethodName := ⟨RX0, "becomeFree", "()V"⟩
abbrev cX0_canTakeMore : ByteArray := prog_2_method_4_code
def yX0_canTakeMore : MethodName := ⟨RX0, "canTakeMore", "()Z"⟩
abbrev cX0_copyFrom : ByteArray := prog_2_method_5_code
def yX0_copyFrom : MethodName := ⟨RX0, "copyFrom", "(LMendingMornings$Fixer;)V"⟩
def RX1 : String := "MendingMornings$History"
def TX1 : u_T := fun k => match k with
  | 0 => ("MendingMornings$History", "states", "[LMendingMornings$Morning;", true)
  | _ => ("MendingMornings$History", "size", "I", false)
def tyX1 : Nat → FieldType := fun k => match k with
  | 0 => .array (.object "MendingMornings$Morning")
  | _ => .int
abbrev wsX10 : List Cond := u_ws RX1 TX1 2
theorem nmX1 : ∀ a, a < 2 → ∀ b, b < 2 → a ≠ b → (TX1 a).2.1 ≠ (TX1 b).2.1 := by decide +kernel
theorem tyX1_ok : ∀ k, k < 2 → parseFieldDescriptor (TX1 k).2.2.1 = some (tyX1 k) := by decide +kernel
abbrev cX1_init : ByteArray := prog_3_method_1_code
def yX1_init : MethodName := ⟨RX1, "<init>", "()V"⟩
abbrev cX1_keep : ByteArray := prog_3_method_2_code
def yX1_keep : MethodName := ⟨RX1, "keep", "(LMendingMornings$Morning;)V"⟩
abbrev cX1_dropOldest : ByteArray := prog_3_method_3_code
def yX1_dropOldest : MethodName := ⟨RX1, "dropOldest", "()V"⟩
abbrev cX1_takeBack : ByteArray := prog_3_method_4_code
def yX1_takeBack : MethodName := ⟨RX1, "takeBack", "(LMendingMornings$Morning;)V"⟩
def RX2 : String := "MendingMornings$Morning"
def TX2 : u_T := fun k => match k with
  | 0 => ("MendingMornings$Morning", "fixers", "[LMendingMornings$Fixer;", true)
  | 1 => ("MendingMornings$Morning", "things", "[LMendingMornings$Thing;", true)
  | 2 => ("MendingMornings$Morning", "parts", "[I", true)
  | 3 => ("MendingMornings$Morning", "fixerCount", "I", false)
  | 4 => ("MendingMornings$Morning", "thingCount", "I", false)
  | 5 => ("MendingMornings$Morning", "patience", "I", false)
  | 6 => ("MendingMornings$Morning", "testWork", "I", false)
  | 7 => ("MendingMornings$Morning", "slots", "I", false)
  | _ => ("MendingMornings$Morning", "testsFailed", "I", false)
def tyX2 : Nat → FieldType := fun k => match k with
  | 0 => .array (.object "MendingMornings$Fixer")
  | 1 => .array (.object "MendingMornings$Thing")
  | 2 => .array .int
  | 3 => .int
  | 4 => .int
  | 5 => .int
  | 6 => .int
  | 7 => .int
  | _ => .int
abbrev wsX20 : List Cond := u_ws RX2 TX2 9
theorem nmX2 : ∀ a, a < 9 → ∀ b, b < 9 → a ≠ b → (TX2 a).2.1 ≠ (TX2 b).2.1 := by decide +kernel
theorem tyX2_ok : ∀ k, k < 9 → parseFieldDescriptor (TX2 k).2.2.1 = some (tyX2 k) := by decide +kernel
abbrev cX2_init : ByteArray := prog_4_method_1_code
def yX2_init : MethodName := ⟨RX2, "<init>", "()V"⟩
abbrev cX2_copyFrom : ByteArray := prog_4_method_2_code
def yX2_copyFrom : MethodName := ⟨RX2, "copyFrom", "(LMendingMornings$Morning;)V"⟩
abbrev cX2_hasFixer : ByteArray := prog_4_method_3_code
def yX2_hasFixer : MethodName := ⟨RX2, "hasFixer", "(I)Z"⟩
abbrev cX2_hasThing : ByteArray := prog_4_method_4_code
def yX2_hasThing : MethodName := ⟨RX2, "hasThing", "(I)Z"⟩
abbrev cX2_addFixer : ByteArray := prog_4_method_5_code
def yX2_addFixer : MethodName := ⟨RX2, "addFixer", "(II)I"⟩
abbrev cX2_addThing : ByteArray := prog_4_method_6_code
def yX2_addThing : MethodName := ⟨RX2, "addThing", "(LMendingMornings$Thing;)V"⟩
abbrev cX2_removeThings : ByteArray := prog_4_method_7_code
def yX2_removeThings : MethodName := ⟨RX2, "removeThings", "()V"⟩
abbrev cX2_fixersThere : ByteArray := prog_4_method_8_code
def yX2_fixersThere : MethodName := ⟨RX2, "fixersThere", "()I"⟩
abbrev cX2_fixersWith : ByteArray := prog_4_method_9_code
def yX2_fixersWith : MethodName := ⟨RX2, "fixersWith", "(I)I"⟩
abbrev cX2_freeFixers : ByteArray := prog_4_method_10_code
def yX2_freeFixers : MethodName := ⟨RX2, "freeFixers", "()I"⟩
abbrev cX2_fixerOf : ByteArray := prog_4_method_11_code
def yX2_fixerOf : MethodName := ⟨RX2, "fixerOf", "(I)I"⟩
abbrev cX2_thingsIn : ByteArray := prog_4_method_12_code
def yX2_thingsIn : MethodName := ⟨RX2, "thingsIn", "(I)I"⟩
abbrev cX2_isOver : ByteArray := prog_4_method_13_code
def yX2_isOver : MethodName := ⟨RX2, "isOver", "()Z"⟩
abbrev cX2_thingsFor : ByteArray := prog_4_method_14_code
def yX2_thingsFor : MethodName := ⟨RX2, "thingsFor", "(I)I"⟩
abbrev cX2_isFor : ByteArray := prog_4_method_15_code
def yX2_isFor : MethodName := ⟨RX2, "isFor", "(LMendingMornings$Thing;I)Z"⟩
abbrev cX2_isInStock : ByteArray := prog_4_method_16_code
def yX2_isInStock : MethodName := ⟨RX2, "isInStock", "(I)Z"⟩
abbrev cX2_takeIfInStock : ByteArray := prog_4_method_17_code
def yX2_takeIfInStock : MethodName := ⟨RX2, "takeIfInStock", "(LMendingMornings$Fixer;I)Z"⟩
abbrev cX2_letPass : ByteArray := prog_4_method_18_code
def yX2_letPass : MethodName := ⟨RX2, "letPass", "(I)V"⟩
abbrev cX2_letOnePass : ByteArray := prog_4_method_19_code
def yX2_letOnePass : MethodName := ⟨RX2, "letOnePass", "()V"⟩
abbrev cX2_work : ByteArray := prog_4_method_20_code
def yX2_work : MethodName := ⟨RX2, "work", "(LMendingMornings$Fixer;)V"⟩
abbrev cX2_longestWaiting : ByteArray := prog_4_method_21_code
def yX2_longestWaiting : MethodName := ⟨RX2, "longestWaiting", "(I)I"⟩
abbrev cX2_waitOn : ByteArray := prog_4_method_22_code
def yX2_waitOn : MethodName := ⟨RX2, "waitOn", "(LMendingMornings$Thing;)V"⟩
def RX3 : String := "MendingMornings$Pad"
def TX3 : u_T := fun k => match k with
  | 0 => ("MendingMornings$Pad", "signs", "[I", true)
  | 1 => ("MendingMornings$Pad", "read", "[LMendingMornings$Thing;", true)
  | 2 => ("MendingMornings$Pad", "length", "I", false)
  | 3 => ("MendingMornings$Pad", "readCount", "I", false)
  | _ => ("MendingMornings$Pad", "latest", "LMendingMornings$Thing;", false)
def tyX3 : Nat → FieldType := fun k => match k with
  | 0 => .array .int
  | 1 => .array (.object "MendingMornings$Thing")
  | 2 => .int
  | 3 => .int
  | _ => .object "MendingMornings$Thing"
abbrev wsX30 : List Cond := u_ws RX3 TX3 5
theorem nmX3 : ∀ a, a < 5 → ∀ b, b < 5 → a ≠ b → (TX3 a).2.1 ≠ (TX3 b).2.1 := by decide +kernel
theorem tyX3_ok : ∀ k, k < 5 → parseFieldDescriptor (TX3 k).2.2.1 = some (tyX3 k) := by decide +kernel
abbrev cX3_init : ByteArray := prog_5_method_1_code
def yX3_init : MethodName := ⟨RX3, "<init>", "()V"⟩
abbrev cX3_signsIn : ByteArray := prog_5_method_2_code
def yX3_signsIn : MethodName := ⟨RX3, "signsIn", "(J)I"⟩
abbrev cX3_append : ByteArray := prog_5_method_3_code
def yX3_append : MethodName := ⟨RX3, "append", "(JI)V"⟩
abbrev cX3_readThings : ByteArray := prog_5_method_4_code
def yX3_readThings : MethodName := ⟨RX3, "readThings", "()I"⟩
abbrev cX3_placeBehind : ByteArray := prog_5_method_5_code
def yX3_placeBehind : MethodName := ⟨RX3, "placeBehind", "(II)I"⟩
abbrev cX3_readFirstSkill : ByteArray := prog_5_method_6_code
def yX3_readFirstSkill : MethodName := ⟨RX3, "readFirstSkill", "(I)I"⟩
abbrev cX3_readSkill : ByteArray := prog_5_method_7_code
def yX3_readSkill : MethodName := ⟨RX3, "readSkill", "(I)I"⟩
abbrev cX3_readWork : ByteArray := prog_5_method_8_code
def yX3_readWork : MethodName := ⟨RX3, "readWork", "(I)I"⟩
abbrev cX3_readPart : ByteArray := prog_5_method_9_code
def yX3_readPart : MethodName := ⟨RX3, "readPart", "(I)I"⟩
abbrev cX3_readWeakness : ByteArray := prog_5_method_10_code
def yX3_readWeakness : MethodName := ⟨RX3, "readWeakness", "(I)I"⟩
abbrev cX3_placeBehindMark : ByteArray := prog_5_method_11_code
def yX3_placeBehindMark : MethodName := ⟨RX3, "placeBehindMark", "(II)I"⟩
def RX4 : String := "MendingMornings$Planner"
def TX4 : u_T := fun k => match k with
  | 0 => ("MendingMornings$Planner", "canTake", "[I", true)
  | 1 => ("MendingMornings$Planner", "given", "[I", true)
  | 2 => ("MendingMornings$Planner", "anyCanTake", "[I", true)
  | _ => ("MendingMornings$Planner", "fixerCount", "I", false)
def tyX4 : Nat → FieldType := fun k => match k with
  | 0 => .array .int
  | 1 => .array .int
  | 2 => .array .int
  | _ => .int
abbrev wsX40 : List Cond := u_ws RX4 TX4 4
theorem nmX4 : ∀ a, a < 4 → ∀ b, b < 4 → a ≠ b → (TX4 a).2.1 ≠ (TX4 b).2.1 := by decide +kernel
theorem tyX4_ok : ∀ k, k < 4 → parseFieldDescriptor (TX4 k).2.2.1 = some (tyX4 k) := by decide +kernel
abbrev cX4_init : ByteArray := prog_6_method_1_code
def yX4_init : MethodName := ⟨RX4, "<init>", "()V"⟩
abbrev cX4_lookAt : ByteArray := prog_6_method_2_code
def yX4_lookAt : MethodName := ⟨RX4, "lookAt", "(LMendingMornings$Morning;)V"⟩
abbrev cX4_addFixer : ByteArray := prog_6_method_3_code
def yX4_addFixer : MethodName := ⟨RX4, "addFixer", "(I)V"⟩
abbrev cX4_mostServed : ByteArray := prog_6_method_4_code
def yX4_mostServed : MethodName := ⟨RX4, "mostServed", "(II)I"⟩
abbrev cX4_makePlan : ByteArray := prog_6_method_5_code
def yX4_makePlan : MethodName := ⟨RX4, "makePlan", "(LMendingMornings$Morning;)V"⟩
abbrev cX4_lowestFor : ByteArray := prog_6_method_6_code
def yX4_lowestFor : MethodName := ⟨RX4, "lowestFor", "(III)I"⟩
def RX5 : String := "MendingMornings$Thing"
def TX5 : u_T := fun k => match k with
  | 0 => ("MendingMornings$Thing", "skills", "[I", true)
  | 1 => ("MendingMornings$Thing", "works", "[I", true)
  | 2 => ("MendingMornings$Thing", "parts", "[I", true)
  | 3 => ("MendingMornings$Thing", "stepCount", "I", false)
  | 4 => ("MendingMornings$Thing", "next", "I", false)
  | 5 => ("MendingMornings$Thing", "state", "I", false)
  | 6 => ("MendingMornings$Thing", "waited", "I", false)
  | 7 => ("MendingMornings$Thing", "failed", "I", false)
  | _ => ("MendingMornings$Thing", "weakness", "I", false)
def tyX5 : Nat → FieldType := fun k => match k with
  | 0 => .array .int
  | 1 => .array .int
  | 2 => .array .int
  | 3 => .int
  | 4 => .int
  | 5 => .int
  | 6 => .int
  | 7 => .int
  | _ => .int
abbrev wsX50 : List Cond := u_ws RX5 TX5 9
theorem nmX5 : ∀ a, a < 9 → ∀ b, b < 9 → a ≠ b → (TX5 a).2.1 ≠ (TX5 b).2.1 := by decide +kernel
theorem tyX5_ok : ∀ k, k < 9 → parseFieldDescriptor (TX5 k).2.2.1 = some (tyX5 k) := by decide +kernel
abbrev cX5_init : ByteArray := prog_7_method_1_code
def yX5_init : MethodName := ⟨RX5, "<init>", "()V"⟩
abbrev cX5_start : ByteArray := prog_7_method_2_code
def yX5_start : MethodName := ⟨RX5, "start", "()V"⟩
abbrev cX5_becomeWaiting : ByteArray := prog_7_method_3_code
def yX5_becomeWaiting : MethodName := ⟨RX5, "becomeWaiting", "()V"⟩
abbrev cX5_leaveQueue : ByteArray := prog_7_method_4_code
def yX5_leaveQueue : MethodName := ⟨RX5, "leaveQueue", "(I)V"⟩
abbrev cX5_hasStep : ByteArray := prog_7_method_5_code
def yX5_hasStep : MethodName := ⟨RX5, "hasStep", "(I)Z"⟩
abbrev cX5_addStep : ByteArray := prog_7_method_6_code
def yX5_addStep : MethodName := ⟨RX5, "addStep", "(I)V"⟩
abbrev cX5_setLastWork : ByteArray := prog_7_method_7_code
def yX5_setLastWork : MethodName := ⟨RX5, "setLastWork", "(I)V"⟩
abbrev cX5_setLastPart : ByteArray := prog_7_method_8_code
def yX5_setLastPart : MethodName := ⟨RX5, "setLastPart", "(I)V"⟩
abbrev cX5_nextSkill : ByteArray := prog_7_method_9_code
def yX5_nextSkill : MethodName := ⟨RX5, "nextSkill", "()I"⟩
abbrev cX5_nextWork : ByteArray := prog_7_method_10_code
def yX5_nextWork : MethodName := ⟨RX5, "nextWork", "(I)I"⟩
abbrev cX5_nextPart : ByteArray := prog_7_method_11_code
def yX5_nextPart : MethodName := ⟨RX5, "nextPart", "()I"⟩
abbrev cX5_endStep : ByteArray := prog_7_method_12_code
def yX5_endStep : MethodName := ⟨RX5, "endStep", "()Z"⟩
abbrev cX5_copyFrom : ByteArray := prog_7_method_13_code
def yX5_copyFrom : MethodName := ⟨RX5, "copyFrom", "(LMendingMornings$Thing;)V"⟩
def RX6 : String := "MendingMornings"
def TX6 : u_T := fun k => match k with
  | 0 => ("MendingMornings", "now", "LMendingMornings$Morning;", true)
  | 1 => ("MendingMornings", "trial", "LMendingMornings$Morning;", true)
  | 2 => ("MendingMornings", "saved", "[LMendingMornings$Morning;", true)
  | 3 => ("MendingMornings", "isSaved", "[Z", true)
  | 4 => ("MendingMornings", "history", "LMendingMornings$History;", true)
  | 5 => ("MendingMornings", "pad", "LMendingMornings$Pad;", true)
  | _ => ("MendingMornings", "planner", "LMendingMornings$Planner;", true)
def tyX6 : Nat → FieldType := fun k => match k with
  | 0 => .object "MendingMornings$Morning"
  | 1 => .object "MendingMornings$Morning"
  | 2 => .array (.object "MendingMornings$Morning")
  | 3 => .array .boolean
  | 4 => .object "MendingMornings$History"
  | 5 => .object "MendingMornings$Pad"
  | _ => .object "MendingMornings$Planner"
abbrev wsX60 : List Cond := u_ws RX6 TX6 7
theorem nmX6 : ∀ a, a < 7 → ∀ b, b < 7 → a ≠ b → (TX6 a).2.1 ≠ (TX6 b).2.1 := by decide +kernel
theorem tyX6_ok : ∀ k, k < 7 → parseFieldDescriptor (TX6 k).2.2.1 = some (tyX6 k) := by decide +kernel
abbrev cX6_init : ByteArray := prog_1_method_1_code
def yX6_init : MethodName := ⟨RX6, "<init>", "()V"⟩
abbrev cX6_set : ByteArray := prog_1_method_2_code
def yX6_set : MethodName := ⟨RX6, "set", "(II)I"⟩
abbrev cX6_come : ByteArray := prog_1_method_3_code
def yX6_come : MethodName := ⟨RX6, "come", "(II)I"⟩
abbrev cX6_away : ByteArray := prog_1_method_4_code
def yX6_away : MethodName := ⟨RX6, "away", "(IZ)I"⟩
abbrev cX6_bring : ByteArray := prog_1_method_5_code
def yX6_bring : MethodName := ⟨RX6, "bring", "()I"⟩
abbrev cX6_stock : ByteArray := prog_1_method_6_code
def yX6_stock : MethodName := ⟨RX6, "stock", "(II)I"⟩
abbrev cX6_again : ByteArray := prog_1_method_7_code
def yX6_again : MethodName := ⟨RX6, "again", "(I)I"⟩
abbrev cX6_pass : ByteArray := prog_1_method_8_code
def yX6_pass : MethodName := ⟨RX6, "pass", "(I)I"⟩
abbrev cX6_giveOut : ByteArray := prog_1_method_9_code
def yX6_giveOut : MethodName := ⟨RX6, "giveOut", "()I"⟩
abbrev cX6_clear : ByteArray := prog_1_method_10_code
def yX6_clear : MethodName := ⟨RX6, "clear", "()I"⟩
abbrev cX6_fixer : ByteArray := prog_1_method_11_code
def yX6_fixer : MethodName := ⟨RX6, "fixer", "(II)I"⟩
abbrev cX6_thing : ByteArray := prog_1_method_12_code
def yX6_thing : MethodName := ⟨RX6, "thing", "(II)I"⟩
abbrev cX6_step : ByteArray := prog_1_method_13_code
def yX6_step : MethodName := ⟨RX6, "step", "(III)I"⟩
abbrev cX6_count : ByteArray := prog_1_method_14_code
def yX6_count : MethodName := ⟨RX6, "count", "(I)I"⟩
abbrev cX6_plan : ByteArray := prog_1_method_15_code
def yX6_plan : MethodName := ⟨RX6, "plan", "(I)I"⟩
abbrev cX6_planned : ByteArray := prog_1_method_16_code
def yX6_planned : MethodName := ⟨RX6, "planned", "()I"⟩
abbrev cX6_ifAway : ByteArray := prog_1_method_17_code
def yX6_ifAway : MethodName := ⟨RX6, "ifAway", "(I)I"⟩
abbrev cX6_bestSkill : ByteArray := prog_1_method_18_code
def yX6_bestSkill : MethodName := ⟨RX6, "bestSkill", "(I)I"⟩
abbrev cX6_ifPassed : ByteArray := prog_1_method_19_code
def yX6_ifPassed : MethodName := ⟨RX6, "ifPassed", "(II)I"⟩
abbrev cX6_untilOver : ByteArray := prog_1_method_20_code
def yX6_untilOver : MethodName := ⟨RX6, "untilOver", "()I"⟩
abbrev cX6_bestPart : ByteArray := prog_1_method_21_code
def yX6_bestPart : MethodName := ⟨RX6, "bestPart", "(I)I"⟩
abbrev cX6_put : ByteArray := prog_1_method_22_code
def yX6_put : MethodName := ⟨RX6, "put", "(J)I"⟩
abbrev cX6_wipe : ByteArray := prog_1_method_23_code
def yX6_wipe : MethodName := ⟨RX6, "wipe", "()I"⟩
abbrev cX6_fault : ByteArray := prog_1_method_24_code
def yX6_fault : MethodName := ⟨RX6, "fault", "()I"⟩
abbrev cX6_undo : ByteArray := prog_1_method_25_code
def yX6_undo : MethodName := ⟨RX6, "undo", "()I"⟩
abbrev cX6_save : ByteArray := prog_1_method_26_code
def yX6_save : MethodName := ⟨RX6, "save", "(I)I"⟩
abbrev cX6_restore : ByteArray := prog_1_method_27_code
def yX6_restore : MethodName := ⟨RX6, "restore", "(I)I"⟩
abbrev cX6_isOutside : ByteArray := prog_1_method_28_code
def yX6_isOutside : MethodName := ⟨RX6, "isOutside", "(III)Z"⟩
def RX7 : String := "MendingMorningsModel"
def TX7 : u_T := fun k => match k with
  | 0 => ("MendingMorningsModel", "state", "[I", true)
  | 1 => ("MendingMorningsModel", "kept", "[I", true)
  | 2 => ("MendingMorningsModel", "history", "[I", true)
  | 3 => ("MendingMorningsModel", "recorded", "I", false)
  | 4 => ("MendingMorningsModel", "slots", "[I", true)
  | 5 => ("MendingMorningsModel", "isSaved", "[I", true)
  | 6 => ("MendingMorningsModel", "pad", "[I", true)
  | 7 => ("MendingMorningsModel", "padLength", "I", false)
  | 8 => ("MendingMorningsModel", "mended", "I", false)
  | 9 => ("MendingMorningsModel", "givenUp", "I", false)
  | 10 => ("MendingMorningsModel", "failed", "I", false)
  | 11 => ("MendingMorningsModel", "isAble", "[I", true)
  | 12 => ("MendingMorningsModel", "thingOf", "[I", true)
  | 13 => ("MendingMorningsModel", "fixerOf", "[I", true)
  | 14 => ("MendingMorningsModel", "cameFrom", "[I", true)
  | 15 => ("MendingMorningsModel", "row", "[I", true)
  | 16 => ("MendingMorningsModel", "planned", "[I", true)
  | 17 => ("MendingMorningsModel", "at", "I", false)
  | 18 => ("MendingMorningsModel", "told", "[I", true)
  | 19 => ("MendingMorningsModel", "toldSteps", "I", false)
  | _ => ("MendingMorningsModel", "toldWeakness", "I", false)
def tyX7 : Nat → FieldType := fun k => match k with
  | 0 => .array .int
  | 1 => .array .int
  | 2 => .array .int
  | 3 => .int
  | 4 => .array .int
  | 5 => .array .int
  | 6 => .array .int
  | 7 => .int
  | 8 => .int
  | 9 => .int
  | 10 => .int
  | 11 => .array .int
  | 12 => .array .int
  | 13 => .array .int
  | 14 => .array .int
  | 15 => .array .int
  | 16 => .array .int
  | 17 => .int
  | 18 => .array .int
  | 19 => .int
  | _ => .int
abbrev wsX70 : List Cond := u_ws RX7 TX7 21
theorem nmX7 : ∀ a, a < 21 → ∀ b, b < 21 → a ≠ b → (TX7 a).2.1 ≠ (TX7 b).2.1 := by decide +kernel
theorem tyX7_ok : ∀ k, k < 21 → parseFieldDescriptor (TX7 k).2.2.1 = some (tyX7 k) := by decide +kernel
abbrev cX7_init : ByteArray := prog_9_method_1_code
def yX7_init : MethodName := ⟨RX7, "<init>", "()V"⟩
abbrev cX7_moves : ByteArray := prog_9_method_3_code
def yX7_moves : MethodName := ⟨RX7, "moves", "([II[II)V"⟩
abbrev cX7_within : ByteArray := prog_9_method_4_code
def yX7_within : MethodName := ⟨RX7, "within", "(III)Z"⟩
abbrev cX7_record : ByteArray := prog_9_method_5_code
def yX7_record : MethodName := ⟨RX7, "record", "()V"⟩
abbrev cX7_isFixer : ByteArray := prog_9_method_6_code
def yX7_isFixer : MethodName := ⟨RX7, "isFixer", "(I)Z"⟩
abbrev cX7_isThing : ByteArray := prog_9_method_7_code
def yX7_isThing : MethodName := ⟨RX7, "isThing", "(I)Z"⟩
abbrev cX7_ofFixer : ByteArray := prog_9_method_8_code
def yX7_ofFixer : MethodName := ⟨RX7, "ofFixer", "(II)I"⟩
abbrev cX7_setFixer : ByteArray := prog_9_method_9_code
def yX7_setFixer : MethodName := ⟨RX7, "setFixer", "(III)V"⟩
abbrev cX7_ofThing : ByteArray := prog_9_method_10_code
def yX7_ofThing : MethodName := ⟨RX7, "ofThing", "(II)I"⟩
abbrev cX7_setThing : ByteArray := prog_9_method_11_code
def yX7_setThing : MethodName := ⟨RX7, "setThing", "(III)V"⟩
abbrev cX7_isTested : ByteArray := prog_9_method_12_code
def yX7_isTested : MethodName := ⟨RX7, "isTested", "(I)Z"⟩
abbrev cX7_nextStep : ByteArray := prog_9_method_13_code
def yX7_nextStep : MethodName := ⟨RX7, "nextStep", "(II)I"⟩
abbrev cX7_isInStock : ByteArray := prog_9_method_14_code
def yX7_isInStock : MethodName := ⟨RX7, "isInStock", "(I)Z"⟩
abbrev cX7_has : ByteArray := prog_9_method_15_code
def yX7_has : MethodName := ⟨RX7, "has", "(II)Z"⟩
abbrev cX7_isFree : ByteArray := prog_9_method_16_code
def yX7_isFree : MethodName := ⟨RX7, "isFree", "(I)Z"⟩
abbrev cX7_waitsWithPart : ByteArray := prog_9_method_17_code
def yX7_waitsWithPart : MethodName := ⟨RX7, "waitsWithPart", "(I)Z"⟩
abbrev cX7_canTake : ByteArray := prog_9_method_18_code
def yX7_canTake : MethodName := ⟨RX7, "canTake", "(II)Z"⟩
abbrev cX7_inState : ByteArray := prog_9_method_19_code
def yX7_inState : MethodName := ⟨RX7, "inState", "(I)I"⟩
abbrev cX7_waitsAnew : ByteArray := prog_9_method_20_code
def yX7_waitsAnew : MethodName := ⟨RX7, "waitsAnew", "(I)V"⟩
abbrev cX7_takes : ByteArray := prog_9_method_21_code
def yX7_takes : MethodName := ⟨RX7, "takes", "(II)V"⟩
abbrev cX7_endsTest : ByteArray := prog_9_method_22_code
def yX7_endsTest : MethodName := ⟨RX7, "endsTest", "(I)V"⟩
abbrev cX7_endsStep : ByteArray := prog_9_method_23_code
def yX7_endsStep : MethodName := ⟨RX7, "endsStep", "(I)V"⟩
abbrev cX7_works : ByteArray := prog_9_method_24_code
def yX7_works : MethodName := ⟨RX7, "works", "()V"⟩
abbrev cX7_longestFor : ByteArray := prog_9_method_25_code
def yX7_longestFor : MethodName := ⟨RX7, "longestFor", "(I)I"⟩
abbrev cX7_takeAll : ByteArray := prog_9_method_26_code
def yX7_takeAll : MethodName := ⟨RX7, "takeAll", "()V"⟩
abbrev cX7_waitOn : ByteArray := prog_9_method_27_code
def yX7_waitOn : MethodName := ⟨RX7, "waitOn", "()V"⟩
abbrev cX7_slot : ByteArray := prog_9_method_28_code
def yX7_slot : MethodName := ⟨RX7, "slot", "()V"⟩
abbrev cX7_passes : ByteArray := prog_9_method_29_code
def yX7_passes : MethodName := ⟨RX7, "passes", "(I)V"⟩
abbrev cX7_findAble : ByteArray := prog_9_method_30_code
def yX7_findAble : MethodName := ⟨RX7, "findAble", "()V"⟩
abbrev cX7_findMore : ByteArray := prog_9_method_31_code
def yX7_findMore : MethodName := ⟨RX7, "findMore", "(I)V"⟩
abbrev cX7_finds : ByteArray := prog_9_method_32_code
def yX7_finds : MethodName := ⟨RX7, "finds", "(II)Z"⟩
abbrev cX7_most : ByteArray := prog_9_method_33_code
def yX7_most : MethodName := ⟨RX7, "most", "(II)I"⟩
abbrev cX7_lowestFor : ByteArray := prog_9_method_34_code
def yX7_lowestFor : MethodName := ⟨RX7, "lowestFor", "(III)I"⟩
abbrev cX7_findPlan : ByteArray := prog_9_method_35_code
def yX7_findPlan : MethodName := ⟨RX7, "findPlan", "()V"⟩
abbrev cX7_isValue : ByteArray := prog_9_method_36_code
def yX7_isValue : MethodName := ⟨RX7, "isValue", "(II)Z"⟩
abbrev cX7_set : ByteArray := prog_9_method_37_code
def yX7_set : MethodName := ⟨RX7, "set", "(II)I"⟩
abbrev cX7_come : ByteArray := prog_9_method_38_code
def yX7_come : MethodName := ⟨RX7, "come", "(II)I"⟩
abbrev cX7_those : ByteArray := prog_9_method_39_code
def yX7_those : MethodName := ⟨RX7, "those", "()I"⟩
abbrev cX7_away : ByteArray := prog_9_method_40_code
def yX7_away : MethodName := ⟨RX7, "away", "(IZ)I"⟩
abbrev cX7_toldMany : ByteArray := prog_9_method_41_code
def yX7_toldMany : MethodName := ⟨RX7, "toldMany", "()I"⟩
abbrev cX7_comes : ByteArray := prog_9_method_42_code
def yX7_comes : MethodName := ⟨RX7, "comes", "()V"⟩
abbrev cX7_bring : ByteArray := prog_9_method_43_code
def yX7_bring : MethodName := ⟨RX7, "bring", "()I"⟩
abbrev cX7_stock : ByteArray := prog_9_method_44_code
def yX7_stock : MethodName := ⟨RX7, "stock", "(II)I"⟩
abbrev cX7_again : ByteArray := prog_9_method_45_code
def yX7_again : MethodName := ⟨RX7, "again", "(I)I"⟩
abbrev cX7_pass : ByteArray := prog_9_method_46_code
def yX7_pass : MethodName := ⟨RX7, "pass", "(I)I"⟩
abbrev cX7_giveOut : ByteArray := prog_9_method_47_code
def yX7_giveOut : MethodName := ⟨RX7, "giveOut", "()I"⟩
abbrev cX7_clear : ByteArray := prog_9_method_48_code
def yX7_clear : MethodName := ⟨RX7, "clear", "()I"⟩
abbrev cX7_fixer : ByteArray := prog_9_method_49_code
def yX7_fixer : MethodName := ⟨RX7, "fixer", "(II)I"⟩
abbrev cX7_doer : ByteArray := prog_9_method_50_code
def yX7_doer : MethodName := ⟨RX7, "doer", "(I)I"⟩
abbrev cX7_skilled : ByteArray := prog_9_method_51_code
def yX7_skilled : MethodName := ⟨RX7, "skilled", "(I)I"⟩
abbrev cX7_thing : ByteArray := prog_9_method_52_code
def yX7_thing : MethodName := ⟨RX7, "thing", "(II)I"⟩
abbrev cX7_step : ByteArray := prog_9_method_53_code
def yX7_step : MethodName := ⟨RX7, "step", "(III)I"⟩
abbrev cX7_freeMany : ByteArray := prog_9_method_54_code
def yX7_freeMany : MethodName := ⟨RX7, "freeMany", "()I"⟩
abbrev cX7_count : ByteArray := prog_9_method_55_code
def yX7_count : MethodName := ⟨RX7, "count", "(I)I"⟩
abbrev cX7_plan : ByteArray := prog_9_method_56_code
def yX7_plan : MethodName := ⟨RX7, "plan", "(I)I"⟩
abbrev cX7_planned : ByteArray := prog_9_method_57_code
def yX7_planned : MethodName := ⟨RX7, "planned", "()I"⟩
abbrev cX7_ifAway : ByteArray := prog_9_method_58_code
def yX7_ifAway : MethodName := ⟨RX7, "ifAway", "(I)I"⟩
abbrev cX7_bestSkill : ByteArray := prog_9_method_59_code
def yX7_bestSkill : MethodName := ⟨RX7, "bestSkill", "(I)I"⟩
abbrev cX7_ifPassed : ByteArray := prog_9_method_60_code
def yX7_ifPassed : MethodName := ⟨RX7, "ifPassed", "(II)I"⟩
abbrev cX7_isOver : ByteArray := prog_9_method_61_code
def yX7_isOver : MethodName := ⟨RX7, "isOver", "()Z"⟩
abbrev cX7_untilOver : ByteArray := prog_9_method_62_code
def yX7_untilOver : MethodName := ⟨RX7, "untilOver", "()I"⟩
abbrev cX7_bestPart : ByteArray := prog_9_method_63_code
def yX7_bestPart : MethodName := ⟨RX7, "bestPart", "(I)I"⟩
abbrev cX7_put : ByteArray := prog_9_method_64_code
def yX7_put : MethodName := ⟨RX7, "put", "(J)I"⟩
abbrev cX7_wipe : ByteArray := prog_9_method_65_code
def yX7_wipe : MethodName := ⟨RX7, "wipe", "()I"⟩
abbrev cX7_character : ByteArray := prog_9_method_66_code
def yX7_character : MethodName := ⟨RX7, "character", "(I)I"⟩
abbrev cX7_isNext : ByteArray := prog_9_method_67_code
def yX7_isNext : MethodName := ⟨RX7, "isNext", "(I)Z"⟩
abbrev cX7_takeDigit : ByteArray := prog_9_method_68_code
def yX7_takeDigit : MethodName := ⟨RX7, "takeDigit", "(II)I"⟩
abbrev cX7_readsStep : ByteArray := prog_9_method_69_code
def yX7_readsStep : MethodName := ⟨RX7, "readsStep", "()Z"⟩
abbrev cX7_readsThing : ByteArray := prog_9_method_70_code
def yX7_readsThing : MethodName := ⟨RX7, "readsThing", "()Z"⟩
abbrev cX7_findFault : ByteArray := prog_9_method_71_code
def yX7_findFault : MethodName := ⟨RX7, "findFault", "()I"⟩
abbrev cX7_fault : ByteArray := prog_9_method_72_code
def yX7_fault : MethodName := ⟨RX7, "fault", "()I"⟩
abbrev cX7_undo : ByteArray := prog_9_method_73_code
def yX7_undo : MethodName := ⟨RX7, "undo", "()I"⟩
abbrev cX7_save : ByteArray := prog_9_method_74_code
def yX7_save : MethodName := ⟨RX7, "save", "(I)I"⟩
abbrev cX7_restore : ByteArray := prog_9_method_75_code
def yX7_restore : MethodName := ⟨RX7, "restore", "(I)I"⟩
def RJ6 : String := "java/lang/Integer"
def TJ6 : u_T := fun k => match k with
  | _ => ("", "", "", false)
def tyJ6 : Nat → FieldType := fun k => match k with
  | _ => .int
abbrev wsJ60 : List Cond := u_ws RJ6 TJ6 0
theorem nmJ6 : ∀ a, a < 0 → ∀ b, b < 0 → a ≠ b → (TJ6 a).2.1 ≠ (TJ6 b).2.1 := by decide +kernel
theorem tyJ6_ok : ∀ k, k < 0 → parseFieldDescriptor (TJ6 k).2.2.1 = some (tyJ6 k) := by decide +kernel
abbrev cJ6_bitCount_0f7a4 : ByteArray := prog_10_method_49_code
def yJ6_bitCount_0f7a4 : MethodName := ⟨RJ6, "bitCount", "(I)I"⟩
def RJ9 : String := "java/lang/Math"
def TJ9 : u_T := fun k => match k with
  | _ => ("", "", "", false)
def tyJ9 : Nat → FieldType := fun k => match k with
  | _ => .int
abbrev wsJ90 : List Cond := u_ws RJ9 TJ9 0
theorem nmJ9 : ∀ a, a < 0 → ∀ b, b < 0 → a ≠ b → (TJ9 a).2.1 ≠ (TJ9 b).2.1 := by decide +kernel
theorem tyJ9_ok : ∀ k, k < 0 → parseFieldDescriptor (TJ9 k).2.2.1 = some (tyJ9 k) := by decide +kernel
abbrev cJ9_min_7cf53 : ByteArray := prog_11_method_69_code
def yJ9_min_7cf53 : MethodName := ⟨RJ9, "min", "(II)I"⟩
def RL : String := "MendingMorningsLaw"
abbrev cL_law : ByteArray := code
def yL_law : MethodName := ⟨RL, "law", "([I)Z"⟩
abbrev vwCl : List vw_C := [(RX0, TX0, 6), (RX1, TX1, 2), (RX2, TX2, 9), (RX3, TX3, 5), (RX4, TX4, 4), (RX5, TX5, 9), (RX6, TX6, 7), (RX7, TX7, 21)]
