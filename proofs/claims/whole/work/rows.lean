section
-- ===== PART A: goes FIRST, ahead of the names: the tables' words, and 'selects' of the private methods out of them =====
/-- a private method of a class that the tables say can be made, by its rows of tables_1 -/
def lw_okq (q : MethodName × Nat) : Prop := (q.1.cls ≠ "java/lang/invoke/MethodHandle" ∧ q.1.cls ≠ "java/lang/invoke/VarHandle") ∧ Cond.instantiable q.1.cls q.2 ∈ tables_1 ∧ Cond.privateMethod q.1 ∈ tables_1 ∧ Cond.instanceMethod q.1 ∈ tables_1
theorem lw_p0 : lw_okq (⟨"MendingMorningsModel", "record", "()V"⟩, 21) := ⟨⟨by decide +kernel, by decide +kernel⟩, List.mem_of_getElem? (i := 595) (by decide +kernel), List.mem_of_getElem? (i := 675) (by decide +kernel), List.mem_of_getElem? (i := 676) (by decide +kernel)⟩
theorem lw_p1 : lw_okq (⟨"MendingMorningsModel", "setFixer", "(III)V"⟩, 21) := ⟨⟨by decide +kernel, by decide +kernel⟩, List.mem_of_getElem? (i := 595) (by decide +kernel), List.mem_of_getElem? (i := 686) (by decide +kernel), List.mem_of_getElem? (i := 687) (by decide +kernel)⟩
theorem lw_p2 : lw_okq (⟨"MendingMorningsModel", "isFixer", "(I)Z"⟩, 21) := ⟨⟨by decide +kernel, by decide +kernel⟩, List.mem_of_getElem? (i := 595) (by decide +kernel), List.mem_of_getElem? (i := 694) (by decide +kernel), List.mem_of_getElem? (i := 695) (by decide +kernel)⟩
theorem lw_p3 : lw_okq (⟨"MendingMorningsModel", "ofFixer", "(II)I"⟩, 21) := ⟨⟨by decide +kernel, by decide +kernel⟩, List.mem_of_getElem? (i := 595) (by decide +kernel), List.mem_of_getElem? (i := 698) (by decide +kernel), List.mem_of_getElem? (i := 699) (by decide +kernel)⟩
theorem lw_p4 : lw_okq (⟨"MendingMorningsModel", "those", "()I"⟩, 21) := ⟨⟨by decide +kernel, by decide +kernel⟩, List.mem_of_getElem? (i := 595) (by decide +kernel), List.mem_of_getElem? (i := 702) (by decide +kernel), List.mem_of_getElem? (i := 703) (by decide +kernel)⟩
theorem lw_p5 : lw_okq (⟨"MendingMorningsModel", "findFault", "()I"⟩, 21) := ⟨⟨by decide +kernel, by decide +kernel⟩, List.mem_of_getElem? (i := 595) (by decide +kernel), List.mem_of_getElem? (i := 710) (by decide +kernel), List.mem_of_getElem? (i := 711) (by decide +kernel)⟩
theorem lw_p6 : lw_okq (⟨"MendingMorningsModel", "readsThing", "()Z"⟩, 21) := ⟨⟨by decide +kernel, by decide +kernel⟩, List.mem_of_getElem? (i := 595) (by decide +kernel), List.mem_of_getElem? (i := 714) (by decide +kernel), List.mem_of_getElem? (i := 715) (by decide +kernel)⟩
theorem lw_p7 : lw_okq (⟨"MendingMorningsModel", "readsStep", "()Z"⟩, 21) := ⟨⟨by decide +kernel, by decide +kernel⟩, List.mem_of_getElem? (i := 595) (by decide +kernel), List.mem_of_getElem? (i := 718) (by decide +kernel), List.mem_of_getElem? (i := 719) (by decide +kernel)⟩
theorem lw_p8 : lw_okq (⟨"MendingMorningsModel", "takeDigit", "(II)I"⟩, 21) := ⟨⟨by decide +kernel, by decide +kernel⟩, List.mem_of_getElem? (i := 595) (by decide +kernel), List.mem_of_getElem? (i := 722) (by decide +kernel), List.mem_of_getElem? (i := 723) (by decide +kernel)⟩
theorem lw_p9 : lw_okq (⟨"MendingMorningsModel", "character", "(I)I"⟩, 21) := ⟨⟨by decide +kernel, by decide +kernel⟩, List.mem_of_getElem? (i := 595) (by decide +kernel), List.mem_of_getElem? (i := 726) (by decide +kernel), List.mem_of_getElem? (i := 727) (by decide +kernel)⟩
theorem lw_p10 : lw_okq (⟨"MendingMorningsModel", "isNext", "(I)Z"⟩, 21) := ⟨⟨by decide +kernel, by decide +kernel⟩, List.mem_of_getElem? (i := 595) (by decide +kernel), List.mem_of_getElem? (i := 730) (by decide +kernel), List.mem_of_getElem? (i := 731) (by decide +kernel)⟩
theorem lw_p11 : lw_okq (⟨"MendingMorningsModel", "toldMany", "()I"⟩, 21) := ⟨⟨by decide +kernel, by decide +kernel⟩, List.mem_of_getElem? (i := 595) (by decide +kernel), List.mem_of_getElem? (i := 734) (by decide +kernel), List.mem_of_getElem? (i := 735) (by decide +kernel)⟩
theorem lw_p12 : lw_okq (⟨"MendingMorningsModel", "comes", "()V"⟩, 21) := ⟨⟨by decide +kernel, by decide +kernel⟩, List.mem_of_getElem? (i := 595) (by decide +kernel), List.mem_of_getElem? (i := 738) (by decide +kernel), List.mem_of_getElem? (i := 739) (by decide +kernel)⟩
theorem lw_p13 : lw_okq (⟨"MendingMorningsModel", "setThing", "(III)V"⟩, 21) := ⟨⟨by decide +kernel, by decide +kernel⟩, List.mem_of_getElem? (i := 595) (by decide +kernel), List.mem_of_getElem? (i := 742) (by decide +kernel), List.mem_of_getElem? (i := 743) (by decide +kernel)⟩
theorem lw_p14 : lw_okq (⟨"MendingMorningsModel", "isThing", "(I)Z"⟩, 21) := ⟨⟨by decide +kernel, by decide +kernel⟩, List.mem_of_getElem? (i := 595) (by decide +kernel), List.mem_of_getElem? (i := 754) (by decide +kernel), List.mem_of_getElem? (i := 755) (by decide +kernel)⟩
theorem lw_p15 : lw_okq (⟨"MendingMorningsModel", "ofThing", "(II)I"⟩, 21) := ⟨⟨by decide +kernel, by decide +kernel⟩, List.mem_of_getElem? (i := 595) (by decide +kernel), List.mem_of_getElem? (i := 758) (by decide +kernel), List.mem_of_getElem? (i := 759) (by decide +kernel)⟩
def lw_privs_1 : List (MethodName × Nat) := [(⟨"MendingMorningsModel", "record", "()V"⟩, 21), (⟨"MendingMorningsModel", "setFixer", "(III)V"⟩, 21), (⟨"MendingMorningsModel", "isFixer", "(I)Z"⟩, 21), (⟨"MendingMorningsModel", "ofFixer", "(II)I"⟩, 21), (⟨"MendingMorningsModel", "those", "()I"⟩, 21), (⟨"MendingMorningsModel", "findFault", "()I"⟩, 21), (⟨"MendingMorningsModel", "readsThing", "()Z"⟩, 21), (⟨"MendingMorningsModel", "readsStep", "()Z"⟩, 21), (⟨"MendingMorningsModel", "takeDigit", "(II)I"⟩, 21), (⟨"MendingMorningsModel", "character", "(I)I"⟩, 21), (⟨"MendingMorningsModel", "isNext", "(I)Z"⟩, 21), (⟨"MendingMorningsModel", "toldMany", "()I"⟩, 21), (⟨"MendingMorningsModel", "comes", "()V"⟩, 21), (⟨"MendingMorningsModel", "setThing", "(III)V"⟩, 21), (⟨"MendingMorningsModel", "isThing", "(I)Z"⟩, 21), (⟨"MendingMorningsModel", "ofThing", "(II)I"⟩, 21)]
theorem lw_r1 : ∀ q ∈ lw_privs_1, lw_okq q := List.forall_mem_cons.mpr ⟨lw_p0, List.forall_mem_cons.mpr ⟨lw_p1, List.forall_mem_cons.mpr ⟨lw_p2, List.forall_mem_cons.mpr ⟨lw_p3, List.forall_mem_cons.mpr ⟨lw_p4, List.forall_mem_cons.mpr ⟨lw_p5, List.forall_mem_cons.mpr ⟨lw_p6, List.forall_mem_cons.mpr ⟨lw_p7, List.forall_mem_cons.mpr ⟨lw_p8, List.forall_mem_cons.mpr ⟨lw_p9, List.forall_mem_cons.mpr ⟨lw_p10, List.forall_mem_cons.mpr ⟨lw_p11, List.forall_mem_cons.mpr ⟨lw_p12, List.forall_mem_cons.mpr ⟨lw_p13, List.forall_mem_cons.mpr ⟨lw_p14, List.forall_mem_cons.mpr ⟨lw_p15, fun _ h => absurd h List.not_mem_nil⟩⟩⟩⟩⟩⟩⟩⟩⟩⟩⟩⟩⟩⟩⟩⟩
theorem lw_p16 : lw_okq (⟨"MendingMorningsModel", "waitsAnew", "(I)V"⟩, 21) := ⟨⟨by decide +kernel, by decide +kernel⟩, List.mem_of_getElem? (i := 595) (by decide +kernel), List.mem_of_getElem? (i := 762) (by decide +kernel), List.mem_of_getElem? (i := 763) (by decide +kernel)⟩
theorem lw_p17 : lw_okq (⟨"MendingMorningsModel", "inState", "(I)I"⟩, 21) := ⟨⟨by decide +kernel, by decide +kernel⟩, List.mem_of_getElem? (i := 595) (by decide +kernel), List.mem_of_getElem? (i := 766) (by decide +kernel), List.mem_of_getElem? (i := 767) (by decide +kernel)⟩
theorem lw_p18 : lw_okq (⟨"MendingMorningsModel", "passes", "(I)V"⟩, 21) := ⟨⟨by decide +kernel, by decide +kernel⟩, List.mem_of_getElem? (i := 595) (by decide +kernel), List.mem_of_getElem? (i := 774) (by decide +kernel), List.mem_of_getElem? (i := 775) (by decide +kernel)⟩
theorem lw_p19 : lw_okq (⟨"MendingMorningsModel", "slot", "()V"⟩, 21) := ⟨⟨by decide +kernel, by decide +kernel⟩, List.mem_of_getElem? (i := 595) (by decide +kernel), List.mem_of_getElem? (i := 778) (by decide +kernel), List.mem_of_getElem? (i := 779) (by decide +kernel)⟩
theorem lw_p20 : lw_okq (⟨"MendingMorningsModel", "works", "()V"⟩, 21) := ⟨⟨by decide +kernel, by decide +kernel⟩, List.mem_of_getElem? (i := 595) (by decide +kernel), List.mem_of_getElem? (i := 782) (by decide +kernel), List.mem_of_getElem? (i := 783) (by decide +kernel)⟩
theorem lw_p21 : lw_okq (⟨"MendingMorningsModel", "endsStep", "(I)V"⟩, 21) := ⟨⟨by decide +kernel, by decide +kernel⟩, List.mem_of_getElem? (i := 595) (by decide +kernel), List.mem_of_getElem? (i := 786) (by decide +kernel), List.mem_of_getElem? (i := 787) (by decide +kernel)⟩
theorem lw_p22 : lw_okq (⟨"MendingMorningsModel", "isTested", "(I)Z"⟩, 21) := ⟨⟨by decide +kernel, by decide +kernel⟩, List.mem_of_getElem? (i := 595) (by decide +kernel), List.mem_of_getElem? (i := 790) (by decide +kernel), List.mem_of_getElem? (i := 791) (by decide +kernel)⟩
theorem lw_p23 : lw_okq (⟨"MendingMorningsModel", "endsTest", "(I)V"⟩, 21) := ⟨⟨by decide +kernel, by decide +kernel⟩, List.mem_of_getElem? (i := 595) (by decide +kernel), List.mem_of_getElem? (i := 794) (by decide +kernel), List.mem_of_getElem? (i := 795) (by decide +kernel)⟩
theorem lw_p24 : lw_okq (⟨"MendingMorningsModel", "takeAll", "()V"⟩, 21) := ⟨⟨by decide +kernel, by decide +kernel⟩, List.mem_of_getElem? (i := 595) (by decide +kernel), List.mem_of_getElem? (i := 798) (by decide +kernel), List.mem_of_getElem? (i := 799) (by decide +kernel)⟩
theorem lw_p25 : lw_okq (⟨"MendingMorningsModel", "isFree", "(I)Z"⟩, 21) := ⟨⟨by decide +kernel, by decide +kernel⟩, List.mem_of_getElem? (i := 595) (by decide +kernel), List.mem_of_getElem? (i := 802) (by decide +kernel), List.mem_of_getElem? (i := 803) (by decide +kernel)⟩
theorem lw_p26 : lw_okq (⟨"MendingMorningsModel", "longestFor", "(I)I"⟩, 21) := ⟨⟨by decide +kernel, by decide +kernel⟩, List.mem_of_getElem? (i := 595) (by decide +kernel), List.mem_of_getElem? (i := 806) (by decide +kernel), List.mem_of_getElem? (i := 807) (by decide +kernel)⟩
theorem lw_p27 : lw_okq (⟨"MendingMorningsModel", "canTake", "(II)Z"⟩, 21) := ⟨⟨by decide +kernel, by decide +kernel⟩, List.mem_of_getElem? (i := 595) (by decide +kernel), List.mem_of_getElem? (i := 810) (by decide +kernel), List.mem_of_getElem? (i := 811) (by decide +kernel)⟩
theorem lw_p28 : lw_okq (⟨"MendingMorningsModel", "waitsWithPart", "(I)Z"⟩, 21) := ⟨⟨by decide +kernel, by decide +kernel⟩, List.mem_of_getElem? (i := 595) (by decide +kernel), List.mem_of_getElem? (i := 814) (by decide +kernel), List.mem_of_getElem? (i := 815) (by decide +kernel)⟩
theorem lw_p29 : lw_okq (⟨"MendingMorningsModel", "nextStep", "(II)I"⟩, 21) := ⟨⟨by decide +kernel, by decide +kernel⟩, List.mem_of_getElem? (i := 595) (by decide +kernel), List.mem_of_getElem? (i := 818) (by decide +kernel), List.mem_of_getElem? (i := 819) (by decide +kernel)⟩
theorem lw_p30 : lw_okq (⟨"MendingMorningsModel", "isInStock", "(I)Z"⟩, 21) := ⟨⟨by decide +kernel, by decide +kernel⟩, List.mem_of_getElem? (i := 595) (by decide +kernel), List.mem_of_getElem? (i := 822) (by decide +kernel), List.mem_of_getElem? (i := 823) (by decide +kernel)⟩
theorem lw_p31 : lw_okq (⟨"MendingMorningsModel", "has", "(II)Z"⟩, 21) := ⟨⟨by decide +kernel, by decide +kernel⟩, List.mem_of_getElem? (i := 595) (by decide +kernel), List.mem_of_getElem? (i := 826) (by decide +kernel), List.mem_of_getElem? (i := 827) (by decide +kernel)⟩
def lw_privs_2 : List (MethodName × Nat) := [(⟨"MendingMorningsModel", "waitsAnew", "(I)V"⟩, 21), (⟨"MendingMorningsModel", "inState", "(I)I"⟩, 21), (⟨"MendingMorningsModel", "passes", "(I)V"⟩, 21), (⟨"MendingMorningsModel", "slot", "()V"⟩, 21), (⟨"MendingMorningsModel", "works", "()V"⟩, 21), (⟨"MendingMorningsModel", "endsStep", "(I)V"⟩, 21), (⟨"MendingMorningsModel", "isTested", "(I)Z"⟩, 21), (⟨"MendingMorningsModel", "endsTest", "(I)V"⟩, 21), (⟨"MendingMorningsModel", "takeAll", "()V"⟩, 21), (⟨"MendingMorningsModel", "isFree", "(I)Z"⟩, 21), (⟨"MendingMorningsModel", "longestFor", "(I)I"⟩, 21), (⟨"MendingMorningsModel", "canTake", "(II)Z"⟩, 21), (⟨"MendingMorningsModel", "waitsWithPart", "(I)Z"⟩, 21), (⟨"MendingMorningsModel", "nextStep", "(II)I"⟩, 21), (⟨"MendingMorningsModel", "isInStock", "(I)Z"⟩, 21), (⟨"MendingMorningsModel", "has", "(II)Z"⟩, 21)]
theorem lw_r2 : ∀ q ∈ lw_privs_2, lw_okq q := List.forall_mem_cons.mpr ⟨lw_p16, List.forall_mem_cons.mpr ⟨lw_p17, List.forall_mem_cons.mpr ⟨lw_p18, List.forall_mem_cons.mpr ⟨lw_p19, List.forall_mem_cons.mpr ⟨lw_p20, List.forall_mem_cons.mpr ⟨lw_p21, List.forall_mem_cons.mpr ⟨lw_p22, List.forall_mem_cons.mpr ⟨lw_p23, List.forall_mem_cons.mpr ⟨lw_p24, List.forall_mem_cons.mpr ⟨lw_p25, List.forall_mem_cons.mpr ⟨lw_p26, List.forall_mem_cons.mpr ⟨lw_p27, List.forall_mem_cons.mpr ⟨lw_p28, List.forall_mem_cons.mpr ⟨lw_p29, List.forall_mem_cons.mpr ⟨lw_p30, List.forall_mem_cons.mpr ⟨lw_p31, fun _ h => absurd h List.not_mem_nil⟩⟩⟩⟩⟩⟩⟩⟩⟩⟩⟩⟩⟩⟩⟩⟩
theorem lw_p32 : lw_okq (⟨"MendingMorningsModel", "takes", "(II)V"⟩, 21) := ⟨⟨by decide +kernel, by decide +kernel⟩, List.mem_of_getElem? (i := 595) (by decide +kernel), List.mem_of_getElem? (i := 830) (by decide +kernel), List.mem_of_getElem? (i := 831) (by decide +kernel)⟩
theorem lw_p33 : lw_okq (⟨"MendingMorningsModel", "waitOn", "()V"⟩, 21) := ⟨⟨by decide +kernel, by decide +kernel⟩, List.mem_of_getElem? (i := 595) (by decide +kernel), List.mem_of_getElem? (i := 834) (by decide +kernel), List.mem_of_getElem? (i := 835) (by decide +kernel)⟩
theorem lw_p34 : lw_okq (⟨"MendingMorningsModel", "findPlan", "()V"⟩, 21) := ⟨⟨by decide +kernel, by decide +kernel⟩, List.mem_of_getElem? (i := 595) (by decide +kernel), List.mem_of_getElem? (i := 842) (by decide +kernel), List.mem_of_getElem? (i := 843) (by decide +kernel)⟩
theorem lw_p35 : lw_okq (⟨"MendingMorningsModel", "findAble", "()V"⟩, 21) := ⟨⟨by decide +kernel, by decide +kernel⟩, List.mem_of_getElem? (i := 595) (by decide +kernel), List.mem_of_getElem? (i := 846) (by decide +kernel), List.mem_of_getElem? (i := 847) (by decide +kernel)⟩
theorem lw_p36 : lw_okq (⟨"MendingMorningsModel", "most", "(II)I"⟩, 21) := ⟨⟨by decide +kernel, by decide +kernel⟩, List.mem_of_getElem? (i := 595) (by decide +kernel), List.mem_of_getElem? (i := 851) (by decide +kernel), List.mem_of_getElem? (i := 852) (by decide +kernel)⟩
theorem lw_p37 : lw_okq (⟨"MendingMorningsModel", "finds", "(II)Z"⟩, 21) := ⟨⟨by decide +kernel, by decide +kernel⟩, List.mem_of_getElem? (i := 595) (by decide +kernel), List.mem_of_getElem? (i := 855) (by decide +kernel), List.mem_of_getElem? (i := 856) (by decide +kernel)⟩
theorem lw_p38 : lw_okq (⟨"MendingMorningsModel", "lowestFor", "(III)I"⟩, 21) := ⟨⟨by decide +kernel, by decide +kernel⟩, List.mem_of_getElem? (i := 595) (by decide +kernel), List.mem_of_getElem? (i := 859) (by decide +kernel), List.mem_of_getElem? (i := 860) (by decide +kernel)⟩
theorem lw_p39 : lw_okq (⟨"MendingMorningsModel", "doer", "(I)I"⟩, 21) := ⟨⟨by decide +kernel, by decide +kernel⟩, List.mem_of_getElem? (i := 595) (by decide +kernel), List.mem_of_getElem? (i := 875) (by decide +kernel), List.mem_of_getElem? (i := 876) (by decide +kernel)⟩
theorem lw_p40 : lw_okq (⟨"MendingMorningsModel", "skilled", "(I)I"⟩, 21) := ⟨⟨by decide +kernel, by decide +kernel⟩, List.mem_of_getElem? (i := 595) (by decide +kernel), List.mem_of_getElem? (i := 879) (by decide +kernel), List.mem_of_getElem? (i := 880) (by decide +kernel)⟩
theorem lw_p41 : lw_okq (⟨"MendingMorningsModel", "freeMany", "()I"⟩, 21) := ⟨⟨by decide +kernel, by decide +kernel⟩, List.mem_of_getElem? (i := 595) (by decide +kernel), List.mem_of_getElem? (i := 891) (by decide +kernel), List.mem_of_getElem? (i := 892) (by decide +kernel)⟩
theorem lw_p42 : lw_okq (⟨"MendingMorningsModel", "findMore", "(I)V"⟩, 21) := ⟨⟨by decide +kernel, by decide +kernel⟩, List.mem_of_getElem? (i := 595) (by decide +kernel), List.mem_of_getElem? (i := 911) (by decide +kernel), List.mem_of_getElem? (i := 912) (by decide +kernel)⟩
theorem lw_p43 : lw_okq (⟨"MendingMorningsModel", "isOver", "()Z"⟩, 21) := ⟨⟨by decide +kernel, by decide +kernel⟩, List.mem_of_getElem? (i := 595) (by decide +kernel), List.mem_of_getElem? (i := 923) (by decide +kernel), List.mem_of_getElem? (i := 924) (by decide +kernel)⟩
def lw_privs_3 : List (MethodName × Nat) := [(⟨"MendingMorningsModel", "takes", "(II)V"⟩, 21), (⟨"MendingMorningsModel", "waitOn", "()V"⟩, 21), (⟨"MendingMorningsModel", "findPlan", "()V"⟩, 21), (⟨"MendingMorningsModel", "findAble", "()V"⟩, 21), (⟨"MendingMorningsModel", "most", "(II)I"⟩, 21), (⟨"MendingMorningsModel", "finds", "(II)Z"⟩, 21), (⟨"MendingMorningsModel", "lowestFor", "(III)I"⟩, 21), (⟨"MendingMorningsModel", "doer", "(I)I"⟩, 21), (⟨"MendingMorningsModel", "skilled", "(I)I"⟩, 21), (⟨"MendingMorningsModel", "freeMany", "()I"⟩, 21), (⟨"MendingMorningsModel", "findMore", "(I)V"⟩, 21), (⟨"MendingMorningsModel", "isOver", "()Z"⟩, 21)]
theorem lw_r3 : ∀ q ∈ lw_privs_3, lw_okq q := List.forall_mem_cons.mpr ⟨lw_p32, List.forall_mem_cons.mpr ⟨lw_p33, List.forall_mem_cons.mpr ⟨lw_p34, List.forall_mem_cons.mpr ⟨lw_p35, List.forall_mem_cons.mpr ⟨lw_p36, List.forall_mem_cons.mpr ⟨lw_p37, List.forall_mem_cons.mpr ⟨lw_p38, List.forall_mem_cons.mpr ⟨lw_p39, List.forall_mem_cons.mpr ⟨lw_p40, List.forall_mem_cons.mpr ⟨lw_p41, List.forall_mem_cons.mpr ⟨lw_p42, List.forall_mem_cons.mpr ⟨lw_p43, fun _ h => absurd h List.not_mem_nil⟩⟩⟩⟩⟩⟩⟩⟩⟩⟩⟩⟩
def lw_privs : List (MethodName × Nat) := lw_privs_1 ++ (lw_privs_2 ++ (lw_privs_3))
def lw_tbl : List Cond := k2_sels lw_privs ++ tables_1
theorem lw_privs_ok : ∀ q ∈ lw_privs, lw_okq q := by
  show ∀ q ∈ lw_privs_1 ++ (lw_privs_2 ++ (lw_privs_3)), lw_okq q
  exact List.forall_mem_append.mpr ⟨lw_r1, List.forall_mem_append.mpr ⟨lw_r2, lw_r3⟩⟩
-- ===== end of PART A; then your names; then what follows =====
def RX0 : String := "MendingMornings$Fixer"
def TX0 : u_T := fun k => match k with
  | 0 => ("MendingMornings$Fixer", "skills", "I", false)
  | 1 => ("MendingMornings$Fixer", "speed", "I", false)
  | 2 => ("MendingMornings$Fixer", "isThere", "Z", false)
  | 3 => ("MendingMornings$Fixer", "doing", "I", false)
  | 4 => ("MendingMornings$Fixer", "left", "I", false)
  | _ => ("MendingMornings$Fixer", "stepsDone", "I", false)
def tyX0 : Nat → FieldType := fun k => match k with
  | 0 => .int
  | 1 => .int
  | 2 => .boolean
  | 3 => .int
  | 4 => .int
  | _ => .int
abbrev wsX00 : List Cond := u_ws RX0 TX0 6
theorem nmX0 : ∀ a, a < 6 → ∀ b, b < 6 → a ≠ b → (TX0 a).2.1 ≠ (TX0 b).2.1 := by decide +kernel
theorem tyX0_ok : ∀ k, k < 6 → parseFieldDescriptor (TX0 k).2.2.1 = some (tyX0 k) := by decide +kernel
abbrev cX0_init : ByteArray := prog_2_method_1_code
def yX0_init : MethodName := ⟨RX0, "<init>", "()V"⟩
abbrev cX0_start : ByteArray := prog_2_method_2_code
def yX0_start : MethodName := ⟨RX0, "start", "(II)V"⟩
abbrev cX0_becomeFree : ByteArray := prog_2_method_3_code
def yX0_becomeFree : MethodName := ⟨RX0, "becomeFree", "()V"⟩
abbrev cX0_canTakeMore : ByteArray := prog_2_method_4_code
def yX0_canTakeMore : MethodName := ⟨RX0, "canTakeMore", "()Z"⟩
abbrev cX0_copyFrom : ByteArray := prog_2_method_5_code
def yX0_copyFrom : MethodName := ⟨RX0, "copyFrom", "(LMendingMornings$Fixer;)V"⟩
def RX1 : String := "MendingMornings$History"
def TX1 : u_T := fun k => match k with
  | 0 => ("MendingMornings$History", "states", "[LMendingMornings$Morning;", true)
  | _ => ("MendingMornings$History", "size", "I", false)
def tyX1 : Nat → FieldType := fun k => match k with
  | 0 => .array (.object "MendingMornings$Morning")
  | _ => .int
abbrev wsX10 : List Cond := u_ws RX1 TX1 2
theorem nmX1 : ∀ a, a < 2 → ∀ b, b < 2 → a ≠ b → (TX1 a).2.1 ≠ (TX1 b).2.1 := by decide +kernel
theorem tyX1_ok : ∀ k, k < 2 → parseFieldDescriptor (TX1 k).2.2.1 = some (tyX1 k) := by decide +kernel
abbrev cX1_init : ByteArray := prog_3_method_1_code
def yX1_init : MethodName := ⟨RX1, "<init>", "()V"⟩
abbrev cX1_keep : ByteArray := prog_3_method_2_code
def yX1_keep : MethodName := ⟨RX1, "keep", "(LMendingMornings$Morning;)V"⟩
abbrev cX1_dropOldest : ByteArray := prog_3_method_3_code
def yX1_dropOldest : MethodName := ⟨RX1, "dropOldest", "()V"⟩
abbrev cX1_takeBack : ByteArray := prog_3_method_4_code
def yX1_takeBack : MethodName := ⟨RX1, "takeBack", "(LMendingMornings$Morning;)V"⟩
def RX2 : String := "MendingMornings$Morning"
def TX2 : u_T := fun k => match k with
  | 0 => ("MendingMornings$Morning", "fixers", "[LMendingMornings$Fixer;", true)
  | 1 => ("MendingMornings$Morning", "things", "[LMendingMornings$Thing;", true)
  | 2 => ("MendingMornings$Morning", "parts", "[I", true)
  | 3 => ("MendingMornings$Morning", "fixerCount", "I", false)
  | 4 => ("MendingMornings$Morning", "thingCount", "I", false)
  | 5 => ("MendingMornings$Morning", "patience", "I", false)
  | 6 => ("MendingMornings$Morning", "testWork", "I", false)
  | 7 => ("MendingMornings$Morning", "slots", "I", false)
  | _ => ("MendingMornings$Morning", "testsFailed", "I", false)
def tyX2 : Nat → FieldType := fun k => match k with
  | 0 => .array (.object "MendingMornings$Fixer")
  | 1 => .array (.object "MendingMornings$Thing")
  | 2 => .array .int
  | 3 => .int
  | 4 => .int
  | 5 => .int
  | 6 => .int
  | 7 => .int
  | _ => .int
abbrev wsX20 : List Cond := u_ws RX2 TX2 9
theorem nmX2 : ∀ a, a < 9 → ∀ b, b < 9 → a ≠ b → (TX2 a).2.1 ≠ (TX2 b).2.1 := by decide +kernel
theorem tyX2_ok : ∀ k, k < 9 → parseFieldDescriptor (TX2 k).2.2.1 = some (tyX2 k) := by decide +kernel
abbrev cX2_init : ByteArray := prog_4_method_1_code
def yX2_init : MethodName := ⟨RX2, "<init>", "()V"⟩
abbrev cX2_copyFrom : ByteArray := prog_4_method_2_code
def yX2_copyFrom : MethodName := ⟨RX2, "copyFrom", "(LMendingMornings$Morning;)V"⟩
abbrev cX2_hasFixer : ByteArray := prog_4_method_3_code
def yX2_hasFixer : MethodName := ⟨RX2, "hasFixer", "(I)Z"⟩
abbrev cX2_hasThing : ByteArray := prog_4_method_4_code
def yX2_hasThing : MethodName := ⟨RX2, "hasThing", "(I)Z"⟩
abbrev cX2_addFixer : ByteArray := prog_4_method_5_code
def yX2_addFixer : MethodName := ⟨RX2, "addFixer", "(II)I"⟩
abbrev cX2_addThing : ByteArray := prog_4_method_6_code
def yX2_addThing : MethodName := ⟨RX2, "addThing", "(LMendingMornings$Thing;)V"⟩
abbrev cX2_removeThings : ByteArray := prog_4_method_7_code
def yX2_removeThings : MethodName := ⟨RX2, "removeThings", "()V"⟩
abbrev cX2_fixersThere : ByteArray := prog_4_method_8_code
def yX2_fixersThere : MethodName := ⟨RX2, "fixersThere", "()I"⟩
abbrev cX2_fixersWith : ByteArray := prog_4_method_9_code
def yX2_fixersWith : MethodName := ⟨RX2, "fixersWith", "(I)I"⟩
abbrev cX2_freeFixers : ByteArray := prog_4_method_10_code
def yX2_freeFixers : MethodName := ⟨RX2, "freeFixers", "()I"⟩
abbrev cX2_fixerOf : ByteArray := prog_4_method_11_code
def yX2_fixerOf : MethodName := ⟨RX2, "fixerOf", "(I)I"⟩
abbrev cX2_thingsIn : ByteArray := prog_4_method_12_code
def yX2_thingsIn : MethodName := ⟨RX2, "thingsIn", "(I)I"⟩
abbrev cX2_isOver : ByteArray := prog_4_method_13_code
def yX2_isOver : MethodName := ⟨RX2, "isOver", "()Z"⟩
abbrev cX2_thingsFor : ByteArray := prog_4_method_14_code
def yX2_thingsFor : MethodName := ⟨RX2, "thingsFor", "(I)I"⟩
abbrev cX2_isFor : ByteArray := prog_4_method_15_code
def yX2_isFor : MethodName := ⟨RX2, "isFor", "(LMendingMornings$Thing;I)Z"⟩
abbrev cX2_isInStock : ByteArray := prog_4_method_16_code
def yX2_isInStock : MethodName := ⟨RX2, "isInStock", "(I)Z"⟩
abbrev cX2_takeIfInStock : ByteArray := prog_4_method_17_code
def yX2_takeIfInStock : MethodName := ⟨RX2, "takeIfInStock", "(LMendingMornings$Fixer;I)Z"⟩
abbrev cX2_letPass : ByteArray := prog_4_method_18_code
def yX2_letPass : MethodName := ⟨RX2, "letPass", "(I)V"⟩
abbrev cX2_letOnePass : ByteArray := prog_4_method_19_code
def yX2_letOnePass : MethodName := ⟨RX2, "letOnePass", "()V"⟩
abbrev cX2_work : ByteArray := prog_4_method_20_code
def yX2_work : MethodName := ⟨RX2, "work", "(LMendingMornings$Fixer;)V"⟩
abbrev cX2_longestWaiting : ByteArray := prog_4_method_21_code
def yX2_longestWaiting : MethodName := ⟨RX2, "longestWaiting", "(I)I"⟩
abbrev cX2_waitOn : ByteArray := prog_4_method_22_code
def yX2_waitOn : MethodName := ⟨RX2, "waitOn", "(LMendingMornings$Thing;)V"⟩
def RX3 : String := "MendingMornings$Pad"
def TX3 : u_T := fun k => match k with
  | 0 => ("MendingMornings$Pad", "signs", "[I", true)
  | 1 => ("MendingMornings$Pad", "read", "[LMendingMornings$Thing;", true)
  | 2 => ("MendingMornings$Pad", "length", "I", false)
  | 3 => ("MendingMornings$Pad", "readCount", "I", false)
  | _ => ("MendingMornings$Pad", "latest", "LMendingMornings$Thing;", false)
def tyX3 : Nat → FieldType := fun k => match k with
  | 0 => .array .int
  | 1 => .array (.object "MendingMornings$Thing")
  | 2 => .int
  | 3 => .int
  | _ => .object "MendingMornings$Thing"
abbrev wsX30 : List Cond := u_ws RX3 TX3 5
theorem nmX3 : ∀ a, a < 5 → ∀ b, b < 5 → a ≠ b → (TX3 a).2.1 ≠ (TX3 b).2.1 := by decide +kernel
theorem tyX3_ok : ∀ k, k < 5 → parseFieldDescriptor (TX3 k).2.2.1 = some (tyX3 k) := by decide +kernel
abbrev cX3_init : ByteArray := prog_5_method_1_code
def yX3_init : MethodName := ⟨RX3, "<init>", "()V"⟩
abbrev cX3_signsIn : ByteArray := prog_5_method_2_code
def yX3_signsIn : MethodName := ⟨RX3, "signsIn", "(J)I"⟩
abbrev cX3_append : ByteArray := prog_5_method_3_code
def yX3_append : MethodName := ⟨RX3, "append", "(JI)V"⟩
abbrev cX3_readThings : ByteArray := prog_5_method_4_code
def yX3_readThings : MethodName := ⟨RX3, "readThings", "()I"⟩
abbrev cX3_placeBehind : ByteArray := prog_5_method_5_code
def yX3_placeBehind : MethodName := ⟨RX3, "placeBehind", "(II)I"⟩
abbrev cX3_readFirstSkill : ByteArray := prog_5_method_6_code
def yX3_readFirstSkill : MethodName := ⟨RX3, "readFirstSkill", "(I)I"⟩
abbrev cX3_readSkill : ByteArray := prog_5_method_7_code
def yX3_readSkill : MethodName := ⟨RX3, "readSkill", "(I)I"⟩
abbrev cX3_readWork : ByteArray := prog_5_method_8_code
def yX3_readWork : MethodName := ⟨RX3, "readWork", "(I)I"⟩
abbrev cX3_readPart : ByteArray := prog_5_method_9_code
def yX3_readPart : MethodName := ⟨RX3, "readPart", "(I)I"⟩
abbrev cX3_readWeakness : ByteArray := prog_5_method_10_code
def yX3_readWeakness : MethodName := ⟨RX3, "readWeakness", "(I)I"⟩
abbrev cX3_placeBehindMark : ByteArray := prog_5_method_11_code
def yX3_placeBehindMark : MethodName := ⟨RX3, "placeBehindMark", "(II)I"⟩
def RX4 : String := "MendingMornings$Planner"
def TX4 : u_T := fun k => match k with
  | 0 => ("MendingMornings$Planner", "canTake", "[I", true)
  | 1 => ("MendingMornings$Planner", "given", "[I", true)
  | 2 => ("MendingMornings$Planner", "anyCanTake", "[I", true)
  | _ => ("MendingMornings$Planner", "fixerCount", "I", false)
def tyX4 : Nat → FieldType := fun k => match k with
  | 0 => .array .int
  | 1 => .array .int
  | 2 => .array .int
  | _ => .int
abbrev wsX40 : List Cond := u_ws RX4 TX4 4
theorem nmX4 : ∀ a, a < 4 → ∀ b, b < 4 → a ≠ b → (TX4 a).2.1 ≠ (TX4 b).2.1 := by decide +kernel
theorem tyX4_ok : ∀ k, k < 4 → parseFieldDescriptor (TX4 k).2.2.1 = some (tyX4 k) := by decide +kernel
abbrev cX4_init : ByteArray := prog_6_method_1_code
def yX4_init : MethodName := ⟨RX4, "<init>", "()V"⟩
abbrev cX4_lookAt : ByteArray := prog_6_method_2_code
def yX4_lookAt : MethodName := ⟨RX4, "lookAt", "(LMendingMornings$Morning;)V"⟩
abbrev cX4_addFixer : ByteArray := prog_6_method_3_code
def yX4_addFixer : MethodName := ⟨RX4, "addFixer", "(I)V"⟩
abbrev cX4_mostServed : ByteArray := prog_6_method_4_code
def yX4_mostServed : MethodName := ⟨RX4, "mostServed", "(II)I"⟩
abbrev cX4_makePlan : ByteArray := prog_6_method_5_code
def yX4_makePlan : MethodName := ⟨RX4, "makePlan", "(LMendingMornings$Morning;)V"⟩
abbrev cX4_lowestFor : ByteArray := prog_6_method_6_code
def yX4_lowestFor : MethodName := ⟨RX4, "lowestFor", "(III)I"⟩
def RX5 : String := "MendingMornings$Thing"
def TX5 : u_T := fun k => match k with
  | 0 => ("MendingMornings$Thing", "skills", "[I", true)
  | 1 => ("MendingMornings$Thing", "works", "[I", true)
  | 2 => ("MendingMornings$Thing", "parts", "[I", true)
  | 3 => ("MendingMornings$Thing", "stepCount", "I", false)
  | 4 => ("MendingMornings$Thing", "next", "I", false)
  | 5 => ("MendingMornings$Thing", "state", "I", false)
  | 6 => ("MendingMornings$Thing", "waited", "I", false)
  | 7 => ("MendingMornings$Thing", "failed", "I", false)
  | _ => ("MendingMornings$Thing", "weakness", "I", false)
def tyX5 : Nat → FieldType := fun k => match k with
  | 0 => .array .int
  | 1 => .array .int
  | 2 => .array .int
  | 3 => .int
  | 4 => .int
  | 5 => .int
  | 6 => .int
  | 7 => .int
  | _ => .int
abbrev wsX50 : List Cond := u_ws RX5 TX5 9
theorem nmX5 : ∀ a, a < 9 → ∀ b, b < 9 → a ≠ b → (TX5 a).2.1 ≠ (TX5 b).2.1 := by decide +kernel
theorem tyX5_ok : ∀ k, k < 9 → parseFieldDescriptor (TX5 k).2.2.1 = some (tyX5 k) := by decide +kernel
abbrev cX5_init : ByteArray := prog_7_method_1_code
def yX5_init : MethodName := ⟨RX5, "<init>", "()V"⟩
abbrev cX5_start : ByteArray := prog_7_method_2_code
def yX5_start : MethodName := ⟨RX5, "start", "()V"⟩
abbrev cX5_becomeWaiting : ByteArray := prog_7_method_3_code
def yX5_becomeWaiting : MethodName := ⟨RX5, "becomeWaiting", "()V"⟩
abbrev cX5_leaveQueue : ByteArray := prog_7_method_4_code
def yX5_leaveQueue : MethodName := ⟨RX5, "leaveQueue", "(I)V"⟩
abbrev cX5_hasStep : ByteArray := prog_7_method_5_code
def yX5_hasStep : MethodName := ⟨RX5, "hasStep", "(I)Z"⟩
abbrev cX5_addStep : ByteArray := prog_7_method_6_code
def yX5_addStep : MethodName := ⟨RX5, "addStep", "(I)V"⟩
abbrev cX5_setLastWork : ByteArray := prog_7_method_7_code
def yX5_setLastWork : MethodName := ⟨RX5, "setLastWork", "(I)V"⟩
abbrev cX5_setLastPart : ByteArray := prog_7_method_8_code
def yX5_setLastPart : MethodName := ⟨RX5, "setLastPart", "(I)V"⟩
abbrev cX5_nextSkill : ByteArray := prog_7_method_9_code
def yX5_nextSkill : MethodName := ⟨RX5, "nextSkill", "()I"⟩
abbrev cX5_nextWork : ByteArray := prog_7_method_10_code
def yX5_nextWork : MethodName := ⟨RX5, "nextWork", "(I)I"⟩
abbrev cX5_nextPart : ByteArray := prog_7_method_11_code
def yX5_nextPart : MethodName := ⟨RX5, "nextPart", "()I"⟩
abbrev cX5_endStep : ByteArray := prog_7_method_12_code
def yX5_endStep : MethodName := ⟨RX5, "endStep", "()Z"⟩
abbrev cX5_copyFrom : ByteArray := prog_7_method_13_code
def yX5_copyFrom : MethodName := ⟨RX5, "copyFrom", "(LMendingMornings$Thing;)V"⟩
def RX6 : String := "MendingMornings"
def TX6 : u_T := fun k => match k with
  | 0 => ("MendingMornings", "now", "LMendingMornings$Morning;", true)
  | 1 => ("MendingMornings", "trial", "LMendingMornings$Morning;", true)
  | 2 => ("MendingMornings", "saved", "[LMendingMornings$Morning;", true)
  | 3 => ("MendingMornings", "isSaved", "[Z", true)
  | 4 => ("MendingMornings", "history", "LMendingMornings$History;", true)
  | 5 => ("MendingMornings", "pad", "LMendingMornings$Pad;", true)
  | _ => ("MendingMornings", "planner", "LMendingMornings$Planner;", true)
def tyX6 : Nat → FieldType := fun k => match k with
  | 0 => .object "MendingMornings$Morning"
  | 1 => .object "MendingMornings$Morning"
  | 2 => .array (.object "MendingMornings$Morning")
  | 3 => .array .boolean
  | 4 => .object "MendingMornings$History"
  | 5 => .object "MendingMornings$Pad"
  | _ => .object "MendingMornings$Planner"
abbrev wsX60 : List Cond := u_ws RX6 TX6 7
theorem nmX6 : ∀ a, a < 7 → ∀ b, b < 7 → a ≠ b → (TX6 a).2.1 ≠ (TX6 b).2.1 := by decide +kernel
theorem tyX6_ok : ∀ k, k < 7 → parseFieldDescriptor (TX6 k).2.2.1 = some (tyX6 k) := by decide +kernel
abbrev cX6_init : ByteArray := prog_1_method_1_code
def yX6_init : MethodName := ⟨RX6, "<init>", "()V"⟩
abbrev cX6_set : ByteArray := prog_1_method_2_code
def yX6_set : MethodName := ⟨RX6, "set", "(II)I"⟩
abbrev cX6_come : ByteArray := prog_1_method_3_code
def yX6_come : MethodName := ⟨RX6, "come", "(II)I"⟩
abbrev cX6_away : ByteArray := prog_1_method_4_code
def yX6_away : MethodName := ⟨RX6, "away", "(IZ)I"⟩
abbrev cX6_bring : ByteArray := prog_1_method_5_code
def yX6_bring : MethodName := ⟨RX6, "bring", "()I"⟩
abbrev cX6_stock : ByteArray := prog_1_method_6_code
def yX6_stock : MethodName := ⟨RX6, "stock", "(II)I"⟩
abbrev cX6_again : ByteArray := prog_1_method_7_code
def yX6_again : MethodName := ⟨RX6, "again", "(I)I"⟩
abbrev cX6_pass : ByteArray := prog_1_method_8_code
def yX6_pass : MethodName := ⟨RX6, "pass", "(I)I"⟩
abbrev cX6_giveOut : ByteArray := prog_1_method_9_code
def yX6_giveOut : MethodName := ⟨RX6, "giveOut", "()I"⟩
abbrev cX6_clear : ByteArray := prog_1_method_10_code
def yX6_clear : MethodName := ⟨RX6, "clear", "()I"⟩
abbrev cX6_fixer : ByteArray := prog_1_method_11_code
def yX6_fixer : MethodName := ⟨RX6, "fixer", "(II)I"⟩
abbrev cX6_thing : ByteArray := prog_1_method_12_code
def yX6_thing : MethodName := ⟨RX6, "thing", "(II)I"⟩
abbrev cX6_step : ByteArray := prog_1_method_13_code
def yX6_step : MethodName := ⟨RX6, "step", "(III)I"⟩
abbrev cX6_count : ByteArray := prog_1_method_14_code
def yX6_count : MethodName := ⟨RX6, "count", "(I)I"⟩
abbrev cX6_plan : ByteArray := prog_1_method_15_code
def yX6_plan : MethodName := ⟨RX6, "plan", "(I)I"⟩
abbrev cX6_planned : ByteArray := prog_1_method_16_code
def yX6_planned : MethodName := ⟨RX6, "planned", "()I"⟩
abbrev cX6_ifAway : ByteArray := prog_1_method_17_code
def yX6_ifAway : MethodName := ⟨RX6, "ifAway", "(I)I"⟩
abbrev cX6_bestSkill : ByteArray := prog_1_method_18_code
def yX6_bestSkill : MethodName := ⟨RX6, "bestSkill", "(I)I"⟩
abbrev cX6_ifPassed : ByteArray := prog_1_method_19_code
def yX6_ifPassed : MethodName := ⟨RX6, "ifPassed", "(II)I"⟩
abbrev cX6_untilOver : ByteArray := prog_1_method_20_code
def yX6_untilOver : MethodName := ⟨RX6, "untilOver", "()I"⟩
abbrev cX6_bestPart : ByteArray := prog_1_method_21_code
def yX6_bestPart : MethodName := ⟨RX6, "bestPart", "(I)I"⟩
abbrev cX6_put : ByteArray := prog_1_method_22_code
def yX6_put : MethodName := ⟨RX6, "put", "(J)I"⟩
abbrev cX6_wipe : ByteArray := prog_1_method_23_code
def yX6_wipe : MethodName := ⟨RX6, "wipe", "()I"⟩
abbrev cX6_fault : ByteArray := prog_1_method_24_code
def yX6_fault : MethodName := ⟨RX6, "fault", "()I"⟩
abbrev cX6_undo : ByteArray := prog_1_method_25_code
def yX6_undo : MethodName := ⟨RX6, "undo", "()I"⟩
abbrev cX6_save : ByteArray := prog_1_method_26_code
def yX6_save : MethodName := ⟨RX6, "save", "(I)I"⟩
abbrev cX6_restore : ByteArray := prog_1_method_27_code
def yX6_restore : MethodName := ⟨RX6, "restore", "(I)I"⟩
abbrev cX6_isOutside : ByteArray := prog_1_method_28_code
def yX6_isOutside : MethodName := ⟨RX6, "isOutside", "(III)Z"⟩
def RX7 : String := "MendingMorningsModel"
def TX7 : u_T := fun k => match k with
  | 0 => ("MendingMorningsModel", "state", "[I", true)
  | 1 => ("MendingMorningsModel", "kept", "[I", true)
  | 2 => ("MendingMorningsModel", "history", "[I", true)
  | 3 => ("MendingMorningsModel", "recorded", "I", false)
  | 4 => ("MendingMorningsModel", "slots", "[I", true)
  | 5 => ("MendingMorningsModel", "isSaved", "[I", true)
  | 6 => ("MendingMorningsModel", "pad", "[I", true)
  | 7 => ("MendingMorningsModel", "padLength", "I", false)
  | 8 => ("MendingMorningsModel", "mended", "I", false)
  | 9 => ("MendingMorningsModel", "givenUp", "I", false)
  | 10 => ("MendingMorningsModel", "failed", "I", false)
  | 11 => ("MendingMorningsModel", "isAble", "[I", true)
  | 12 => ("MendingMorningsModel", "thingOf", "[I", true)
  | 13 => ("MendingMorningsModel", "fixerOf", "[I", true)
  | 14 => ("MendingMorningsModel", "cameFrom", "[I", true)
  | 15 => ("MendingMorningsModel", "row", "[I", true)
  | 16 => ("MendingMorningsModel", "planned", "[I", true)
  | 17 => ("MendingMorningsModel", "at", "I", false)
  | 18 => ("MendingMorningsModel", "told", "[I", true)
  | 19 => ("MendingMorningsModel", "toldSteps", "I", false)
  | _ => ("MendingMorningsModel", "toldWeakness", "I", false)
def tyX7 : Nat → FieldType := fun k => match k with
  | 0 => .array .int
  | 1 => .array .int
  | 2 => .array .int
  | 3 => .int
  | 4 => .array .int
  | 5 => .array .int
  | 6 => .array .int
  | 7 => .int
  | 8 => .int
  | 9 => .int
  | 10 => .int
  | 11 => .array .int
  | 12 => .array .int
  | 13 => .array .int
  | 14 => .array .int
  | 15 => .array .int
  | 16 => .array .int
  | 17 => .int
  | 18 => .array .int
  | 19 => .int
  | _ => .int
abbrev wsX70 : List Cond := u_ws RX7 TX7 21
theorem nmX7 : ∀ a, a < 21 → ∀ b, b < 21 → a ≠ b → (TX7 a).2.1 ≠ (TX7 b).2.1 := by decide +kernel
theorem tyX7_ok : ∀ k, k < 21 → parseFieldDescriptor (TX7 k).2.2.1 = some (tyX7 k) := by decide +kernel
abbrev cX7_init : ByteArray := prog_9_method_1_code
def yX7_init : MethodName := ⟨RX7, "<init>", "()V"⟩
abbrev cX7_moves : ByteArray := prog_9_method_3_code
def yX7_moves : MethodName := ⟨RX7, "moves", "([II[II)V"⟩
abbrev cX7_within : ByteArray := prog_9_method_4_code
def yX7_within : MethodName := ⟨RX7, "within", "(III)Z"⟩
abbrev cX7_record : ByteArray := prog_9_method_5_code
def yX7_record : MethodName := ⟨RX7, "record", "()V"⟩
abbrev cX7_isFixer : ByteArray := prog_9_method_6_code
def yX7_isFixer : MethodName := ⟨RX7, "isFixer", "(I)Z"⟩
abbrev cX7_isThing : ByteArray := prog_9_method_7_code
def yX7_isThing : MethodName := ⟨RX7, "isThing", "(I)Z"⟩
abbrev cX7_ofFixer : ByteArray := prog_9_method_8_code
def yX7_ofFixer : MethodName := ⟨RX7, "ofFixer", "(II)I"⟩
abbrev cX7_setFixer : ByteArray := prog_9_method_9_code
def yX7_setFixer : MethodName := ⟨RX7, "setFixer", "(III)V"⟩
abbrev cX7_ofThing : ByteArray := prog_9_method_10_code
def yX7_ofThing : MethodName := ⟨RX7, "ofThing", "(II)I"⟩
abbrev cX7_setThing : ByteArray := prog_9_method_11_code
def yX7_setThing : MethodName := ⟨RX7, "setThing", "(III)V"⟩
abbrev cX7_isTested : ByteArray := prog_9_method_12_code
def yX7_isTested : MethodName := ⟨RX7, "isTested", "(I)Z"⟩
abbrev cX7_nextStep : ByteArray := prog_9_method_13_code
def yX7_nextStep : MethodName := ⟨RX7, "nextStep", "(II)I"⟩
abbrev cX7_isInStock : ByteArray := prog_9_method_14_code
def yX7_isInStock : MethodName := ⟨RX7, "isInStock", "(I)Z"⟩
abbrev cX7_has : ByteArray := prog_9_method_15_code
def yX7_has : MethodName := ⟨RX7, "has", "(II)Z"⟩
abbrev cX7_isFree : ByteArray := prog_9_method_16_code
def yX7_isFree : MethodName := ⟨RX7, "isFree", "(I)Z"⟩
abbrev cX7_waitsWithPart : ByteArray := prog_9_method_17_code
def yX7_waitsWithPart : MethodName := ⟨RX7, "waitsWithPart", "(I)Z"⟩
abbrev cX7_canTake : ByteArray := prog_9_method_18_code
def yX7_canTake : MethodName := ⟨RX7, "canTake", "(II)Z"⟩
abbrev cX7_inState : ByteArray := prog_9_method_19_code
def yX7_inState : MethodName := ⟨RX7, "inState", "(I)I"⟩
abbrev cX7_waitsAnew : ByteArray := prog_9_method_20_code
def yX7_waitsAnew : MethodName := ⟨RX7, "waitsAnew", "(I)V"⟩
abbrev cX7_takes : ByteArray := prog_9_method_21_code
def yX7_takes : MethodName := ⟨RX7, "takes", "(II)V"⟩
abbrev cX7_endsTest : ByteArray := prog_9_method_22_code
def yX7_endsTest : MethodName := ⟨RX7, "endsTest", "(I)V"⟩
abbrev cX7_endsStep : ByteArray := prog_9_method_23_code
def yX7_endsStep : MethodName := ⟨RX7, "endsStep", "(I)V"⟩
abbrev cX7_works : ByteArray := prog_9_method_24_code
def yX7_works : MethodName := ⟨RX7, "works", "()V"⟩
abbrev cX7_longestFor : ByteArray := prog_9_method_25_code
def yX7_longestFor : MethodName := ⟨RX7, "longestFor", "(I)I"⟩
abbrev cX7_takeAll : ByteArray := prog_9_method_26_code
def yX7_takeAll : MethodName := ⟨RX7, "takeAll", "()V"⟩
abbrev cX7_waitOn : ByteArray := prog_9_method_27_code
def yX7_waitOn : MethodName := ⟨RX7, "waitOn", "()V"⟩
abbrev cX7_slot : ByteArray := prog_9_method_28_code
def yX7_slot : MethodName := ⟨RX7, "slot", "()V"⟩
abbrev cX7_passes : ByteArray := prog_9_method_29_code
def yX7_passes : MethodName := ⟨RX7, "passes", "(I)V"⟩
abbrev cX7_findAble : ByteArray := prog_9_method_30_code
def yX7_findAble : MethodName := ⟨RX7, "findAble", "()V"⟩
abbrev cX7_findMore : ByteArray := prog_9_method_31_code
def yX7_findMore : MethodName := ⟨RX7, "findMore", "(I)V"⟩
abbrev cX7_finds : ByteArray := prog_9_method_32_code
def yX7_finds : MethodName := ⟨RX7, "finds", "(II)Z"⟩
abbrev cX7_most : ByteArray := prog_9_method_33_code
def yX7_most : MethodName := ⟨RX7, "most", "(II)I"⟩
abbrev cX7_lowestFor : ByteArray := prog_9_method_34_code
def yX7_lowestFor : MethodName := ⟨RX7, "lowestFor", "(III)I"⟩
abbrev cX7_findPlan : ByteArray := prog_9_method_35_code
def yX7_findPlan : MethodName := ⟨RX7, "findPlan", "()V"⟩
abbrev cX7_isValue : ByteArray := prog_9_method_36_code
def yX7_isValue : MethodName := ⟨RX7, "isValue", "(II)Z"⟩
abbrev cX7_set : ByteArray := prog_9_method_37_code
def yX7_set : MethodName := ⟨RX7, "set", "(II)I"⟩
abbrev cX7_come : ByteArray := prog_9_method_38_code
def yX7_come : MethodName := ⟨RX7, "come", "(II)I"⟩
abbrev cX7_those : ByteArray := prog_9_method_39_code
def yX7_those : MethodName := ⟨RX7, "those", "()I"⟩
abbrev cX7_away : ByteArray := prog_9_method_40_code
def yX7_away : MethodName := ⟨RX7, "away", "(IZ)I"⟩
abbrev cX7_toldMany : ByteArray := prog_9_method_41_code
def yX7_toldMany : MethodName := ⟨RX7, "toldMany", "()I"⟩
abbrev cX7_comes : ByteArray := prog_9_method_42_code
def yX7_comes : MethodName := ⟨RX7, "comes", "()V"⟩
abbrev cX7_bring : ByteArray := prog_9_method_43_code
def yX7_bring : MethodName := ⟨RX7, "bring", "()I"⟩
abbrev cX7_stock : ByteArray := prog_9_method_44_code
def yX7_stock : MethodName := ⟨RX7, "stock", "(II)I"⟩
abbrev cX7_again : ByteArray := prog_9_method_45_code
def yX7_again : MethodName := ⟨RX7, "again", "(I)I"⟩
abbrev cX7_pass : ByteArray := prog_9_method_46_code
def yX7_pass : MethodName := ⟨RX7, "pass", "(I)I"⟩
abbrev cX7_giveOut : ByteArray := prog_9_method_47_code
def yX7_giveOut : MethodName := ⟨RX7, "giveOut", "()I"⟩
abbrev cX7_clear : ByteArray := prog_9_method_48_code
def yX7_clear : MethodName := ⟨RX7, "clear", "()I"⟩
abbrev cX7_fixer : ByteArray := prog_9_method_49_code
def yX7_fixer : MethodName := ⟨RX7, "fixer", "(II)I"⟩
abbrev cX7_doer : ByteArray := prog_9_method_50_code
def yX7_doer : MethodName := ⟨RX7, "doer", "(I)I"⟩
abbrev cX7_skilled : ByteArray := prog_9_method_51_code
def yX7_skilled : MethodName := ⟨RX7, "skilled", "(I)I"⟩
abbrev cX7_thing : ByteArray := prog_9_method_52_code
def yX7_thing : MethodName := ⟨RX7, "thing", "(II)I"⟩
abbrev cX7_step : ByteArray := prog_9_method_53_code
def yX7_step : MethodName := ⟨RX7, "step", "(III)I"⟩
abbrev cX7_freeMany : ByteArray := prog_9_method_54_code
def yX7_freeMany : MethodName := ⟨RX7, "freeMany", "()I"⟩
abbrev cX7_count : ByteArray := prog_9_method_55_code
def yX7_count : MethodName := ⟨RX7, "count", "(I)I"⟩
abbrev cX7_plan : ByteArray := prog_9_method_56_code
def yX7_plan : MethodName := ⟨RX7, "plan", "(I)I"⟩
abbrev cX7_planned : ByteArray := prog_9_method_57_code
def yX7_planned : MethodName := ⟨RX7, "planned", "()I"⟩
abbrev cX7_ifAway : ByteArray := prog_9_method_58_code
def yX7_ifAway : MethodName := ⟨RX7, "ifAway", "(I)I"⟩
abbrev cX7_bestSkill : ByteArray := prog_9_method_59_code
def yX7_bestSkill : MethodName := ⟨RX7, "bestSkill", "(I)I"⟩
abbrev cX7_ifPassed : ByteArray := prog_9_method_60_code
def yX7_ifPassed : MethodName := ⟨RX7, "ifPassed", "(II)I"⟩
abbrev cX7_isOver : ByteArray := prog_9_method_61_code
def yX7_isOver : MethodName := ⟨RX7, "isOver", "()Z"⟩
abbrev cX7_untilOver : ByteArray := prog_9_method_62_code
def yX7_untilOver : MethodName := ⟨RX7, "untilOver", "()I"⟩
abbrev cX7_bestPart : ByteArray := prog_9_method_63_code
def yX7_bestPart : MethodName := ⟨RX7, "bestPart", "(I)I"⟩
abbrev cX7_put : ByteArray := prog_9_method_64_code
def yX7_put : MethodName := ⟨RX7, "put", "(J)I"⟩
abbrev cX7_wipe : ByteArray := prog_9_method_65_code
def yX7_wipe : MethodName := ⟨RX7, "wipe", "()I"⟩
abbrev cX7_character : ByteArray := prog_9_method_66_code
def yX7_character : MethodName := ⟨RX7, "character", "(I)I"⟩
abbrev cX7_isNext : ByteArray := prog_9_method_67_code
def yX7_isNext : MethodName := ⟨RX7, "isNext", "(I)Z"⟩
abbrev cX7_takeDigit : ByteArray := prog_9_method_68_code
def yX7_takeDigit : MethodName := ⟨RX7, "takeDigit", "(II)I"⟩
abbrev cX7_readsStep : ByteArray := prog_9_method_69_code
def yX7_readsStep : MethodName := ⟨RX7, "readsStep", "()Z"⟩
abbrev cX7_readsThing : ByteArray := prog_9_method_70_code
def yX7_readsThing : MethodName := ⟨RX7, "readsThing", "()Z"⟩
abbrev cX7_findFault : ByteArray := prog_9_method_71_code
def yX7_findFault : MethodName := ⟨RX7, "findFault", "()I"⟩
abbrev cX7_fault : ByteArray := prog_9_method_72_code
def yX7_fault : MethodName := ⟨RX7, "fault", "()I"⟩
abbrev cX7_undo : ByteArray := prog_9_method_73_code
def yX7_undo : MethodName := ⟨RX7, "undo", "()I"⟩
abbrev cX7_save : ByteArray := prog_9_method_74_code
def yX7_save : MethodName := ⟨RX7, "save", "(I)I"⟩
abbrev cX7_restore : ByteArray := prog_9_method_75_code
def yX7_restore : MethodName := ⟨RX7, "restore", "(I)I"⟩
def RJ6 : String := "java/lang/Integer"
def TJ6 : u_T := fun k => match k with
  | _ => ("", "", "", false)
def tyJ6 : Nat → FieldType := fun k => match k with
  | _ => .int
abbrev wsJ60 : List Cond := u_ws RJ6 TJ6 0
theorem nmJ6 : ∀ a, a < 0 → ∀ b, b < 0 → a ≠ b → (TJ6 a).2.1 ≠ (TJ6 b).2.1 := by decide +kernel
theorem tyJ6_ok : ∀ k, k < 0 → parseFieldDescriptor (TJ6 k).2.2.1 = some (tyJ6 k) := by decide +kernel
abbrev cJ6_bitCount_0f7a4 : ByteArray := prog_10_method_49_code
def yJ6_bitCount_0f7a4 : MethodName := ⟨RJ6, "bitCount", "(I)I"⟩
def RJ9 : String := "java/lang/Math"
def TJ9 : u_T := fun k => match k with
  | _ => ("", "", "", false)
def tyJ9 : Nat → FieldType := fun k => match k with
  | _ => .int
abbrev wsJ90 : List Cond := u_ws RJ9 TJ9 0
theorem nmJ9 : ∀ a, a < 0 → ∀ b, b < 0 → a ≠ b → (TJ9 a).2.1 ≠ (TJ9 b).2.1 := by decide +kernel
theorem tyJ9_ok : ∀ k, k < 0 → parseFieldDescriptor (TJ9 k).2.2.1 = some (tyJ9 k) := by decide +kernel
abbrev cJ9_min_7cf53 : ByteArray := prog_11_method_69_code
def yJ9_min_7cf53 : MethodName := ⟨RJ9, "min", "(II)I"⟩
def RL : String := "MendingMorningsLaw"
abbrev cL_law : ByteArray := code
def yL_law : MethodName := ⟨RL, "law", "([I)Z"⟩
abbrev vwCl : List vw_C := [(RX0, TX0, 6), (RX1, TX1, 2), (RX2, TX2, 9), (RX3, TX3, 5), (RX4, TX4, 4), (RX5, TX5, 9), (RX6, TX6, 7), (RX7, TX7, 21)]
end
section
/-! the abstract machine: methods, fields, links by number -/
abbrev vDD : Type := Nat → Nat × Nat × (Nat → Option Nat)
abbrev vMM : Type := Nat → Nat → Int32
abbrev vMD : Type := MethodName × ByteArray × Nat × Option FieldType × Nat × Nat × List Nat
def mym (y : vMD) : MethodName := y.1
def mbc (y : vMD) : ByteArray := y.2.1
def mnl (y : vMD) : Nat := y.2.2.1
def mrt (y : vMD) : Option FieldType := y.2.2.2.1
def mow (y : vMD) : Nat := y.2.2.2.2.1
def mht (y : vMD) : Nat := y.2.2.2.2.2.1
def mll (y : vMD) : List Nat := y.2.2.2.2.2.2
def MX0_init : vMD := (yX0_init, cX0_init, 1, none, 0, 1, [])
def MX0_start : vMD := (yX0_start, cX0_start, 3, none, 0, 1, [])
def MX0_becomeFree : vMD := (yX0_becomeFree, cX0_becomeFree, 1, none, 0, 0, [])
def MX0_canTakeMore : vMD := (yX0_canTakeMore, cX0_canTakeMore, 1, some .boolean, 0, 0, [])
def MX0_copyFrom : vMD := (yX0_copyFrom, cX0_copyFrom, 2, none, 0, 0, [])
def MX1_init : vMD := (yX1_init, cX1_init, 2, none, 1, 3, [])
def MX1_keep : vMD := (yX1_keep, cX1_keep, 2, none, 1, 2, [])
def MX1_dropOldest : vMD := (yX1_dropOldest, cX1_dropOldest, 3, none, 1, 0, [])
def MX1_takeBack : vMD := (yX1_takeBack, cX1_takeBack, 2, none, 1, 2, [])
def MX2_init : vMD := (yX2_init, cX2_init, 2, none, 2, 2, [])
def MX2_copyFrom : vMD := (yX2_copyFrom, cX2_copyFrom, 3, none, 2, 1, [])
def MX2_hasFixer : vMD := (yX2_hasFixer, cX2_hasFixer, 2, some .boolean, 2, 0, [])
def MX2_hasThing : vMD := (yX2_hasThing, cX2_hasThing, 2, some .boolean, 2, 0, [])
def MX2_addFixer : vMD := (yX2_addFixer, cX2_addFixer, 3, some .int, 2, 2, [])
def MX2_addThing : vMD := (yX2_addThing, cX2_addThing, 2, none, 2, 1, [])
def MX2_removeThings : vMD := (yX2_removeThings, cX2_removeThings, 2, none, 2, 1, [])
def MX2_fixersThere : vMD := (yX2_fixersThere, cX2_fixersThere, 3, some .int, 2, 0, [])
def MX2_fixersWith : vMD := (yX2_fixersWith, cX2_fixersWith, 4, some .int, 2, 0, [])
def MX2_freeFixers : vMD := (yX2_freeFixers, cX2_freeFixers, 3, some .int, 2, 1, [])
def MX2_fixerOf : vMD := (yX2_fixerOf, cX2_fixerOf, 3, some .int, 2, 0, [])
def MX2_thingsIn : vMD := (yX2_thingsIn, cX2_thingsIn, 4, some .int, 2, 0, [])
def MX2_isOver : vMD := (yX2_isOver, cX2_isOver, 1, some .boolean, 2, 1, [])
def MX2_thingsFor : vMD := (yX2_thingsFor, cX2_thingsFor, 4, some .int, 2, 3, [])
def MX2_isFor : vMD := (yX2_isFor, cX2_isFor, 3, some .boolean, 2, 2, [])
def MX2_isInStock : vMD := (yX2_isInStock, cX2_isInStock, 2, some .boolean, 2, 0, [])
def MX2_takeIfInStock : vMD := (yX2_takeIfInStock, cX2_takeIfInStock, 4, some .boolean, 2, 2, [])
def MX2_letPass : vMD := (yX2_letPass, cX2_letPass, 3, none, 2, 5, [])
def MX2_letOnePass : vMD := (yX2_letOnePass, cX2_letOnePass, 2, none, 2, 4, [])
def MX2_work : vMD := (yX2_work, cX2_work, 2, none, 2, 2, [])
def MX2_longestWaiting : vMD := (yX2_longestWaiting, cX2_longestWaiting, 5, some .int, 2, 3, [])
def MX2_waitOn : vMD := (yX2_waitOn, cX2_waitOn, 2, none, 2, 1, [])
def MX3_init : vMD := (yX3_init, cX3_init, 2, none, 3, 2, [])
def MX3_signsIn : vMD := (yX3_signsIn, cX3_signsIn, 6, some .int, 3, 1, [0, 2])
def MX3_append : vMD := (yX3_append, cX3_append, 5, none, 3, 0, [1])
def MX3_readThings : vMD := (yX3_readThings, cX3_readThings, 3, some .int, 3, 4, [])
def MX3_placeBehind : vMD := (yX3_placeBehind, cX3_placeBehind, 4, some .int, 3, 3, [])
def MX3_readFirstSkill : vMD := (yX3_readFirstSkill, cX3_readFirstSkill, 2, some .int, 3, 2, [])
def MX3_readSkill : vMD := (yX3_readSkill, cX3_readSkill, 2, some .int, 3, 1, [])
def MX3_readWork : vMD := (yX3_readWork, cX3_readWork, 2, some .int, 3, 2, [])
def MX3_readPart : vMD := (yX3_readPart, cX3_readPart, 2, some .int, 3, 2, [])
def MX3_readWeakness : vMD := (yX3_readWeakness, cX3_readWeakness, 2, some .int, 3, 0, [])
def MX3_placeBehindMark : vMD := (yX3_placeBehindMark, cX3_placeBehindMark, 3, some .int, 3, 0, [])
def MX4_init : vMD := (yX4_init, cX4_init, 1, none, 4, 1, [])
def MX4_lookAt : vMD := (yX4_lookAt, cX4_lookAt, 4, none, 4, 4, [])
def MX4_addFixer : vMD := (yX4_addFixer, cX4_addFixer, 2, none, 4, 0, [])
def MX4_mostServed : vMD := (yX4_mostServed, cX4_mostServed, 10, some .int, 4, 1, [])
def MX4_makePlan : vMD := (yX4_makePlan, cX4_makePlan, 6, none, 4, 5, [])
def MX4_lowestFor : vMD := (yX4_lowestFor, cX4_lowestFor, 7, some .int, 4, 2, [])
def MX5_init : vMD := (yX5_init, cX5_init, 1, none, 5, 1, [])
def MX5_start : vMD := (yX5_start, cX5_start, 1, none, 5, 1, [])
def MX5_becomeWaiting : vMD := (yX5_becomeWaiting, cX5_becomeWaiting, 1, none, 5, 0, [])
def MX5_leaveQueue : vMD := (yX5_leaveQueue, cX5_leaveQueue, 2, none, 5, 0, [])
def MX5_hasStep : vMD := (yX5_hasStep, cX5_hasStep, 2, some .boolean, 5, 0, [])
def MX5_addStep : vMD := (yX5_addStep, cX5_addStep, 2, none, 5, 0, [])
def MX5_setLastWork : vMD := (yX5_setLastWork, cX5_setLastWork, 2, none, 5, 1, [])
def MX5_setLastPart : vMD := (yX5_setLastPart, cX5_setLastPart, 2, none, 5, 1, [])
def MX5_nextSkill : vMD := (yX5_nextSkill, cX5_nextSkill, 1, some .int, 5, 1, [])
def MX5_nextWork : vMD := (yX5_nextWork, cX5_nextWork, 2, some .int, 5, 1, [])
def MX5_nextPart : vMD := (yX5_nextPart, cX5_nextPart, 1, some .int, 5, 1, [])
def MX5_endStep : vMD := (yX5_endStep, cX5_endStep, 1, some .boolean, 5, 1, [])
def MX5_copyFrom : vMD := (yX5_copyFrom, cX5_copyFrom, 3, none, 5, 0, [])
def MX6_init : vMD := (yX6_init, cX6_init, 2, none, 6, 4, [])
def MX6_set : vMD := (yX6_set, cX6_set, 4, some .int, 6, 3, [])
def MX6_come : vMD := (yX6_come, cX6_come, 3, some .int, 6, 3, [])
def MX6_away : vMD := (yX6_away, cX6_away, 4, some .int, 6, 3, [])
def MX6_bring : vMD := (yX6_bring, cX6_bring, 2, some .int, 6, 5, [])
def MX6_stock : vMD := (yX6_stock, cX6_stock, 3, some .int, 6, 3, [])
def MX6_again : vMD := (yX6_again, cX6_again, 3, some .int, 6, 3, [])
def MX6_pass : vMD := (yX6_pass, cX6_pass, 3, some .int, 6, 6, [])
def MX6_giveOut : vMD := (yX6_giveOut, cX6_giveOut, 3, some .int, 6, 6, [])
def MX6_clear : vMD := (yX6_clear, cX6_clear, 2, some .int, 6, 3, [])
def MX6_fixer : vMD := (yX6_fixer, cX6_fixer, 4, some .int, 6, 1, [])
def MX6_thing : vMD := (yX6_thing, cX6_thing, 5, some .int, 6, 2, [])
def MX6_step : vMD := (yX6_step, cX6_step, 5, some .int, 6, 1, [])
def MX6_count : vMD := (yX6_count, cX6_count, 2, some .int, 6, 2, [])
def MX6_plan : vMD := (yX6_plan, cX6_plan, 2, some .int, 6, 6, [])
def MX6_planned : vMD := (yX6_planned, cX6_planned, 1, some .int, 6, 5, [])
def MX6_ifAway : vMD := (yX6_ifAway, cX6_ifAway, 2, some .int, 6, 5, [])
def MX6_bestSkill : vMD := (yX6_bestSkill, cX6_bestSkill, 6, some .int, 6, 5, [])
def MX6_ifPassed : vMD := (yX6_ifPassed, cX6_ifPassed, 3, some .int, 6, 6, [])
def MX6_untilOver : vMD := (yX6_untilOver, cX6_untilOver, 2, some .int, 6, 5, [])
def MX6_bestPart : vMD := (yX6_bestPart, cX6_bestPart, 6, some .int, 6, 6, [])
def MX6_put : vMD := (yX6_put, cX6_put, 4, some .int, 6, 2, [1])
def MX6_wipe : vMD := (yX6_wipe, cX6_wipe, 2, some .int, 6, 0, [])
def MX6_fault : vMD := (yX6_fault, cX6_fault, 1, some .int, 6, 5, [])
def MX6_undo : vMD := (yX6_undo, cX6_undo, 1, some .int, 6, 3, [])
def MX6_save : vMD := (yX6_save, cX6_save, 2, some .int, 6, 2, [])
def MX6_restore : vMD := (yX6_restore, cX6_restore, 2, some .int, 6, 3, [])
def MX6_isOutside : vMD := (yX6_isOutside, cX6_isOutside, 3, some .boolean, 6, 0, [])
def MX7_init : vMD := (yX7_init, cX7_init, 2, none, 7, 1, [])
def MX7_moves : vMD := (yX7_moves, cX7_moves, 5, none, 7, 0, [])
def MX7_within : vMD := (yX7_within, cX7_within, 3, some .boolean, 7, 0, [])
def MX7_record : vMD := (yX7_record, cX7_record, 2, none, 7, 1, [])
def MX7_isFixer : vMD := (yX7_isFixer, cX7_isFixer, 2, some .boolean, 7, 1, [])
def MX7_isThing : vMD := (yX7_isThing, cX7_isThing, 2, some .boolean, 7, 1, [])
def MX7_ofFixer : vMD := (yX7_ofFixer, cX7_ofFixer, 3, some .int, 7, 0, [])
def MX7_setFixer : vMD := (yX7_setFixer, cX7_setFixer, 4, none, 7, 0, [])
def MX7_ofThing : vMD := (yX7_ofThing, cX7_ofThing, 3, some .int, 7, 0, [])
def MX7_setThing : vMD := (yX7_setThing, cX7_setThing, 4, none, 7, 0, [])
def MX7_isTested : vMD := (yX7_isTested, cX7_isTested, 2, some .boolean, 7, 1, [])
def MX7_nextStep : vMD := (yX7_nextStep, cX7_nextStep, 3, some .int, 7, 2, [])
def MX7_isInStock : vMD := (yX7_isInStock, cX7_isInStock, 2, some .boolean, 7, 0, [])
def MX7_has : vMD := (yX7_has, cX7_has, 3, some .boolean, 7, 1, [])
def MX7_isFree : vMD := (yX7_isFree, cX7_isFree, 2, some .boolean, 7, 1, [])
def MX7_waitsWithPart : vMD := (yX7_waitsWithPart, cX7_waitsWithPart, 2, some .boolean, 7, 3, [])
def MX7_canTake : vMD := (yX7_canTake, cX7_canTake, 3, some .boolean, 7, 4, [])
def MX7_inState : vMD := (yX7_inState, cX7_inState, 4, some .int, 7, 1, [])
def MX7_waitsAnew : vMD := (yX7_waitsAnew, cX7_waitsAnew, 2, none, 7, 1, [])
def MX7_takes : vMD := (yX7_takes, cX7_takes, 4, none, 7, 3, [])
def MX7_endsTest : vMD := (yX7_endsTest, cX7_endsTest, 2, none, 7, 2, [])
def MX7_endsStep : vMD := (yX7_endsStep, cX7_endsStep, 3, none, 7, 3, [])
def MX7_works : vMD := (yX7_works, cX7_works, 2, none, 7, 4, [])
def MX7_longestFor : vMD := (yX7_longestFor, cX7_longestFor, 4, some .int, 7, 5, [])
def MX7_takeAll : vMD := (yX7_takeAll, cX7_takeAll, 3, none, 7, 6, [])
def MX7_waitOn : vMD := (yX7_waitOn, cX7_waitOn, 2, none, 7, 1, [])
def MX7_slot : vMD := (yX7_slot, cX7_slot, 1, none, 7, 7, [])
def MX7_passes : vMD := (yX7_passes, cX7_passes, 3, none, 7, 8, [])
def MX7_findAble : vMD := (yX7_findAble, cX7_findAble, 3, none, 7, 5, [])
def MX7_findMore : vMD := (yX7_findMore, cX7_findMore, 3, none, 7, 4, [])
def MX7_finds : vMD := (yX7_finds, cX7_finds, 9, some .boolean, 7, 0, [])
def MX7_most : vMD := (yX7_most, cX7_most, 5, some .int, 7, 1, [])
def MX7_lowestFor : vMD := (yX7_lowestFor, cX7_lowestFor, 6, some .int, 7, 2, [])
def MX7_findPlan : vMD := (yX7_findPlan, cX7_findPlan, 4, none, 7, 6, [])
def MX7_isValue : vMD := (yX7_isValue, cX7_isValue, 2, some .boolean, 7, 1, [])
def MX7_set : vMD := (yX7_set, cX7_set, 4, some .int, 7, 2, [])
def MX7_come : vMD := (yX7_come, cX7_come, 4, some .int, 7, 2, [])
def MX7_those : vMD := (yX7_those, cX7_those, 3, some .int, 7, 1, [])
def MX7_away : vMD := (yX7_away, cX7_away, 3, some .int, 7, 2, [])
def MX7_toldMany : vMD := (yX7_toldMany, cX7_toldMany, 3, some .int, 7, 0, [])
def MX7_comes : vMD := (yX7_comes, cX7_comes, 3, none, 7, 1, [])
def MX7_bring : vMD := (yX7_bring, cX7_bring, 1, some .int, 7, 5, [])
def MX7_stock : vMD := (yX7_stock, cX7_stock, 3, some .int, 7, 2, [])
def MX7_again : vMD := (yX7_again, cX7_again, 2, some .int, 7, 2, [])
def MX7_pass : vMD := (yX7_pass, cX7_pass, 2, some .int, 7, 9, [])
def MX7_giveOut : vMD := (yX7_giveOut, cX7_giveOut, 4, some .int, 7, 7, [])
def MX7_clear : vMD := (yX7_clear, cX7_clear, 3, some .int, 7, 2, [])
def MX7_fixer : vMD := (yX7_fixer, cX7_fixer, 3, some .int, 7, 2, [])
def MX7_doer : vMD := (yX7_doer, cX7_doer, 4, some .int, 7, 1, [])
def MX7_skilled : vMD := (yX7_skilled, cX7_skilled, 4, some .int, 7, 3, [])
def MX7_thing : vMD := (yX7_thing, cX7_thing, 3, some .int, 7, 4, [])
def MX7_step : vMD := (yX7_step, cX7_step, 4, some .int, 7, 2, [])
def MX7_freeMany : vMD := (yX7_freeMany, cX7_freeMany, 3, some .int, 7, 2, [])
def MX7_count : vMD := (yX7_count, cX7_count, 2, some .int, 7, 3, [])
def MX7_plan : vMD := (yX7_plan, cX7_plan, 2, some .int, 7, 7, [])
def MX7_planned : vMD := (yX7_planned, cX7_planned, 1, some .int, 7, 6, [])
def MX7_ifAway : vMD := (yX7_ifAway, cX7_ifAway, 2, some .int, 7, 6, [])
def MX7_bestSkill : vMD := (yX7_bestSkill, cX7_bestSkill, 6, some .int, 7, 6, [])
def MX7_ifPassed : vMD := (yX7_ifPassed, cX7_ifPassed, 3, some .int, 7, 9, [])
def MX7_isOver : vMD := (yX7_isOver, cX7_isOver, 1, some .boolean, 7, 2, [])
def MX7_untilOver : vMD := (yX7_untilOver, cX7_untilOver, 3, some .int, 7, 8, [])
def MX7_bestPart : vMD := (yX7_bestPart, cX7_bestPart, 5, some .int, 7, 9, [])
def MX7_put : vMD := (yX7_put, cX7_put, 8, some .int, 7, 1, [1, 4])
def MX7_wipe : vMD := (yX7_wipe, cX7_wipe, 2, some .int, 7, 0, [])
def MX7_character : vMD := (yX7_character, cX7_character, 2, some .int, 7, 0, [])
def MX7_isNext : vMD := (yX7_isNext, cX7_isNext, 3, some .boolean, 7, 1, [])
def MX7_takeDigit : vMD := (yX7_takeDigit, cX7_takeDigit, 4, some .int, 7, 1, [])
def MX7_readsStep : vMD := (yX7_readsStep, cX7_readsStep, 4, some .boolean, 7, 2, [])
def MX7_readsThing : vMD := (yX7_readsThing, cX7_readsThing, 2, some .boolean, 7, 3, [])
def MX7_findFault : vMD := (yX7_findFault, cX7_findFault, 1, some .int, 7, 4, [])
def MX7_fault : vMD := (yX7_fault, cX7_fault, 1, some .int, 7, 5, [])
def MX7_undo : vMD := (yX7_undo, cX7_undo, 1, some .int, 7, 1, [])
def MX7_save : vMD := (yX7_save, cX7_save, 2, some .int, 7, 1, [])
def MX7_restore : vMD := (yX7_restore, cX7_restore, 2, some .int, 7, 2, [])
def MJ6_bitCount_0f7a4 : vMD := (yJ6_bitCount_0f7a4, cJ6_bitCount_0f7a4, 1, some .int, 9, 0, [])
def ML_law : vMD := (yL_law, cL_law, 4, some .boolean, 8, 10, [])
def RN : Nat → String := fun k => match k with
  | 0 => RX0
  | 1 => RX1
  | 2 => RX2
  | 3 => RX3
  | 4 => RX4
  | 5 => RX5
  | 6 => RX6
  | 7 => RX7
  | 8 => RL
  | 9 => RJ6
  | _ => RJ9
def TN : Nat → u_T := fun k => match k with
  | 0 => TX0
  | 1 => TX1
  | 2 => TX2
  | 3 => TX3
  | 4 => TX4
  | 5 => TX5
  | 6 => TX6
  | _ => TX7
def tyN : Nat → Nat → FieldType := fun k => match k with
  | 0 => tyX0
  | 1 => tyX1
  | 2 => tyX2
  | 3 => tyX3
  | 4 => tyX4
  | 5 => tyX5
  | 6 => tyX6
  | _ => tyX7
def NN : Nat → Nat := fun k => match k with
  | 0 => 6
  | 1 => 2
  | 2 => 9
  | 3 => 5
  | 4 => 4
  | 5 => 9
  | 6 => 7
  | _ => 21
def isRfT : FieldType → Bool := fun t => match t with
  | .object _ => true
  | .array _ => true
  | _ => false
def rT (k j : Nat) : Bool := if k < 8 then isRfT (tyN k j) else if k < 10 then false else true
def lk {α : Type} : List (Nat × α) → Nat → Option α
  | [], _ => none
  | q :: t, i => if q.1 = i then some q.2 else lk t i
theorem lk_mem {α : Type} {i : Nat} {v : α} : ∀ (l : List (Nat × α)), lk l i = some v → (i, v) ∈ l
  | [], h => by simp [lk] at h
  | q :: t, h => by
    simp only [lk] at h
    by_cases hq : q.1 = i
    · rw [if_pos hq] at h
      cases h
      subst hq
      exact List.mem_cons_self
    · rw [if_neg hq] at h
      exact List.mem_cons_of_mem _ (lk_mem t h)
def BG : List Cond := lw_tbl.filter goodWord
theorem bg_of {w : Cond} (h : w ∈ lw_tbl) (g : goodWord w = true) : w ∈ BG := List.mem_filter.mpr ⟨h, g⟩
theorem bg_good {w : Cond} (h : w ∈ BG) : goodWord w = true := (List.mem_filter.mp h).2
theorem bg_in {w : Cond} (h : w ∈ BG) : w ∈ lw_tbl := (List.mem_filter.mp h).1
theorem bgT1 {w : Cond} (i : Nat) (h : tables_1_1[i]? = some w) (g : goodWord w = true) : w ∈ BG := bg_of (List.mem_append_right _ (List.mem_append_left _ (List.mem_of_getElem? h))) g
theorem bgT2 {w : Cond} (i : Nat) (h : tables_1_2[i]? = some w) (g : goodWord w = true) : w ∈ BG := bg_of (List.mem_append_right _ (List.mem_append_right _ (List.mem_append_left _ (List.mem_of_getElem? h)))) g
theorem bgT3 {w : Cond} (i : Nat) (h : tables_1_3[i]? = some w) (g : goodWord w = true) : w ∈ BG := bg_of (List.mem_append_right _ (List.mem_append_right _ (List.mem_append_right _ (List.mem_append_left _ (List.mem_of_getElem? h))))) g
theorem bgT4 {w : Cond} (i : Nat) (h : tables_1_4[i]? = some w) (g : goodWord w = true) : w ∈ BG := bg_of (List.mem_append_right _ (List.mem_append_right _ (List.mem_append_right _ (List.mem_append_right _ (List.mem_of_getElem? h))))) g
theorem bgS {q : MethodName × Nat} (i : Nat) (h : lw_privs[i]? = some q) : Cond.selects q.1.cls q.1 q.1 ∈ BG := bg_of (List.mem_append_left _ (List.mem_map.mpr ⟨q, List.mem_of_getElem? h, rfl⟩)) rfl
def fL0 : List (Nat × Nat × Nat) := [(9, (0, 0)), (15, (0, 1)), (18, (0, 2)), (22, (0, 5)), (28, (0, 3)), (31, (0, 4))]
def fL1 : List (Nat × Nat × Nat) := [(11, (1, 0)), (18, (1, 1))]
def fL2 : List (Nat × Nat × Nat) := [(11, (2, 0)), (19, (2, 1)), (23, (2, 2)), (27, (2, 5)), (31, (2, 6)), (36, (2, 3)), (43, (2, 4)), (49, (2, 7)), (52, (2, 8)), (62, (0, 2)), (66, (0, 0)), (73, (0, 3)), (76, (5, 5)), (104, (0, 4)), (130, (0, 1)), (136, (0, 5)), (139, (5, 6))]
def fL3 : List (Nat × Nat × Nat) := [(9, (3, 0)), (17, (3, 1)), (22, (3, 4)), (32, (3, 2)), (36, (3, 3)), (75, (5, 8)), (78, (5, 3))]
def fL4 : List (Nat × Nat × Nat) := [(9, (4, 0)), (15, (4, 1)), (18, (4, 2)), (21, (2, 3)), (27, (4, 3)), (28, (2, 0)), (38, (0, 0))]
def fL5 : List (Nat × Nat × Nat) := [(9, (5, 0)), (15, (5, 1)), (18, (5, 2)), (21, (5, 3)), (25, (5, 4)), (28, (5, 7)), (31, (5, 8)), (37, (5, 5)), (40, (5, 6))]
def fL6 : List (Nat × Nat × Nat) := [(10, (6, 0)), (16, (6, 1)), (19, (6, 2)), (23, (6, 3)), (30, (6, 4)), (37, (6, 5)), (44, (6, 6)), (56, (2, 5)), (60, (2, 6)), (63, (2, 3)), (74, (2, 0)), (78, (0, 2)), (91, (2, 4)), (94, (3, 3)), (97, (3, 1)), (105, (3, 2)), (108, (2, 2)), (115, (2, 1)), (118, (5, 5)), (137, (4, 1)), (147, (0, 0)), (150, (0, 1)), (153, (0, 3)), (156, (0, 4)), (159, (0, 5)), (162, (5, 3)), (165, (5, 4)), (168, (5, 6)), (171, (5, 7)), (174, (5, 8)), (189, (5, 0)), (191, (5, 1)), (194, (5, 2)), (198, (2, 7)), (201, (2, 8)), (204, (1, 1)), (214, (4, 0))]
def fL7 : List (Nat × Nat × Nat) := [(7, (7, 0)), (13, (7, 1)), (16, (7, 2)), (19, (7, 4)), (22, (7, 5)), (25, (7, 6)), (28, (7, 11)), (31, (7, 12)), (34, (7, 13)), (37, (7, 14)), (40, (7, 15)), (43, (7, 16)), (46, (7, 18)), (49, (7, 3)), (95, (7, 10)), (102, (7, 8)), (122, (7, 9)), (164, (7, 7)), (167, (7, 19)), (170, (7, 20)), (179, (7, 17))]
def fL : Nat → List (Nat × Nat × Nat) := fun o => match o with
  | 0 => fL0
  | 1 => fL1
  | 2 => fL2
  | 3 => fL3
  | 4 => fL4
  | 5 => fL5
  | 6 => fL6
  | 7 => fL7
  | _ => []
def mL0 : List (Nat × vMD × Nat × Nat) := [(25, (MX0_becomeFree, 0, 0))]
def mL1 : List (Nat × vMD × Nat × Nat) := [(17, (MX2_init, 2, 0)), (22, (MX1_dropOldest, 0, 0)), (25, (MX2_copyFrom, 0, 1))]
def mL2 : List (Nat × vMD × Nat × Nat) := [(34, (MX0_init, 6, 0)), (35, (MX5_init, 6, 0)), (39, (MX0_copyFrom, 0, 1)), (46, (MX5_copyFrom, 0, 1)), (55, (MX0_start, 0, 2)), (59, (MX0_becomeFree, 0, 0)), (69, (MX0_canTakeMore, 0, 0)), (79, (MX2_thingsIn, 0, 1)), (83, (MX2_isFor, 0, 2)), (87, (MX5_nextSkill, 0, 0)), (91, (MX5_nextPart, 0, 0)), (94, (MX2_isInStock, 0, 1)), (98, (MX2_hasThing, 0, 1)), (101, (MX5_nextWork, 0, 1)), (107, (MX5_leaveQueue, 0, 1)), (111, (MX2_isOver, 0, 0)), (114, (MX2_letOnePass, 0, 0)), (117, (MX2_work, 0, 1)), (120, (MX2_longestWaiting, 0, 1)), (123, (MX2_takeIfInStock, 0, 2)), (127, (MX2_waitOn, 0, 1)), (133, (MX5_endStep, 0, 0))]
def mL3 : List (Nat × vMD × Nat × Nat) := [(21, (MX5_init, 6, 0)), (28, (MX6_isOutside, 5, 3)), (39, (MX3_placeBehind, 0, 2)), (43, (MX3_readFirstSkill, 0, 1)), (47, (MX3_readSkill, 0, 1)), (50, (MX3_readWork, 0, 1)), (53, (MX3_readPart, 0, 1)), (56, (MX3_readWeakness, 0, 1)), (59, (MX3_placeBehindMark, 0, 2)), (62, (MX5_start, 0, 0)), (65, (MX5_addStep, 0, 1)), (69, (MX5_setLastWork, 0, 1)), (72, (MX5_setLastPart, 0, 1))]
def mL4 : List (Nat × vMD × Nat × Nat) := [(32, (MX0_canTakeMore, 0, 0)), (41, (MX2_thingsFor, 0, 1)), (45, (MJ6_bitCount_0f7a4, 1, 1)), (56, (MX4_lookAt, 0, 1)), (61, (MX4_mostServed, 0, 2)), (64, (MX4_lowestFor, 0, 3))]
def mL5 : List (Nat × vMD × Nat × Nat) := [(34, (MX5_becomeWaiting, 0, 0)), (43, (MX5_hasStep, 0, 1)), (47, (MX5_leaveQueue, 0, 1))]
def mL6 : List (Nat × vMD × Nat × Nat) := [(9, (MX2_init, 2, 0)), (29, (MX1_init, 2, 0)), (36, (MX3_init, 2, 0)), (43, (MX4_init, 6, 0)), (48, (MX6_isOutside, 1, 3)), (52, (MX1_keep, 0, 1)), (66, (MX2_addFixer, 0, 2)), (70, (MX2_hasFixer, 0, 1)), (84, (MX2_fixersThere, 0, 0)), (88, (MX3_readThings, 0, 0)), (101, (MX2_addThing, 0, 1)), (112, (MX2_hasThing, 0, 1)), (123, (MX5_becomeWaiting, 0, 0)), (126, (MX2_thingsIn, 0, 1)), (130, (MX2_letPass, 0, 1)), (134, (MX4_makePlan, 0, 1)), (140, (MX2_takeIfInStock, 0, 2)), (144, (MX2_removeThings, 0, 0)), (177, (MX2_fixerOf, 0, 1)), (180, (MX5_nextSkill, 0, 0)), (183, (MX2_fixersWith, 0, 1)), (186, (MX5_hasStep, 0, 1)), (195, (MX2_freeFixers, 0, 0)), (207, (MX4_lookAt, 0, 1)), (211, (MX4_mostServed, 0, 2)), (217, (MX2_thingsFor, 0, 1)), (220, (MX4_addFixer, 0, 1)), (222, (MX2_copyFrom, 0, 1)), (225, (MX2_isOver, 0, 0)), (229, (MX2_letOnePass, 0, 0)), (232, (MX3_signsIn, 1, 1)), (236, (MX3_append, 0, 2)), (240, (MX1_takeBack, 0, 1))]
def mL7 : List (Nat × vMD × Nat × Nat) := [(53, (MX7_moves, 1, 4)), (57, (MX7_within, 1, 3)), (61, (MX7_ofThing, 0, 2)), (65, (MX7_isTested, 0, 1)), (69, (MX7_ofFixer, 0, 2)), (72, (MX7_nextStep, 0, 2)), (75, (MX7_isInStock, 0, 1)), (78, (MX7_isFree, 0, 1)), (81, (MX7_waitsWithPart, 0, 1)), (84, (MX7_has, 0, 2)), (88, (MX7_setThing, 0, 3)), (92, (MX7_setFixer, 0, 3)), (98, (MX7_waitsAnew, 0, 1)), (105, (MX7_endsTest, 0, 1)), (108, (MX7_endsStep, 0, 1)), (111, (MX7_canTake, 0, 2)), (114, (MX7_longestFor, 0, 1)), (118, (MX7_takes, 0, 2)), (125, (MX7_works, 0, 0)), (128, (MX7_takeAll, 0, 0)), (131, (MX7_waitOn, 0, 0)), (134, (MX7_slot, 0, 0)), (137, (MX7_finds, 0, 2)), (140, (MX7_most, 0, 2)), (143, (MX7_findAble, 0, 0)), (147, (MX7_lowestFor, 0, 3)), (151, (MX7_isValue, 1, 2)), (154, (MX7_record, 0, 0)), (157, (MX7_isFixer, 0, 1)), (160, (MX7_those, 0, 0)), (173, (MX7_findFault, 0, 0)), (176, (MX7_toldMany, 0, 0)), (182, (MX7_readsThing, 0, 0)), (186, (MX7_isNext, 0, 1)), (189, (MX7_comes, 0, 0)), (192, (MX7_isThing, 0, 1)), (195, (MX7_inState, 0, 1)), (198, (MX7_passes, 0, 1)), (201, (MX7_findPlan, 0, 0)), (204, (MX7_doer, 0, 1)), (207, (MX7_skilled, 0, 1)), (210, (MX7_freeMany, 0, 0)), (213, (MX7_findMore, 0, 1)), (216, (MX7_isOver, 0, 0)), (221, (MX7_character, 0, 1)), (224, (MX7_takeDigit, 0, 2)), (227, (MX7_readsStep, 0, 0))]
def mL8 : List (Nat × vMD × Nat × Nat) := [(9, (MX6_init, 2, 0)), (12, (MX7_init, 2, 0)), (13, (MX6_set, 0, 2)), (17, (MX7_set, 0, 2)), (18, (MX6_come, 0, 2)), (21, (MX7_come, 0, 2)), (22, (MX6_away, 0, 2)), (26, (MX7_away, 0, 2)), (27, (MX6_bring, 0, 0)), (31, (MX7_bring, 0, 0)), (32, (MX6_stock, 0, 2)), (35, (MX7_stock, 0, 2)), (36, (MX6_again, 0, 1)), (40, (MX7_again, 0, 1)), (41, (MX6_pass, 0, 1)), (44, (MX7_pass, 0, 1)), (45, (MX6_giveOut, 0, 0)), (48, (MX7_giveOut, 0, 0)), (49, (MX6_clear, 0, 0)), (52, (MX7_clear, 0, 0)), (53, (MX6_fixer, 0, 2)), (56, (MX7_fixer, 0, 2)), (57, (MX6_thing, 0, 2)), (60, (MX7_thing, 0, 2)), (61, (MX6_step, 0, 3)), (65, (MX7_step, 0, 3)), (66, (MX6_count, 0, 1)), (69, (MX7_count, 0, 1)), (70, (MX6_plan, 0, 1)), (73, (MX7_plan, 0, 1)), (74, (MX6_planned, 0, 0)), (77, (MX7_planned, 0, 0)), (78, (MX6_ifAway, 0, 1)), (81, (MX7_ifAway, 0, 1)), (82, (MX6_bestSkill, 0, 1)), (85, (MX7_bestSkill, 0, 1)), (86, (MX6_ifPassed, 0, 2)), (89, (MX7_ifPassed, 0, 2)), (90, (MX6_untilOver, 0, 0)), (93, (MX7_untilOver, 0, 0)), (94, (MX6_bestPart, 0, 1)), (97, (MX7_bestPart, 0, 1)), (100, (MX6_put, 0, 1)), (104, (MX7_put, 0, 1)), (105, (MX6_wipe, 0, 0)), (108, (MX7_wipe, 0, 0)), (109, (MX6_fault, 0, 0)), (112, (MX7_fault, 0, 0)), (113, (MX6_undo, 0, 0)), (116, (MX7_undo, 0, 0)), (117, (MX6_save, 0, 1)), (120, (MX7_save, 0, 1)), (121, (MX6_restore, 0, 1)), (124, (MX7_restore, 0, 1))]
def mL : Nat → List (Nat × vMD × Nat × Nat) := fun o => match o with
  | 0 => mL0
  | 1 => mL1
  | 2 => mL2
  | 3 => mL3
  | 4 => mL4
  | 5 => mL5
  | 6 => mL6
  | 7 => mL7
  | 8 => mL8
  | _ => []
def oL0 : List (Nat × Unit) := [(3, ())]
def oL1 : List (Nat × Unit) := [(3, ())]
def oL2 : List (Nat × Unit) := [(3, ())]
def oL3 : List (Nat × Unit) := [(3, ())]
def oL4 : List (Nat × Unit) := [(3, ())]
def oL5 : List (Nat × Unit) := [(3, ())]
def oL6 : List (Nat × Unit) := [(1, ())]
def oL7 : List (Nat × Unit) := [(1, ())]
def oL : Nat → List (Nat × Unit) := fun o => match o with
  | 0 => oL0
  | 1 => oL1
  | 2 => oL2
  | 3 => oL3
  | 4 => oL4
  | 5 => oL5
  | 6 => oL6
  | 7 => oL7
  | _ => []
def pL4 : List (Nat × Unit) := [(50, ())]
def pL : Nat → List (Nat × Unit) := fun o => match o with
  | 4 => pL4
  | _ => []
def kL1 : List (Nat × Nat) := [(9, 2)]
def kL2 : List (Nat × Nat) := [(9, 0), (17, 5)]
def kL3 : List (Nat × Nat) := [(15, 5)]
def kL6 : List (Nat × Nat) := [(7, 2), (27, 1), (34, 3), (41, 4)]
def kL8 : List (Nat × Nat) := [(7, 6), (10, 7)]
def kL : Nat → List (Nat × Nat) := fun o => match o with
  | 1 => kL1
  | 2 => kL2
  | 3 => kL3
  | 6 => kL6
  | 8 => kL8
  | _ => []
def cL4 : List (Nat × Int32) := [(60, 65535)]
def cL6 : List (Nat × Int32) := [(210, 65535)]
def cL7 : List (Nat × Int32) := [(146, 65535)]
def cL9 : List (Nat × Int32) := [(265, 1431655765), (266, 858993459), (267, 252645135)]
def cL : Nat → List (Nat × Int32) := fun o => match o with
  | 4 => cL4
  | 6 => cL6
  | 7 => cL7
  | 9 => cL9
  | _ => []
def lL3 : List (Nat × Int64) := [(26, 255)]
def lL7 : List (Nat × Int64) := [(219, 255)]
def lL8 : List (Nat × Int64) := [(98, 4294967295)]
def lL : Nat → List (Nat × Int64) := fun o => match o with
  | 3 => lL3
  | 7 => lL7
  | 8 => lL8
  | _ => []
def fOK (o : Nat) (q : Nat × Nat × Nat) : Prop := q.2.1 < 8 ∧ q.2.2 < NN q.2.1 ∧ Cond.fieldLink (RN o) q.1 (TN q.2.1 q.2.2).1 (TN q.2.1 q.2.2).2.1 (TN q.2.1 q.2.2).2.2.1 ∈ BG
def yOK (y : vMD) : Prop := Cond.code (mym y) (mbc y) (mnl y) (mrt y) ∈ BG ∧ Cond.initialized (mym y).cls ∈ BG ∧ ((mym y).cls ≠ "java/lang/invoke/MethodHandle" ∧ (mym y).cls ≠ "java/lang/invoke/VarHandle") ∧ plainName (mym y).cls = true ∧ mnl y ≤ 12 ∧ (mym y).cls = RN (mow y)
def nestL : List (Nat × Nat × MethodName) := [(2, 34, yX0_init), (2, 35, yX5_init), (3, 21, yX5_init), (3, 28, yX6_isOutside), (6, 43, yX4_init)]
def mOK (o : Nat) (q : Nat × vMD × Nat × Nat) : Prop := yOK q.2.1 ∧ (if q.2.2.1 < 4 then Cond.methodLink (RN o) q.1 (mym q.2.1) ∈ BG else (o, q.1, mym q.2.1) ∈ nestL) ∧ (parseMethodDescriptor (mym q.2.1).desc).map (fun d => d.parameters.length) = some q.2.2.2 ∧ ((q.2.2.1 = 0 ∧ mow q.2.1 < 8 ∧ Cond.instanceMethod (mym q.2.1) ∈ BG ∧ Cond.selects (mym q.2.1).cls (mym q.2.1) (mym q.2.1) ∈ BG) ∨ ((q.2.2.1 = 1 ∨ q.2.2.1 = 5) ∧ Cond.static (mym q.2.1) ∈ BG) ∨ ((q.2.2.1 = 2 ∨ q.2.2.1 = 6) ∧ mow q.2.1 < 8 ∧ mrt q.2.1 = none ∧ (mym q.2.1).name = "<init>" ∧ Cond.instanceMethod (mym q.2.1) ∈ BG))
def oOK (o : Nat) (q : Nat × Unit) : Prop := Cond.methodLink (RN o) q.1 objectInit ∈ BG
def pOK (o : Nat) (q : Nat × Unit) : Prop := Cond.methodLink (RN o) q.1 Lib.Math.min.name ∈ BG
def kOK (o : Nat) (q : Nat × Nat) : Prop := q.2 < 8 ∧ Cond.classLink (RN o) q.1 (RN q.2) ∈ BG
def cOK (o : Nat) (q : Nat × Int32) : Prop := Cond.constant (RN o) q.1 q.2 ∈ BG
def lOK (o : Nat) (q : Nat × Int64) : Prop := Cond.constantLong (RN o) q.1 q.2 ∈ BG
theorem ykX0_init : yOK MX0_init := ⟨(bgT1 32 rfl rfl), (bgT1 3 rfl rfl), ⟨by decide +kernel, by decide +kernel⟩, by decide +kernel, by decide, rfl⟩
theorem ykX0_start : yOK MX0_start := ⟨(bgT2 38 rfl rfl), (bgT1 3 rfl rfl), ⟨by decide +kernel, by decide +kernel⟩, by decide +kernel, by decide, rfl⟩
theorem ykX0_becomeFree : yOK MX0_becomeFree := ⟨(bgT2 42 rfl rfl), (bgT1 3 rfl rfl), ⟨by decide +kernel, by decide +kernel⟩, by decide +kernel, by decide, rfl⟩
theorem ykX0_canTakeMore : yOK MX0_canTakeMore := ⟨(bgT2 171 rfl rfl), (bgT1 3 rfl rfl), ⟨by decide +kernel, by decide +kernel⟩, by decide +kernel, by decide, rfl⟩
theorem ykX0_copyFrom : yOK MX0_copyFrom := ⟨(bgT2 22 rfl rfl), (bgT1 3 rfl rfl), ⟨by decide +kernel, by decide +kernel⟩, by decide +kernel, by decide, rfl⟩
theorem ykX1_init : yOK MX1_init := ⟨(bgT1 157 rfl rfl), (bgT1 5 rfl rfl), ⟨by decide +kernel, by decide +kernel⟩, by decide +kernel, by decide, rfl⟩
theorem ykX1_keep : yOK MX1_keep := ⟨(bgT2 10 rfl rfl), (bgT1 5 rfl rfl), ⟨by decide +kernel, by decide +kernel⟩, by decide +kernel, by decide, rfl⟩
theorem ykX1_dropOldest : yOK MX1_dropOldest := ⟨(bgT2 14 rfl rfl), (bgT1 5 rfl rfl), ⟨by decide +kernel, by decide +kernel⟩, by decide +kernel, by decide, rfl⟩
theorem ykX1_takeBack : yOK MX1_takeBack := ⟨(bgT3 105 rfl rfl), (bgT1 5 rfl rfl), ⟨by decide +kernel, by decide +kernel⟩, by decide +kernel, by decide, rfl⟩
theorem ykX2_init : yOK MX2_init := ⟨(bgT1 23 rfl rfl), (bgT1 2 rfl rfl), ⟨by decide +kernel, by decide +kernel⟩, by decide +kernel, by decide, rfl⟩
theorem ykX2_copyFrom : yOK MX2_copyFrom := ⟨(bgT2 18 rfl rfl), (bgT1 2 rfl rfl), ⟨by decide +kernel, by decide +kernel⟩, by decide +kernel, by decide, rfl⟩
theorem ykX2_hasFixer : yOK MX2_hasFixer := ⟨(bgT2 50 rfl rfl), (bgT1 2 rfl rfl), ⟨by decide +kernel, by decide +kernel⟩, by decide +kernel, by decide, rfl⟩
theorem ykX2_hasThing : yOK MX2_hasThing := ⟨(bgT2 131 rfl rfl), (bgT1 2 rfl rfl), ⟨by decide +kernel, by decide +kernel⟩, by decide +kernel, by decide, rfl⟩
theorem ykX2_addFixer : yOK MX2_addFixer := ⟨(bgT2 34 rfl rfl), (bgT1 2 rfl rfl), ⟨by decide +kernel, by decide +kernel⟩, by decide +kernel, by decide, rfl⟩
theorem ykX2_addThing : yOK MX2_addThing := ⟨(bgT2 119 rfl rfl), (bgT1 2 rfl rfl), ⟨by decide +kernel, by decide +kernel⟩, by decide +kernel, by decide, rfl⟩
theorem ykX2_removeThings : yOK MX2_removeThings := ⟨(bgT3 8 rfl rfl), (bgT1 2 rfl rfl), ⟨by decide +kernel, by decide +kernel⟩, by decide +kernel, by decide, rfl⟩
theorem ykX2_fixersThere : yOK MX2_fixersThere := ⟨(bgT2 54 rfl rfl), (bgT1 2 rfl rfl), ⟨by decide +kernel, by decide +kernel⟩, by decide +kernel, by decide, rfl⟩
theorem ykX2_fixersWith : yOK MX2_fixersWith := ⟨(bgT3 25 rfl rfl), (bgT1 2 rfl rfl), ⟨by decide +kernel, by decide +kernel⟩, by decide +kernel, by decide, rfl⟩
theorem ykX2_freeFixers : yOK MX2_freeFixers := ⟨(bgT3 38 rfl rfl), (bgT1 2 rfl rfl), ⟨by decide +kernel, by decide +kernel⟩, by decide +kernel, by decide, rfl⟩
theorem ykX2_fixerOf : yOK MX2_fixerOf := ⟨(bgT3 20 rfl rfl), (bgT1 2 rfl rfl), ⟨by decide +kernel, by decide +kernel⟩, by decide +kernel, by decide, rfl⟩
theorem ykX2_thingsIn : yOK MX2_thingsIn := ⟨(bgT2 136 rfl rfl), (bgT1 2 rfl rfl), ⟨by decide +kernel, by decide +kernel⟩, by decide +kernel, by decide, rfl⟩
theorem ykX2_isOver : yOK MX2_isOver := ⟨(bgT2 148 rfl rfl), (bgT1 2 rfl rfl), ⟨by decide +kernel, by decide +kernel⟩, by decide +kernel, by decide, rfl⟩
theorem ykX2_thingsFor : yOK MX2_thingsFor := ⟨(bgT2 221 rfl rfl), (bgT1 2 rfl rfl), ⟨by decide +kernel, by decide +kernel⟩, by decide +kernel, by decide, rfl⟩
theorem ykX2_isFor : yOK MX2_isFor := ⟨(bgT2 179 rfl rfl), (bgT1 2 rfl rfl), ⟨by decide +kernel, by decide +kernel⟩, by decide +kernel, by decide, rfl⟩
theorem ykX2_isInStock : yOK MX2_isInStock := ⟨(bgT2 191 rfl rfl), (bgT1 2 rfl rfl), ⟨by decide +kernel, by decide +kernel⟩, by decide +kernel, by decide, rfl⟩
theorem ykX2_takeIfInStock : yOK MX2_takeIfInStock := ⟨(bgT2 195 rfl rfl), (bgT1 2 rfl rfl), ⟨by decide +kernel, by decide +kernel⟩, by decide +kernel, by decide, rfl⟩
theorem ykX2_letPass : yOK MX2_letPass := ⟨(bgT2 144 rfl rfl), (bgT1 2 rfl rfl), ⟨by decide +kernel, by decide +kernel⟩, by decide +kernel, by decide, rfl⟩
theorem ykX2_letOnePass : yOK MX2_letOnePass := ⟨(bgT2 153 rfl rfl), (bgT1 2 rfl rfl), ⟨by decide +kernel, by decide +kernel⟩, by decide +kernel, by decide, rfl⟩
theorem ykX2_work : yOK MX2_work := ⟨(bgT2 157 rfl rfl), (bgT1 2 rfl rfl), ⟨by decide +kernel, by decide +kernel⟩, by decide +kernel, by decide, rfl⟩
theorem ykX2_longestWaiting : yOK MX2_longestWaiting := ⟨(bgT2 175 rfl rfl), (bgT1 2 rfl rfl), ⟨by decide +kernel, by decide +kernel⟩, by decide +kernel, by decide, rfl⟩
theorem ykX2_waitOn : yOK MX2_waitOn := ⟨(bgT2 204 rfl rfl), (bgT1 2 rfl rfl), ⟨by decide +kernel, by decide +kernel⟩, by decide +kernel, by decide, rfl⟩
theorem ykX3_init : yOK MX3_init := ⟨(bgT1 174 rfl rfl), (bgT1 6 rfl rfl), ⟨by decide +kernel, by decide +kernel⟩, by decide +kernel, by decide, rfl⟩
theorem ykX3_signsIn : yOK MX3_signsIn := ⟨(bgT3 84 rfl rfl), (bgT1 6 rfl rfl), ⟨by decide +kernel, by decide +kernel⟩, by decide +kernel, by decide, rfl⟩
theorem ykX3_append : yOK MX3_append := ⟨(bgT3 89 rfl rfl), (bgT1 6 rfl rfl), ⟨by decide +kernel, by decide +kernel⟩, by decide +kernel, by decide, rfl⟩
theorem ykX3_readThings : yOK MX3_readThings := ⟨(bgT2 62 rfl rfl), (bgT1 6 rfl rfl), ⟨by decide +kernel, by decide +kernel⟩, by decide +kernel, by decide, rfl⟩
theorem ykX3_placeBehind : yOK MX3_placeBehind := ⟨(bgT2 66 rfl rfl), (bgT1 6 rfl rfl), ⟨by decide +kernel, by decide +kernel⟩, by decide +kernel, by decide, rfl⟩
theorem ykX3_readFirstSkill : yOK MX3_readFirstSkill := ⟨(bgT2 71 rfl rfl), (bgT1 6 rfl rfl), ⟨by decide +kernel, by decide +kernel⟩, by decide +kernel, by decide, rfl⟩
theorem ykX3_readSkill : yOK MX3_readSkill := ⟨(bgT2 83 rfl rfl), (bgT1 6 rfl rfl), ⟨by decide +kernel, by decide +kernel⟩, by decide +kernel, by decide, rfl⟩
theorem ykX3_readWork : yOK MX3_readWork := ⟨(bgT2 91 rfl rfl), (bgT1 6 rfl rfl), ⟨by decide +kernel, by decide +kernel⟩, by decide +kernel, by decide, rfl⟩
theorem ykX3_readPart : yOK MX3_readPart := ⟨(bgT2 103 rfl rfl), (bgT1 6 rfl rfl), ⟨by decide +kernel, by decide +kernel⟩, by decide +kernel, by decide, rfl⟩
theorem ykX3_readWeakness : yOK MX3_readWeakness := ⟨(bgT2 111 rfl rfl), (bgT1 6 rfl rfl), ⟨by decide +kernel, by decide +kernel⟩, by decide +kernel, by decide, rfl⟩
theorem ykX3_placeBehindMark : yOK MX3_placeBehindMark := ⟨(bgT2 115 rfl rfl), (bgT1 6 rfl rfl), ⟨by decide +kernel, by decide +kernel⟩, by decide +kernel, by decide, rfl⟩
theorem ykX4_init : yOK MX4_init := ⟨(bgT1 201 rfl rfl), (bgT1 7 rfl rfl), ⟨by decide +kernel, by decide +kernel⟩, by decide +kernel, by decide, rfl⟩
theorem ykX4_lookAt : yOK MX4_lookAt := ⟨(bgT2 216 rfl rfl), (bgT1 7 rfl rfl), ⟨by decide +kernel, by decide +kernel⟩, by decide +kernel, by decide, rfl⟩
theorem ykX4_addFixer : yOK MX4_addFixer := ⟨(bgT3 62 rfl rfl), (bgT1 7 rfl rfl), ⟨by decide +kernel, by decide +kernel⟩, by decide +kernel, by decide, rfl⟩
theorem ykX4_mostServed : yOK MX4_mostServed := ⟨(bgT2 226 rfl rfl), (bgT1 7 rfl rfl), ⟨by decide +kernel, by decide +kernel⟩, by decide +kernel, by decide, rfl⟩
theorem ykX4_makePlan : yOK MX4_makePlan := ⟨(bgT2 212 rfl rfl), (bgT1 7 rfl rfl), ⟨by decide +kernel, by decide +kernel⟩, by decide +kernel, by decide, rfl⟩
theorem ykX4_lowestFor : yOK MX4_lowestFor := ⟨(bgT2 239 rfl rfl), (bgT1 7 rfl rfl), ⟨by decide +kernel, by decide +kernel⟩, by decide +kernel, by decide, rfl⟩
theorem ykX5_init : yOK MX5_init := ⟨(bgT1 70 rfl rfl), (bgT1 4 rfl rfl), ⟨by decide +kernel, by decide +kernel⟩, by decide +kernel, by decide, rfl⟩
theorem ykX5_start : yOK MX5_start := ⟨(bgT2 75 rfl rfl), (bgT1 4 rfl rfl), ⟨by decide +kernel, by decide +kernel⟩, by decide +kernel, by decide, rfl⟩
theorem ykX5_becomeWaiting : yOK MX5_becomeWaiting := ⟨(bgT2 79 rfl rfl), (bgT1 4 rfl rfl), ⟨by decide +kernel, by decide +kernel⟩, by decide +kernel, by decide, rfl⟩
theorem ykX5_leaveQueue : yOK MX5_leaveQueue := ⟨(bgT2 166 rfl rfl), (bgT1 4 rfl rfl), ⟨by decide +kernel, by decide +kernel⟩, by decide +kernel, by decide, rfl⟩
theorem ykX5_hasStep : yOK MX5_hasStep := ⟨(bgT2 99 rfl rfl), (bgT1 4 rfl rfl), ⟨by decide +kernel, by decide +kernel⟩, by decide +kernel, by decide, rfl⟩
theorem ykX5_addStep : yOK MX5_addStep := ⟨(bgT2 87 rfl rfl), (bgT1 4 rfl rfl), ⟨by decide +kernel, by decide +kernel⟩, by decide +kernel, by decide, rfl⟩
theorem ykX5_setLastWork : yOK MX5_setLastWork := ⟨(bgT2 95 rfl rfl), (bgT1 4 rfl rfl), ⟨by decide +kernel, by decide +kernel⟩, by decide +kernel, by decide, rfl⟩
theorem ykX5_setLastPart : yOK MX5_setLastPart := ⟨(bgT2 107 rfl rfl), (bgT1 4 rfl rfl), ⟨by decide +kernel, by decide +kernel⟩, by decide +kernel, by decide, rfl⟩
theorem ykX5_nextSkill : yOK MX5_nextSkill := ⟨(bgT2 183 rfl rfl), (bgT1 4 rfl rfl), ⟨by decide +kernel, by decide +kernel⟩, by decide +kernel, by decide, rfl⟩
theorem ykX5_nextWork : yOK MX5_nextWork := ⟨(bgT2 199 rfl rfl), (bgT1 4 rfl rfl), ⟨by decide +kernel, by decide +kernel⟩, by decide +kernel, by decide, rfl⟩
theorem ykX5_nextPart : yOK MX5_nextPart := ⟨(bgT2 187 rfl rfl), (bgT1 4 rfl rfl), ⟨by decide +kernel, by decide +kernel⟩, by decide +kernel, by decide, rfl⟩
theorem ykX5_endStep : yOK MX5_endStep := ⟨(bgT2 162 rfl rfl), (bgT1 4 rfl rfl), ⟨by decide +kernel, by decide +kernel⟩, by decide +kernel, by decide, rfl⟩
theorem ykX5_copyFrom : yOK MX5_copyFrom := ⟨(bgT2 26 rfl rfl), (bgT1 4 rfl rfl), ⟨by decide +kernel, by decide +kernel⟩, by decide +kernel, by decide, rfl⟩
theorem ykX6_init : yOK MX6_init := ⟨(bgT1 15 rfl rfl), (bgT1 1 rfl rfl), ⟨by decide +kernel, by decide +kernel⟩, by decide +kernel, by decide, rfl⟩
theorem ykX6_set : yOK MX6_set := ⟨(bgT2 3 rfl rfl), (bgT1 1 rfl rfl), ⟨by decide +kernel, by decide +kernel⟩, by decide +kernel, by decide, rfl⟩
theorem ykX6_come : yOK MX6_come := ⟨(bgT2 30 rfl rfl), (bgT1 1 rfl rfl), ⟨by decide +kernel, by decide +kernel⟩, by decide +kernel, by decide, rfl⟩
theorem ykX6_away : yOK MX6_away := ⟨(bgT2 46 rfl rfl), (bgT1 1 rfl rfl), ⟨by decide +kernel, by decide +kernel⟩, by decide +kernel, by decide, rfl⟩
theorem ykX6_bring : yOK MX6_bring := ⟨(bgT2 58 rfl rfl), (bgT1 1 rfl rfl), ⟨by decide +kernel, by decide +kernel⟩, by decide +kernel, by decide, rfl⟩
theorem ykX6_stock : yOK MX6_stock := ⟨(bgT2 123 rfl rfl), (bgT1 1 rfl rfl), ⟨by decide +kernel, by decide +kernel⟩, by decide +kernel, by decide, rfl⟩
theorem ykX6_again : yOK MX6_again := ⟨(bgT2 127 rfl rfl), (bgT1 1 rfl rfl), ⟨by decide +kernel, by decide +kernel⟩, by decide +kernel, by decide, rfl⟩
theorem ykX6_pass : yOK MX6_pass := ⟨(bgT2 140 rfl rfl), (bgT1 1 rfl rfl), ⟨by decide +kernel, by decide +kernel⟩, by decide +kernel, by decide, rfl⟩
theorem ykX6_giveOut : yOK MX6_giveOut := ⟨(bgT2 208 rfl rfl), (bgT1 1 rfl rfl), ⟨by decide +kernel, by decide +kernel⟩, by decide +kernel, by decide, rfl⟩
theorem ykX6_clear : yOK MX6_clear := ⟨(bgT3 4 rfl rfl), (bgT1 1 rfl rfl), ⟨by decide +kernel, by decide +kernel⟩, by decide +kernel, by decide, rfl⟩
theorem ykX6_fixer : yOK MX6_fixer := ⟨(bgT3 12 rfl rfl), (bgT1 1 rfl rfl), ⟨by decide +kernel, by decide +kernel⟩, by decide +kernel, by decide, rfl⟩
theorem ykX6_thing : yOK MX6_thing := ⟨(bgT3 16 rfl rfl), (bgT1 1 rfl rfl), ⟨by decide +kernel, by decide +kernel⟩, by decide +kernel, by decide, rfl⟩
theorem ykX6_step : yOK MX6_step := ⟨(bgT3 29 rfl rfl), (bgT1 1 rfl rfl), ⟨by decide +kernel, by decide +kernel⟩, by decide +kernel, by decide, rfl⟩
theorem ykX6_count : yOK MX6_count := ⟨(bgT3 34 rfl rfl), (bgT1 1 rfl rfl), ⟨by decide +kernel, by decide +kernel⟩, by decide +kernel, by decide, rfl⟩
theorem ykX6_plan : yOK MX6_plan := ⟨(bgT3 42 rfl rfl), (bgT1 1 rfl rfl), ⟨by decide +kernel, by decide +kernel⟩, by decide +kernel, by decide, rfl⟩
theorem ykX6_planned : yOK MX6_planned := ⟨(bgT3 46 rfl rfl), (bgT1 1 rfl rfl), ⟨by decide +kernel, by decide +kernel⟩, by decide +kernel, by decide, rfl⟩
theorem ykX6_ifAway : yOK MX6_ifAway := ⟨(bgT3 53 rfl rfl), (bgT1 1 rfl rfl), ⟨by decide +kernel, by decide +kernel⟩, by decide +kernel, by decide, rfl⟩
theorem ykX6_bestSkill : yOK MX6_bestSkill := ⟨(bgT3 57 rfl rfl), (bgT1 1 rfl rfl), ⟨by decide +kernel, by decide +kernel⟩, by decide +kernel, by decide, rfl⟩
theorem ykX6_ifPassed : yOK MX6_ifPassed := ⟨(bgT3 66 rfl rfl), (bgT1 1 rfl rfl), ⟨by decide +kernel, by decide +kernel⟩, by decide +kernel, by decide, rfl⟩
theorem ykX6_untilOver : yOK MX6_untilOver := ⟨(bgT3 71 rfl rfl), (bgT1 1 rfl rfl), ⟨by decide +kernel, by decide +kernel⟩, by decide +kernel, by decide, rfl⟩
theorem ykX6_bestPart : yOK MX6_bestPart := ⟨(bgT3 77 rfl rfl), (bgT1 1 rfl rfl), ⟨by decide +kernel, by decide +kernel⟩, by decide +kernel, by decide, rfl⟩
theorem ykX6_put : yOK MX6_put := ⟨(bgT3 81 rfl rfl), (bgT1 1 rfl rfl), ⟨by decide +kernel, by decide +kernel⟩, by decide +kernel, by decide, rfl⟩
theorem ykX6_wipe : yOK MX6_wipe := ⟨(bgT3 93 rfl rfl), (bgT1 1 rfl rfl), ⟨by decide +kernel, by decide +kernel⟩, by decide +kernel, by decide, rfl⟩
theorem ykX6_fault : yOK MX6_fault := ⟨(bgT3 97 rfl rfl), (bgT1 1 rfl rfl), ⟨by decide +kernel, by decide +kernel⟩, by decide +kernel, by decide, rfl⟩
theorem ykX6_undo : yOK MX6_undo := ⟨(bgT3 101 rfl rfl), (bgT1 1 rfl rfl), ⟨by decide +kernel, by decide +kernel⟩, by decide +kernel, by decide, rfl⟩
theorem ykX6_save : yOK MX6_save := ⟨(bgT3 109 rfl rfl), (bgT1 1 rfl rfl), ⟨by decide +kernel, by decide +kernel⟩, by decide +kernel, by decide, rfl⟩
theorem ykX6_restore : yOK MX6_restore := ⟨(bgT3 113 rfl rfl), (bgT1 1 rfl rfl), ⟨by decide +kernel, by decide +kernel⟩, by decide +kernel, by decide, rfl⟩
theorem ykX6_isOutside : yOK MX6_isOutside := ⟨(bgT2 6 rfl rfl), (bgT1 1 rfl rfl), ⟨by decide +kernel, by decide +kernel⟩, by decide +kernel, by decide, rfl⟩
theorem ykX7_init : yOK MX7_init := ⟨(bgT3 118 rfl rfl), (bgT1 8 rfl rfl), ⟨by decide +kernel, by decide +kernel⟩, by decide +kernel, by decide, rfl⟩
theorem ykX7_moves : yOK MX7_moves := ⟨(bgT3 200 rfl rfl), (bgT1 8 rfl rfl), ⟨by decide +kernel, by decide +kernel⟩, by decide +kernel, by decide, rfl⟩
theorem ykX7_within : yOK MX7_within := ⟨(bgT3 193 rfl rfl), (bgT1 8 rfl rfl), ⟨by decide +kernel, by decide +kernel⟩, by decide +kernel, by decide, rfl⟩
theorem ykX7_record : yOK MX7_record := ⟨(bgT3 197 rfl rfl), (bgT1 8 rfl rfl), ⟨by decide +kernel, by decide +kernel⟩, by decide +kernel, by decide, rfl⟩
theorem ykX7_isFixer : yOK MX7_isFixer := ⟨(bgT3 216 rfl rfl), (bgT1 8 rfl rfl), ⟨by decide +kernel, by decide +kernel⟩, by decide +kernel, by decide, rfl⟩
theorem ykX7_isThing : yOK MX7_isThing := ⟨(bgT4 36 rfl rfl), (bgT1 8 rfl rfl), ⟨by decide +kernel, by decide +kernel⟩, by decide +kernel, by decide, rfl⟩
theorem ykX7_ofFixer : yOK MX7_ofFixer := ⟨(bgT3 220 rfl rfl), (bgT1 8 rfl rfl), ⟨by decide +kernel, by decide +kernel⟩, by decide +kernel, by decide, rfl⟩
theorem ykX7_setFixer : yOK MX7_setFixer := ⟨(bgT3 208 rfl rfl), (bgT1 8 rfl rfl), ⟨by decide +kernel, by decide +kernel⟩, by decide +kernel, by decide, rfl⟩
theorem ykX7_ofThing : yOK MX7_ofThing := ⟨(bgT4 40 rfl rfl), (bgT1 8 rfl rfl), ⟨by decide +kernel, by decide +kernel⟩, by decide +kernel, by decide, rfl⟩
theorem ykX7_setThing : yOK MX7_setThing := ⟨(bgT4 24 rfl rfl), (bgT1 8 rfl rfl), ⟨by decide +kernel, by decide +kernel⟩, by decide +kernel, by decide, rfl⟩
theorem ykX7_isTested : yOK MX7_isTested := ⟨(bgT4 72 rfl rfl), (bgT1 8 rfl rfl), ⟨by decide +kernel, by decide +kernel⟩, by decide +kernel, by decide, rfl⟩
theorem ykX7_nextStep : yOK MX7_nextStep := ⟨(bgT4 100 rfl rfl), (bgT1 8 rfl rfl), ⟨by decide +kernel, by decide +kernel⟩, by decide +kernel, by decide, rfl⟩
theorem ykX7_isInStock : yOK MX7_isInStock := ⟨(bgT4 104 rfl rfl), (bgT1 8 rfl rfl), ⟨by decide +kernel, by decide +kernel⟩, by decide +kernel, by decide, rfl⟩
theorem ykX7_has : yOK MX7_has := ⟨(bgT4 108 rfl rfl), (bgT1 8 rfl rfl), ⟨by decide +kernel, by decide +kernel⟩, by decide +kernel, by decide, rfl⟩
theorem ykX7_isFree : yOK MX7_isFree := ⟨(bgT4 84 rfl rfl), (bgT1 8 rfl rfl), ⟨by decide +kernel, by decide +kernel⟩, by decide +kernel, by decide, rfl⟩
theorem ykX7_waitsWithPart : yOK MX7_waitsWithPart := ⟨(bgT4 96 rfl rfl), (bgT1 8 rfl rfl), ⟨by decide +kernel, by decide +kernel⟩, by decide +kernel, by decide, rfl⟩
theorem ykX7_canTake : yOK MX7_canTake := ⟨(bgT4 92 rfl rfl), (bgT1 8 rfl rfl), ⟨by decide +kernel, by decide +kernel⟩, by decide +kernel, by decide, rfl⟩
theorem ykX7_inState : yOK MX7_inState := ⟨(bgT4 48 rfl rfl), (bgT1 8 rfl rfl), ⟨by decide +kernel, by decide +kernel⟩, by decide +kernel, by decide, rfl⟩
theorem ykX7_waitsAnew : yOK MX7_waitsAnew := ⟨(bgT4 44 rfl rfl), (bgT1 8 rfl rfl), ⟨by decide +kernel, by decide +kernel⟩, by decide +kernel, by decide, rfl⟩
theorem ykX7_takes : yOK MX7_takes := ⟨(bgT4 112 rfl rfl), (bgT1 8 rfl rfl), ⟨by decide +kernel, by decide +kernel⟩, by decide +kernel, by decide, rfl⟩
theorem ykX7_endsTest : yOK MX7_endsTest := ⟨(bgT4 76 rfl rfl), (bgT1 8 rfl rfl), ⟨by decide +kernel, by decide +kernel⟩, by decide +kernel, by decide, rfl⟩
theorem ykX7_endsStep : yOK MX7_endsStep := ⟨(bgT4 68 rfl rfl), (bgT1 8 rfl rfl), ⟨by decide +kernel, by decide +kernel⟩, by decide +kernel, by decide, rfl⟩
theorem ykX7_works : yOK MX7_works := ⟨(bgT4 64 rfl rfl), (bgT1 8 rfl rfl), ⟨by decide +kernel, by decide +kernel⟩, by decide +kernel, by decide, rfl⟩
theorem ykX7_longestFor : yOK MX7_longestFor := ⟨(bgT4 88 rfl rfl), (bgT1 8 rfl rfl), ⟨by decide +kernel, by decide +kernel⟩, by decide +kernel, by decide, rfl⟩
theorem ykX7_takeAll : yOK MX7_takeAll := ⟨(bgT4 80 rfl rfl), (bgT1 8 rfl rfl), ⟨by decide +kernel, by decide +kernel⟩, by decide +kernel, by decide, rfl⟩
theorem ykX7_waitOn : yOK MX7_waitOn := ⟨(bgT4 116 rfl rfl), (bgT1 8 rfl rfl), ⟨by decide +kernel, by decide +kernel⟩, by decide +kernel, by decide, rfl⟩
theorem ykX7_slot : yOK MX7_slot := ⟨(bgT4 60 rfl rfl), (bgT1 8 rfl rfl), ⟨by decide +kernel, by decide +kernel⟩, by decide +kernel, by decide, rfl⟩
theorem ykX7_passes : yOK MX7_passes := ⟨(bgT4 56 rfl rfl), (bgT1 8 rfl rfl), ⟨by decide +kernel, by decide +kernel⟩, by decide +kernel, by decide, rfl⟩
theorem ykX7_findAble : yOK MX7_findAble := ⟨(bgT4 128 rfl rfl), (bgT1 8 rfl rfl), ⟨by decide +kernel, by decide +kernel⟩, by decide +kernel, by decide, rfl⟩
theorem ykX7_findMore : yOK MX7_findMore := ⟨(bgT4 193 rfl rfl), (bgT1 8 rfl rfl), ⟨by decide +kernel, by decide +kernel⟩, by decide +kernel, by decide, rfl⟩
theorem ykX7_finds : yOK MX7_finds := ⟨(bgT4 137 rfl rfl), (bgT1 8 rfl rfl), ⟨by decide +kernel, by decide +kernel⟩, by decide +kernel, by decide, rfl⟩
theorem ykX7_most : yOK MX7_most := ⟨(bgT4 133 rfl rfl), (bgT1 8 rfl rfl), ⟨by decide +kernel, by decide +kernel⟩, by decide +kernel, by decide, rfl⟩
theorem ykX7_lowestFor : yOK MX7_lowestFor := ⟨(bgT4 141 rfl rfl), (bgT1 8 rfl rfl), ⟨by decide +kernel, by decide +kernel⟩, by decide +kernel, by decide, rfl⟩
theorem ykX7_findPlan : yOK MX7_findPlan := ⟨(bgT4 124 rfl rfl), (bgT1 8 rfl rfl), ⟨by decide +kernel, by decide +kernel⟩, by decide +kernel, by decide, rfl⟩
theorem ykX7_isValue : yOK MX7_isValue := ⟨(bgT3 190 rfl rfl), (bgT1 8 rfl rfl), ⟨by decide +kernel, by decide +kernel⟩, by decide +kernel, by decide, rfl⟩
theorem ykX7_set : yOK MX7_set := ⟨(bgT3 187 rfl rfl), (bgT1 8 rfl rfl), ⟨by decide +kernel, by decide +kernel⟩, by decide +kernel, by decide, rfl⟩
theorem ykX7_come : yOK MX7_come := ⟨(bgT3 204 rfl rfl), (bgT1 8 rfl rfl), ⟨by decide +kernel, by decide +kernel⟩, by decide +kernel, by decide, rfl⟩
theorem ykX7_those : yOK MX7_those := ⟨(bgT3 224 rfl rfl), (bgT1 8 rfl rfl), ⟨by decide +kernel, by decide +kernel⟩, by decide +kernel, by decide, rfl⟩
theorem ykX7_away : yOK MX7_away := ⟨(bgT3 212 rfl rfl), (bgT1 8 rfl rfl), ⟨by decide +kernel, by decide +kernel⟩, by decide +kernel, by decide, rfl⟩
theorem ykX7_toldMany : yOK MX7_toldMany := ⟨(bgT4 16 rfl rfl), (bgT1 8 rfl rfl), ⟨by decide +kernel, by decide +kernel⟩, by decide +kernel, by decide, rfl⟩
theorem ykX7_comes : yOK MX7_comes := ⟨(bgT4 20 rfl rfl), (bgT1 8 rfl rfl), ⟨by decide +kernel, by decide +kernel⟩, by decide +kernel, by decide, rfl⟩
theorem ykX7_bring : yOK MX7_bring := ⟨(bgT3 228 rfl rfl), (bgT1 8 rfl rfl), ⟨by decide +kernel, by decide +kernel⟩, by decide +kernel, by decide, rfl⟩
theorem ykX7_stock : yOK MX7_stock := ⟨(bgT4 28 rfl rfl), (bgT1 8 rfl rfl), ⟨by decide +kernel, by decide +kernel⟩, by decide +kernel, by decide, rfl⟩
theorem ykX7_again : yOK MX7_again := ⟨(bgT4 32 rfl rfl), (bgT1 8 rfl rfl), ⟨by decide +kernel, by decide +kernel⟩, by decide +kernel, by decide, rfl⟩
theorem ykX7_pass : yOK MX7_pass := ⟨(bgT4 52 rfl rfl), (bgT1 8 rfl rfl), ⟨by decide +kernel, by decide +kernel⟩, by decide +kernel, by decide, rfl⟩
theorem ykX7_giveOut : yOK MX7_giveOut := ⟨(bgT4 120 rfl rfl), (bgT1 8 rfl rfl), ⟨by decide +kernel, by decide +kernel⟩, by decide +kernel, by decide, rfl⟩
theorem ykX7_clear : yOK MX7_clear := ⟨(bgT4 145 rfl rfl), (bgT1 8 rfl rfl), ⟨by decide +kernel, by decide +kernel⟩, by decide +kernel, by decide, rfl⟩
theorem ykX7_fixer : yOK MX7_fixer := ⟨(bgT4 149 rfl rfl), (bgT1 8 rfl rfl), ⟨by decide +kernel, by decide +kernel⟩, by decide +kernel, by decide, rfl⟩
theorem ykX7_doer : yOK MX7_doer := ⟨(bgT4 157 rfl rfl), (bgT1 8 rfl rfl), ⟨by decide +kernel, by decide +kernel⟩, by decide +kernel, by decide, rfl⟩
theorem ykX7_skilled : yOK MX7_skilled := ⟨(bgT4 161 rfl rfl), (bgT1 8 rfl rfl), ⟨by decide +kernel, by decide +kernel⟩, by decide +kernel, by decide, rfl⟩
theorem ykX7_thing : yOK MX7_thing := ⟨(bgT4 153 rfl rfl), (bgT1 8 rfl rfl), ⟨by decide +kernel, by decide +kernel⟩, by decide +kernel, by decide, rfl⟩
theorem ykX7_step : yOK MX7_step := ⟨(bgT4 165 rfl rfl), (bgT1 8 rfl rfl), ⟨by decide +kernel, by decide +kernel⟩, by decide +kernel, by decide, rfl⟩
theorem ykX7_freeMany : yOK MX7_freeMany := ⟨(bgT4 173 rfl rfl), (bgT1 8 rfl rfl), ⟨by decide +kernel, by decide +kernel⟩, by decide +kernel, by decide, rfl⟩
theorem ykX7_count : yOK MX7_count := ⟨(bgT4 169 rfl rfl), (bgT1 8 rfl rfl), ⟨by decide +kernel, by decide +kernel⟩, by decide +kernel, by decide, rfl⟩
theorem ykX7_plan : yOK MX7_plan := ⟨(bgT4 177 rfl rfl), (bgT1 8 rfl rfl), ⟨by decide +kernel, by decide +kernel⟩, by decide +kernel, by decide, rfl⟩
theorem ykX7_planned : yOK MX7_planned := ⟨(bgT4 181 rfl rfl), (bgT1 8 rfl rfl), ⟨by decide +kernel, by decide +kernel⟩, by decide +kernel, by decide, rfl⟩
theorem ykX7_ifAway : yOK MX7_ifAway := ⟨(bgT4 185 rfl rfl), (bgT1 8 rfl rfl), ⟨by decide +kernel, by decide +kernel⟩, by decide +kernel, by decide, rfl⟩
theorem ykX7_bestSkill : yOK MX7_bestSkill := ⟨(bgT4 189 rfl rfl), (bgT1 8 rfl rfl), ⟨by decide +kernel, by decide +kernel⟩, by decide +kernel, by decide, rfl⟩
theorem ykX7_ifPassed : yOK MX7_ifPassed := ⟨(bgT4 197 rfl rfl), (bgT1 8 rfl rfl), ⟨by decide +kernel, by decide +kernel⟩, by decide +kernel, by decide, rfl⟩
theorem ykX7_isOver : yOK MX7_isOver := ⟨(bgT4 205 rfl rfl), (bgT1 8 rfl rfl), ⟨by decide +kernel, by decide +kernel⟩, by decide +kernel, by decide, rfl⟩
theorem ykX7_untilOver : yOK MX7_untilOver := ⟨(bgT4 201 rfl rfl), (bgT1 8 rfl rfl), ⟨by decide +kernel, by decide +kernel⟩, by decide +kernel, by decide, rfl⟩
theorem ykX7_bestPart : yOK MX7_bestPart := ⟨(bgT4 209 rfl rfl), (bgT1 8 rfl rfl), ⟨by decide +kernel, by decide +kernel⟩, by decide +kernel, by decide, rfl⟩
theorem ykX7_put : yOK MX7_put := ⟨(bgT4 213 rfl rfl), (bgT1 8 rfl rfl), ⟨by decide +kernel, by decide +kernel⟩, by decide +kernel, by decide, rfl⟩
theorem ykX7_wipe : yOK MX7_wipe := ⟨(bgT4 218 rfl rfl), (bgT1 8 rfl rfl), ⟨by decide +kernel, by decide +kernel⟩, by decide +kernel, by decide, rfl⟩
theorem ykX7_character : yOK MX7_character := ⟨(bgT4 8 rfl rfl), (bgT1 8 rfl rfl), ⟨by decide +kernel, by decide +kernel⟩, by decide +kernel, by decide, rfl⟩
theorem ykX7_isNext : yOK MX7_isNext := ⟨(bgT4 12 rfl rfl), (bgT1 8 rfl rfl), ⟨by decide +kernel, by decide +kernel⟩, by decide +kernel, by decide, rfl⟩
theorem ykX7_takeDigit : yOK MX7_takeDigit := ⟨(bgT4 4 rfl rfl), (bgT1 8 rfl rfl), ⟨by decide +kernel, by decide +kernel⟩, by decide +kernel, by decide, rfl⟩
theorem ykX7_readsStep : yOK MX7_readsStep := ⟨(bgT4 0 rfl rfl), (bgT1 8 rfl rfl), ⟨by decide +kernel, by decide +kernel⟩, by decide +kernel, by decide, rfl⟩
theorem ykX7_readsThing : yOK MX7_readsThing := ⟨(bgT3 236 rfl rfl), (bgT1 8 rfl rfl), ⟨by decide +kernel, by decide +kernel⟩, by decide +kernel, by decide, rfl⟩
theorem ykX7_findFault : yOK MX7_findFault := ⟨(bgT3 232 rfl rfl), (bgT1 8 rfl rfl), ⟨by decide +kernel, by decide +kernel⟩, by decide +kernel, by decide, rfl⟩
theorem ykX7_fault : yOK MX7_fault := ⟨(bgT4 222 rfl rfl), (bgT1 8 rfl rfl), ⟨by decide +kernel, by decide +kernel⟩, by decide +kernel, by decide, rfl⟩
theorem ykX7_undo : yOK MX7_undo := ⟨(bgT4 226 rfl rfl), (bgT1 8 rfl rfl), ⟨by decide +kernel, by decide +kernel⟩, by decide +kernel, by decide, rfl⟩
theorem ykX7_save : yOK MX7_save := ⟨(bgT4 230 rfl rfl), (bgT1 8 rfl rfl), ⟨by decide +kernel, by decide +kernel⟩, by decide +kernel, by decide, rfl⟩
theorem ykX7_restore : yOK MX7_restore := ⟨(bgT4 234 rfl rfl), (bgT1 8 rfl rfl), ⟨by decide +kernel, by decide +kernel⟩, by decide +kernel, by decide, rfl⟩
theorem ykJ6_bitCount_0f7a4 : yOK MJ6_bitCount_0f7a4 := ⟨(bgT2 229 rfl rfl), (bgT1 9 rfl rfl), ⟨by decide +kernel, by decide +kernel⟩, by decide +kernel, by decide, rfl⟩
theorem fL0_ok : ∀ q ∈ fL0, fOK 0 q := List.forall_mem_cons.mpr ⟨⟨by decide, by decide, (bgT1 34 rfl rfl)⟩, List.forall_mem_cons.mpr ⟨⟨by decide, by decide, (bgT1 38 rfl rfl)⟩, List.forall_mem_cons.mpr ⟨⟨by decide, by decide, (bgT1 41 rfl rfl)⟩, List.forall_mem_cons.mpr ⟨⟨by decide, by decide, (bgT1 50 rfl rfl)⟩, List.forall_mem_cons.mpr ⟨⟨by decide, by decide, (bgT1 44 rfl rfl)⟩, List.forall_mem_cons.mpr ⟨⟨by decide, by decide, (bgT1 47 rfl rfl)⟩, fun _ h => absurd h List.not_mem_nil⟩⟩⟩⟩⟩⟩
theorem fL1_ok : ∀ q ∈ fL1, fOK 1 q := List.forall_mem_cons.mpr ⟨⟨by decide, by decide, (bgT1 161 rfl rfl)⟩, List.forall_mem_cons.mpr ⟨⟨by decide, by decide, (bgT1 162 rfl rfl)⟩, fun _ h => absurd h List.not_mem_nil⟩⟩
theorem fL2_ok : ∀ q ∈ fL2, fOK 2 q := List.forall_mem_cons.mpr ⟨⟨by decide, by decide, (bgT1 113 rfl rfl)⟩, List.forall_mem_cons.mpr ⟨⟨by decide, by decide, (bgT1 116 rfl rfl)⟩, List.forall_mem_cons.mpr ⟨⟨by decide, by decide, (bgT1 118 rfl rfl)⟩, List.forall_mem_cons.mpr ⟨⟨by decide, by decide, (bgT1 125 rfl rfl)⟩, List.forall_mem_cons.mpr ⟨⟨by decide, by decide, (bgT1 127 rfl rfl)⟩, List.forall_mem_cons.mpr ⟨⟨by decide, by decide, (bgT1 120 rfl rfl)⟩, List.forall_mem_cons.mpr ⟨⟨by decide, by decide, (bgT1 123 rfl rfl)⟩, List.forall_mem_cons.mpr ⟨⟨by decide, by decide, (bgT1 129 rfl rfl)⟩, List.forall_mem_cons.mpr ⟨⟨by decide, by decide, (bgT1 131 rfl rfl)⟩, List.forall_mem_cons.mpr ⟨⟨by decide, by decide, (bgT1 43 rfl rfl)⟩, List.forall_mem_cons.mpr ⟨⟨by decide, by decide, (bgT1 36 rfl rfl)⟩, List.forall_mem_cons.mpr ⟨⟨by decide, by decide, (bgT1 45 rfl rfl)⟩, List.forall_mem_cons.mpr ⟨⟨by decide, by decide, (bgT1 85 rfl rfl)⟩, List.forall_mem_cons.mpr ⟨⟨by decide, by decide, (bgT1 49 rfl rfl)⟩, List.forall_mem_cons.mpr ⟨⟨by decide, by decide, (bgT1 40 rfl rfl)⟩, List.forall_mem_cons.mpr ⟨⟨by decide, by decide, (bgT1 52 rfl rfl)⟩, List.forall_mem_cons.mpr ⟨⟨by decide, by decide, (bgT1 88 rfl rfl)⟩, fun _ h => absurd h List.not_mem_nil⟩⟩⟩⟩⟩⟩⟩⟩⟩⟩⟩⟩⟩⟩⟩⟩⟩
theorem fL3_ok : ∀ q ∈ fL3, fOK 3 q := List.forall_mem_cons.mpr ⟨⟨by decide, by decide, (bgT1 178 rfl rfl)⟩, List.forall_mem_cons.mpr ⟨⟨by decide, by decide, (bgT1 179 rfl rfl)⟩, List.forall_mem_cons.mpr ⟨⟨by decide, by decide, (bgT1 185 rfl rfl)⟩, List.forall_mem_cons.mpr ⟨⟨by decide, by decide, (bgT1 181 rfl rfl)⟩, List.forall_mem_cons.mpr ⟨⟨by decide, by decide, (bgT1 183 rfl rfl)⟩, List.forall_mem_cons.mpr ⟨⟨by decide, by decide, (bgT1 92 rfl rfl)⟩, List.forall_mem_cons.mpr ⟨⟨by decide, by decide, (bgT1 79 rfl rfl)⟩, fun _ h => absurd h List.not_mem_nil⟩⟩⟩⟩⟩⟩⟩
theorem fL4_ok : ∀ q ∈ fL4, fOK 4 q := List.forall_mem_cons.mpr ⟨⟨by decide, by decide, (bgT1 203 rfl rfl)⟩, List.forall_mem_cons.mpr ⟨⟨by decide, by decide, (bgT1 205 rfl rfl)⟩, List.forall_mem_cons.mpr ⟨⟨by decide, by decide, (bgT1 207 rfl rfl)⟩, List.forall_mem_cons.mpr ⟨⟨by decide, by decide, (bgT1 121 rfl rfl)⟩, List.forall_mem_cons.mpr ⟨⟨by decide, by decide, (bgT1 208 rfl rfl)⟩, List.forall_mem_cons.mpr ⟨⟨by decide, by decide, (bgT1 114 rfl rfl)⟩, List.forall_mem_cons.mpr ⟨⟨by decide, by decide, (bgT1 35 rfl rfl)⟩, fun _ h => absurd h List.not_mem_nil⟩⟩⟩⟩⟩⟩⟩
theorem fL5_ok : ∀ q ∈ fL5, fOK 5 q := List.forall_mem_cons.mpr ⟨⟨by decide, by decide, (bgT1 72 rfl rfl)⟩, List.forall_mem_cons.mpr ⟨⟨by decide, by decide, (bgT1 74 rfl rfl)⟩, List.forall_mem_cons.mpr ⟨⟨by decide, by decide, (bgT1 76 rfl rfl)⟩, List.forall_mem_cons.mpr ⟨⟨by decide, by decide, (bgT1 78 rfl rfl)⟩, List.forall_mem_cons.mpr ⟨⟨by decide, by decide, (bgT1 81 rfl rfl)⟩, List.forall_mem_cons.mpr ⟨⟨by decide, by decide, (bgT1 89 rfl rfl)⟩, List.forall_mem_cons.mpr ⟨⟨by decide, by decide, (bgT1 91 rfl rfl)⟩, List.forall_mem_cons.mpr ⟨⟨by decide, by decide, (bgT1 83 rfl rfl)⟩, List.forall_mem_cons.mpr ⟨⟨by decide, by decide, (bgT1 86 rfl rfl)⟩, fun _ h => absurd h List.not_mem_nil⟩⟩⟩⟩⟩⟩⟩⟩⟩
theorem fL6_ok : ∀ q ∈ fL6, fOK 6 q := List.forall_mem_cons.mpr ⟨⟨by decide, by decide, (bgT1 218 rfl rfl)⟩, List.forall_mem_cons.mpr ⟨⟨by decide, by decide, (bgT1 219 rfl rfl)⟩, List.forall_mem_cons.mpr ⟨⟨by decide, by decide, (bgT1 220 rfl rfl)⟩, List.forall_mem_cons.mpr ⟨⟨by decide, by decide, (bgT1 221 rfl rfl)⟩, List.forall_mem_cons.mpr ⟨⟨by decide, by decide, (bgT1 222 rfl rfl)⟩, List.forall_mem_cons.mpr ⟨⟨by decide, by decide, (bgT1 223 rfl rfl)⟩, List.forall_mem_cons.mpr ⟨⟨by decide, by decide, (bgT1 224 rfl rfl)⟩, List.forall_mem_cons.mpr ⟨⟨by decide, by decide, (bgT1 126 rfl rfl)⟩, List.forall_mem_cons.mpr ⟨⟨by decide, by decide, (bgT1 128 rfl rfl)⟩, List.forall_mem_cons.mpr ⟨⟨by decide, by decide, (bgT1 122 rfl rfl)⟩, List.forall_mem_cons.mpr ⟨⟨by decide, by decide, (bgT1 115 rfl rfl)⟩, List.forall_mem_cons.mpr ⟨⟨by decide, by decide, (bgT1 42 rfl rfl)⟩, List.forall_mem_cons.mpr ⟨⟨by decide, by decide, (bgT1 124 rfl rfl)⟩, List.forall_mem_cons.mpr ⟨⟨by decide, by decide, (bgT1 184 rfl rfl)⟩, List.forall_mem_cons.mpr ⟨⟨by decide, by decide, (bgT1 180 rfl rfl)⟩, List.forall_mem_cons.mpr ⟨⟨by decide, by decide, (bgT1 182 rfl rfl)⟩, List.forall_mem_cons.mpr ⟨⟨by decide, by decide, (bgT1 119 rfl rfl)⟩, List.forall_mem_cons.mpr ⟨⟨by decide, by decide, (bgT1 117 rfl rfl)⟩, List.forall_mem_cons.mpr ⟨⟨by decide, by decide, (bgT1 84 rfl rfl)⟩, List.forall_mem_cons.mpr ⟨⟨by decide, by decide, (bgT1 206 rfl rfl)⟩, List.forall_mem_cons.mpr ⟨⟨by decide, by decide, (bgT1 37 rfl rfl)⟩, List.forall_mem_cons.mpr ⟨⟨by decide, by decide, (bgT1 39 rfl rfl)⟩, List.forall_mem_cons.mpr ⟨⟨by decide, by decide, (bgT1 46 rfl rfl)⟩, List.forall_mem_cons.mpr ⟨⟨by decide, by decide, (bgT1 48 rfl rfl)⟩, List.forall_mem_cons.mpr ⟨⟨by decide, by decide, (bgT1 51 rfl rfl)⟩, List.forall_mem_cons.mpr ⟨⟨by decide, by decide, (bgT1 80 rfl rfl)⟩, List.forall_mem_cons.mpr ⟨⟨by decide, by decide, (bgT1 82 rfl rfl)⟩, List.forall_mem_cons.mpr ⟨⟨by decide, by decide, (bgT1 87 rfl rfl)⟩, List.forall_mem_cons.mpr ⟨⟨by decide, by decide, (bgT1 90 rfl rfl)⟩, List.forall_mem_cons.mpr ⟨⟨by decide, by decide, (bgT1 93 rfl rfl)⟩, List.forall_mem_cons.mpr ⟨⟨by decide, by decide, (bgT1 73 rfl rfl)⟩, List.forall_mem_cons.mpr ⟨⟨by decide, by decide, (bgT1 75 rfl rfl)⟩, List.forall_mem_cons.mpr ⟨⟨by decide, by decide, (bgT1 77 rfl rfl)⟩, List.forall_mem_cons.mpr ⟨⟨by decide, by decide, (bgT1 130 rfl rfl)⟩, List.forall_mem_cons.mpr ⟨⟨by decide, by decide, (bgT1 132 rfl rfl)⟩, List.forall_mem_cons.mpr ⟨⟨by decide, by decide, (bgT1 163 rfl rfl)⟩, List.forall_mem_cons.mpr ⟨⟨by decide, by decide, (bgT1 204 rfl rfl)⟩, fun _ h => absurd h List.not_mem_nil⟩⟩⟩⟩⟩⟩⟩⟩⟩⟩⟩⟩⟩⟩⟩⟩⟩⟩⟩⟩⟩⟩⟩⟩⟩⟩⟩⟩⟩⟩⟩⟩⟩⟩⟩⟩⟩
theorem fL7_ok : ∀ q ∈ fL7, fOK 7 q := List.forall_mem_cons.mpr ⟨⟨by decide, by decide, (bgT3 120 rfl rfl)⟩, List.forall_mem_cons.mpr ⟨⟨by decide, by decide, (bgT3 121 rfl rfl)⟩, List.forall_mem_cons.mpr ⟨⟨by decide, by decide, (bgT3 122 rfl rfl)⟩, List.forall_mem_cons.mpr ⟨⟨by decide, by decide, (bgT3 124 rfl rfl)⟩, List.forall_mem_cons.mpr ⟨⟨by decide, by decide, (bgT3 125 rfl rfl)⟩, List.forall_mem_cons.mpr ⟨⟨by decide, by decide, (bgT3 126 rfl rfl)⟩, List.forall_mem_cons.mpr ⟨⟨by decide, by decide, (bgT3 131 rfl rfl)⟩, List.forall_mem_cons.mpr ⟨⟨by decide, by decide, (bgT3 132 rfl rfl)⟩, List.forall_mem_cons.mpr ⟨⟨by decide, by decide, (bgT3 133 rfl rfl)⟩, List.forall_mem_cons.mpr ⟨⟨by decide, by decide, (bgT3 134 rfl rfl)⟩, List.forall_mem_cons.mpr ⟨⟨by decide, by decide, (bgT3 135 rfl rfl)⟩, List.forall_mem_cons.mpr ⟨⟨by decide, by decide, (bgT3 136 rfl rfl)⟩, List.forall_mem_cons.mpr ⟨⟨by decide, by decide, (bgT3 138 rfl rfl)⟩, List.forall_mem_cons.mpr ⟨⟨by decide, by decide, (bgT3 123 rfl rfl)⟩, List.forall_mem_cons.mpr ⟨⟨by decide, by decide, (bgT3 130 rfl rfl)⟩, List.forall_mem_cons.mpr ⟨⟨by decide, by decide, (bgT3 128 rfl rfl)⟩, List.forall_mem_cons.mpr ⟨⟨by decide, by decide, (bgT3 129 rfl rfl)⟩, List.forall_mem_cons.mpr ⟨⟨by decide, by decide, (bgT3 127 rfl rfl)⟩, List.forall_mem_cons.mpr ⟨⟨by decide, by decide, (bgT3 139 rfl rfl)⟩, List.forall_mem_cons.mpr ⟨⟨by decide, by decide, (bgT3 140 rfl rfl)⟩, List.forall_mem_cons.mpr ⟨⟨by decide, by decide, (bgT3 137 rfl rfl)⟩, fun _ h => absurd h List.not_mem_nil⟩⟩⟩⟩⟩⟩⟩⟩⟩⟩⟩⟩⟩⟩⟩⟩⟩⟩⟩⟩⟩
theorem fL_ok (o : Nat) : ∀ q ∈ fL o, fOK o q := by
  unfold fL
  split
  · exact fL0_ok
  · exact fL1_ok
  · exact fL2_ok
  · exact fL3_ok
  · exact fL4_ok
  · exact fL5_ok
  · exact fL6_ok
  · exact fL7_ok
  · exact fun _ h => absurd h List.not_mem_nil
theorem mL0_ok : ∀ q ∈ mL0, mOK 0 q := List.forall_mem_cons.mpr ⟨⟨ykX0_becomeFree, (bgT2 39 rfl rfl), by decide +kernel, Or.inl ⟨rfl, by decide, (bgT2 40 rfl rfl), (bgT2 41 rfl rfl)⟩⟩, fun _ h => absurd h List.not_mem_nil⟩
theorem mL1_ok : ∀ q ∈ mL1, mOK 1 q := List.forall_mem_cons.mpr ⟨⟨ykX2_init, (bgT1 160 rfl rfl), by decide +kernel, Or.inr (Or.inr ⟨by decide, by decide, rfl, rfl, (bgT1 22 rfl rfl)⟩)⟩, List.forall_mem_cons.mpr ⟨⟨ykX1_dropOldest, (bgT2 11 rfl rfl), by decide +kernel, Or.inl ⟨rfl, by decide, (bgT2 12 rfl rfl), (bgT2 13 rfl rfl)⟩⟩, List.forall_mem_cons.mpr ⟨⟨ykX2_copyFrom, (bgT2 15 rfl rfl), by decide +kernel, Or.inl ⟨rfl, by decide, (bgT2 16 rfl rfl), (bgT2 17 rfl rfl)⟩⟩, fun _ h => absurd h List.not_mem_nil⟩⟩⟩
theorem mL2_ok : ∀ q ∈ mL2, mOK 2 q := List.forall_mem_cons.mpr ⟨⟨ykX0_init, by decide +kernel, by decide +kernel, Or.inr (Or.inr ⟨by decide, by decide, rfl, rfl, (bgT1 31 rfl rfl)⟩)⟩, List.forall_mem_cons.mpr ⟨⟨ykX5_init, by decide +kernel, by decide +kernel, Or.inr (Or.inr ⟨by decide, by decide, rfl, rfl, (bgT1 69 rfl rfl)⟩)⟩, List.forall_mem_cons.mpr ⟨⟨ykX0_copyFrom, (bgT2 19 rfl rfl), by decide +kernel, Or.inl ⟨rfl, by decide, (bgT2 20 rfl rfl), (bgT2 21 rfl rfl)⟩⟩, List.forall_mem_cons.mpr ⟨⟨ykX5_copyFrom, (bgT2 23 rfl rfl), by decide +kernel, Or.inl ⟨rfl, by decide, (bgT2 24 rfl rfl), (bgT2 25 rfl rfl)⟩⟩, List.forall_mem_cons.mpr ⟨⟨ykX0_start, (bgT2 35 rfl rfl), by decide +kernel, Or.inl ⟨rfl, by decide, (bgT2 36 rfl rfl), (bgT2 37 rfl rfl)⟩⟩, List.forall_mem_cons.mpr ⟨⟨ykX0_becomeFree, (bgT2 167 rfl rfl), by decide +kernel, Or.inl ⟨rfl, by decide, (bgT2 40 rfl rfl), (bgT2 41 rfl rfl)⟩⟩, List.forall_mem_cons.mpr ⟨⟨ykX0_canTakeMore, (bgT2 168 rfl rfl), by decide +kernel, Or.inl ⟨rfl, by decide, (bgT2 169 rfl rfl), (bgT2 170 rfl rfl)⟩⟩, List.forall_mem_cons.mpr ⟨⟨ykX2_thingsIn, (bgT2 149 rfl rfl), by decide +kernel, Or.inl ⟨rfl, by decide, (bgT2 134 rfl rfl), (bgT2 135 rfl rfl)⟩⟩, List.forall_mem_cons.mpr ⟨⟨ykX2_isFor, (bgT2 176 rfl rfl), by decide +kernel, Or.inl ⟨rfl, by decide, (bgT2 177 rfl rfl), (bgT2 178 rfl rfl)⟩⟩, List.forall_mem_cons.mpr ⟨⟨ykX5_nextSkill, (bgT2 180 rfl rfl), by decide +kernel, Or.inl ⟨rfl, by decide, (bgT2 181 rfl rfl), (bgT2 182 rfl rfl)⟩⟩, List.forall_mem_cons.mpr ⟨⟨ykX5_nextPart, (bgT2 184 rfl rfl), by decide +kernel, Or.inl ⟨rfl, by decide, (bgT2 185 rfl rfl), (bgT2 186 rfl rfl)⟩⟩, List.forall_mem_cons.mpr ⟨⟨ykX2_isInStock, (bgT2 188 rfl rfl), by decide +kernel, Or.inl ⟨rfl, by decide, (bgT2 189 rfl rfl), (bgT2 190 rfl rfl)⟩⟩, List.forall_mem_cons.mpr ⟨⟨ykX2_hasThing, (bgT2 158 rfl rfl), by decide +kernel, Or.inl ⟨rfl, by decide, (bgT2 129 rfl rfl), (bgT2 130 rfl rfl)⟩⟩, List.forall_mem_cons.mpr ⟨⟨ykX5_nextWork, (bgT2 196 rfl rfl), by decide +kernel, Or.inl ⟨rfl, by decide, (bgT2 197 rfl rfl), (bgT2 198 rfl rfl)⟩⟩, List.forall_mem_cons.mpr ⟨⟨ykX5_leaveQueue, (bgT2 200 rfl rfl), by decide +kernel, Or.inl ⟨rfl, by decide, (bgT2 164 rfl rfl), (bgT2 165 rfl rfl)⟩⟩, List.forall_mem_cons.mpr ⟨⟨ykX2_isOver, (bgT2 145 rfl rfl), by decide +kernel, Or.inl ⟨rfl, by decide, (bgT2 146 rfl rfl), (bgT2 147 rfl rfl)⟩⟩, List.forall_mem_cons.mpr ⟨⟨ykX2_letOnePass, (bgT2 150 rfl rfl), by decide +kernel, Or.inl ⟨rfl, by decide, (bgT2 151 rfl rfl), (bgT2 152 rfl rfl)⟩⟩, List.forall_mem_cons.mpr ⟨⟨ykX2_work, (bgT2 154 rfl rfl), by decide +kernel, Or.inl ⟨rfl, by decide, (bgT2 155 rfl rfl), (bgT2 156 rfl rfl)⟩⟩, List.forall_mem_cons.mpr ⟨⟨ykX2_longestWaiting, (bgT2 172 rfl rfl), by decide +kernel, Or.inl ⟨rfl, by decide, (bgT2 173 rfl rfl), (bgT2 174 rfl rfl)⟩⟩, List.forall_mem_cons.mpr ⟨⟨ykX2_takeIfInStock, (bgT2 192 rfl rfl), by decide +kernel, Or.inl ⟨rfl, by decide, (bgT2 193 rfl rfl), (bgT2 194 rfl rfl)⟩⟩, List.forall_mem_cons.mpr ⟨⟨ykX2_waitOn, (bgT2 201 rfl rfl), by decide +kernel, Or.inl ⟨rfl, by decide, (bgT2 202 rfl rfl), (bgT2 203 rfl rfl)⟩⟩, List.forall_mem_cons.mpr ⟨⟨ykX5_endStep, (bgT2 159 rfl rfl), by decide +kernel, Or.inl ⟨rfl, by decide, (bgT2 160 rfl rfl), (bgT2 161 rfl rfl)⟩⟩, fun _ h => absurd h List.not_mem_nil⟩⟩⟩⟩⟩⟩⟩⟩⟩⟩⟩⟩⟩⟩⟩⟩⟩⟩⟩⟩⟩⟩
theorem mL3_ok : ∀ q ∈ mL3, mOK 3 q := List.forall_mem_cons.mpr ⟨⟨ykX5_init, by decide +kernel, by decide +kernel, Or.inr (Or.inr ⟨by decide, by decide, rfl, rfl, (bgT1 69 rfl rfl)⟩)⟩, List.forall_mem_cons.mpr ⟨⟨ykX6_isOutside, by decide +kernel, by decide +kernel, Or.inr (Or.inl ⟨by decide, (bgT2 5 rfl rfl)⟩)⟩, List.forall_mem_cons.mpr ⟨⟨ykX3_placeBehind, (bgT2 63 rfl rfl), by decide +kernel, Or.inl ⟨rfl, by decide, (bgT2 64 rfl rfl), (bgT2 65 rfl rfl)⟩⟩, List.forall_mem_cons.mpr ⟨⟨ykX3_readFirstSkill, (bgT2 68 rfl rfl), by decide +kernel, Or.inl ⟨rfl, by decide, (bgT2 69 rfl rfl), (bgT2 70 rfl rfl)⟩⟩, List.forall_mem_cons.mpr ⟨⟨ykX3_readSkill, (bgT2 80 rfl rfl), by decide +kernel, Or.inl ⟨rfl, by decide, (bgT2 81 rfl rfl), (bgT2 82 rfl rfl)⟩⟩, List.forall_mem_cons.mpr ⟨⟨ykX3_readWork, (bgT2 88 rfl rfl), by decide +kernel, Or.inl ⟨rfl, by decide, (bgT2 89 rfl rfl), (bgT2 90 rfl rfl)⟩⟩, List.forall_mem_cons.mpr ⟨⟨ykX3_readPart, (bgT2 100 rfl rfl), by decide +kernel, Or.inl ⟨rfl, by decide, (bgT2 101 rfl rfl), (bgT2 102 rfl rfl)⟩⟩, List.forall_mem_cons.mpr ⟨⟨ykX3_readWeakness, (bgT2 108 rfl rfl), by decide +kernel, Or.inl ⟨rfl, by decide, (bgT2 109 rfl rfl), (bgT2 110 rfl rfl)⟩⟩, List.forall_mem_cons.mpr ⟨⟨ykX3_placeBehindMark, (bgT2 112 rfl rfl), by decide +kernel, Or.inl ⟨rfl, by decide, (bgT2 113 rfl rfl), (bgT2 114 rfl rfl)⟩⟩, List.forall_mem_cons.mpr ⟨⟨ykX5_start, (bgT2 72 rfl rfl), by decide +kernel, Or.inl ⟨rfl, by decide, (bgT2 73 rfl rfl), (bgT2 74 rfl rfl)⟩⟩, List.forall_mem_cons.mpr ⟨⟨ykX5_addStep, (bgT2 84 rfl rfl), by decide +kernel, Or.inl ⟨rfl, by decide, (bgT2 85 rfl rfl), (bgT2 86 rfl rfl)⟩⟩, List.forall_mem_cons.mpr ⟨⟨ykX5_setLastWork, (bgT2 92 rfl rfl), by decide +kernel, Or.inl ⟨rfl, by decide, (bgT2 93 rfl rfl), (bgT2 94 rfl rfl)⟩⟩, List.forall_mem_cons.mpr ⟨⟨ykX5_setLastPart, (bgT2 104 rfl rfl), by decide +kernel, Or.inl ⟨rfl, by decide, (bgT2 105 rfl rfl), (bgT2 106 rfl rfl)⟩⟩, fun _ h => absurd h List.not_mem_nil⟩⟩⟩⟩⟩⟩⟩⟩⟩⟩⟩⟩⟩
theorem mL4_ok : ∀ q ∈ mL4, mOK 4 q := List.forall_mem_cons.mpr ⟨⟨ykX0_canTakeMore, (bgT2 217 rfl rfl), by decide +kernel, Or.inl ⟨rfl, by decide, (bgT2 169 rfl rfl), (bgT2 170 rfl rfl)⟩⟩, List.forall_mem_cons.mpr ⟨⟨ykX2_thingsFor, (bgT2 218 rfl rfl), by decide +kernel, Or.inl ⟨rfl, by decide, (bgT2 219 rfl rfl), (bgT2 220 rfl rfl)⟩⟩, List.forall_mem_cons.mpr ⟨⟨ykJ6_bitCount_0f7a4, (bgT2 227 rfl rfl), by decide +kernel, Or.inr (Or.inl ⟨by decide, (bgT2 228 rfl rfl)⟩)⟩, List.forall_mem_cons.mpr ⟨⟨ykX4_lookAt, (bgT2 213 rfl rfl), by decide +kernel, Or.inl ⟨rfl, by decide, (bgT2 214 rfl rfl), (bgT2 215 rfl rfl)⟩⟩, List.forall_mem_cons.mpr ⟨⟨ykX4_mostServed, (bgT2 223 rfl rfl), by decide +kernel, Or.inl ⟨rfl, by decide, (bgT2 224 rfl rfl), (bgT2 225 rfl rfl)⟩⟩, List.forall_mem_cons.mpr ⟨⟨ykX4_lowestFor, (bgT2 236 rfl rfl), by decide +kernel, Or.inl ⟨rfl, by decide, (bgT2 237 rfl rfl), (bgT2 238 rfl rfl)⟩⟩, fun _ h => absurd h List.not_mem_nil⟩⟩⟩⟩⟩⟩
theorem mL5_ok : ∀ q ∈ mL5, mOK 5 q := List.forall_mem_cons.mpr ⟨⟨ykX5_becomeWaiting, (bgT2 76 rfl rfl), by decide +kernel, Or.inl ⟨rfl, by decide, (bgT2 77 rfl rfl), (bgT2 78 rfl rfl)⟩⟩, List.forall_mem_cons.mpr ⟨⟨ykX5_hasStep, (bgT2 96 rfl rfl), by decide +kernel, Or.inl ⟨rfl, by decide, (bgT2 97 rfl rfl), (bgT2 98 rfl rfl)⟩⟩, List.forall_mem_cons.mpr ⟨⟨ykX5_leaveQueue, (bgT2 163 rfl rfl), by decide +kernel, Or.inl ⟨rfl, by decide, (bgT2 164 rfl rfl), (bgT2 165 rfl rfl)⟩⟩, fun _ h => absurd h List.not_mem_nil⟩⟩⟩
theorem mL6_ok : ∀ q ∈ mL6, mOK 6 q := List.forall_mem_cons.mpr ⟨⟨ykX2_init, (bgT1 21 rfl rfl), by decide +kernel, Or.inr (Or.inr ⟨by decide, by decide, rfl, rfl, (bgT1 22 rfl rfl)⟩)⟩, List.forall_mem_cons.mpr ⟨⟨ykX1_init, (bgT1 155 rfl rfl), by decide +kernel, Or.inr (Or.inr ⟨by decide, by decide, rfl, rfl, (bgT1 156 rfl rfl)⟩)⟩, List.forall_mem_cons.mpr ⟨⟨ykX3_init, (bgT1 172 rfl rfl), by decide +kernel, Or.inr (Or.inr ⟨by decide, by decide, rfl, rfl, (bgT1 173 rfl rfl)⟩)⟩, List.forall_mem_cons.mpr ⟨⟨ykX4_init, by decide +kernel, by decide +kernel, Or.inr (Or.inr ⟨by decide, by decide, rfl, rfl, (bgT1 200 rfl rfl)⟩)⟩, List.forall_mem_cons.mpr ⟨⟨ykX6_isOutside, (bgT2 4 rfl rfl), by decide +kernel, Or.inr (Or.inl ⟨by decide, (bgT2 5 rfl rfl)⟩)⟩, List.forall_mem_cons.mpr ⟨⟨ykX1_keep, (bgT2 7 rfl rfl), by decide +kernel, Or.inl ⟨rfl, by decide, (bgT2 8 rfl rfl), (bgT2 9 rfl rfl)⟩⟩, List.forall_mem_cons.mpr ⟨⟨ykX2_addFixer, (bgT2 31 rfl rfl), by decide +kernel, Or.inl ⟨rfl, by decide, (bgT2 32 rfl rfl), (bgT2 33 rfl rfl)⟩⟩, List.forall_mem_cons.mpr ⟨⟨ykX2_hasFixer, (bgT2 47 rfl rfl), by decide +kernel, Or.inl ⟨rfl, by decide, (bgT2 48 rfl rfl), (bgT2 49 rfl rfl)⟩⟩, List.forall_mem_cons.mpr ⟨⟨ykX2_fixersThere, (bgT2 51 rfl rfl), by decide +kernel, Or.inl ⟨rfl, by decide, (bgT2 52 rfl rfl), (bgT2 53 rfl rfl)⟩⟩, List.forall_mem_cons.mpr ⟨⟨ykX3_readThings, (bgT2 59 rfl rfl), by decide +kernel, Or.inl ⟨rfl, by decide, (bgT2 60 rfl rfl), (bgT2 61 rfl rfl)⟩⟩, List.forall_mem_cons.mpr ⟨⟨ykX2_addThing, (bgT2 116 rfl rfl), by decide +kernel, Or.inl ⟨rfl, by decide, (bgT2 117 rfl rfl), (bgT2 118 rfl rfl)⟩⟩, List.forall_mem_cons.mpr ⟨⟨ykX2_hasThing, (bgT2 128 rfl rfl), by decide +kernel, Or.inl ⟨rfl, by decide, (bgT2 129 rfl rfl), (bgT2 130 rfl rfl)⟩⟩, List.forall_mem_cons.mpr ⟨⟨ykX5_becomeWaiting, (bgT2 132 rfl rfl), by decide +kernel, Or.inl ⟨rfl, by decide, (bgT2 77 rfl rfl), (bgT2 78 rfl rfl)⟩⟩, List.forall_mem_cons.mpr ⟨⟨ykX2_thingsIn, (bgT2 133 rfl rfl), by decide +kernel, Or.inl ⟨rfl, by decide, (bgT2 134 rfl rfl), (bgT2 135 rfl rfl)⟩⟩, List.forall_mem_cons.mpr ⟨⟨ykX2_letPass, (bgT2 141 rfl rfl), by decide +kernel, Or.inl ⟨rfl, by decide, (bgT2 142 rfl rfl), (bgT2 143 rfl rfl)⟩⟩, List.forall_mem_cons.mpr ⟨⟨ykX4_makePlan, (bgT2 209 rfl rfl), by decide +kernel, Or.inl ⟨rfl, by decide, (bgT2 210 rfl rfl), (bgT2 211 rfl rfl)⟩⟩, List.forall_mem_cons.mpr ⟨⟨ykX2_takeIfInStock, (bgT3 0 rfl rfl), by decide +kernel, Or.inl ⟨rfl, by decide, (bgT2 193 rfl rfl), (bgT2 194 rfl rfl)⟩⟩, List.forall_mem_cons.mpr ⟨⟨ykX2_removeThings, (bgT3 5 rfl rfl), by decide +kernel, Or.inl ⟨rfl, by decide, (bgT3 6 rfl rfl), (bgT3 7 rfl rfl)⟩⟩, List.forall_mem_cons.mpr ⟨⟨ykX2_fixerOf, (bgT3 17 rfl rfl), by decide +kernel, Or.inl ⟨rfl, by decide, (bgT3 18 rfl rfl), (bgT3 19 rfl rfl)⟩⟩, List.forall_mem_cons.mpr ⟨⟨ykX5_nextSkill, (bgT3 21 rfl rfl), by decide +kernel, Or.inl ⟨rfl, by decide, (bgT2 181 rfl rfl), (bgT2 182 rfl rfl)⟩⟩, List.forall_mem_cons.mpr ⟨⟨ykX2_fixersWith, (bgT3 22 rfl rfl), by decide +kernel, Or.inl ⟨rfl, by decide, (bgT3 23 rfl rfl), (bgT3 24 rfl rfl)⟩⟩, List.forall_mem_cons.mpr ⟨⟨ykX5_hasStep, (bgT3 30 rfl rfl), by decide +kernel, Or.inl ⟨rfl, by decide, (bgT2 97 rfl rfl), (bgT2 98 rfl rfl)⟩⟩, List.forall_mem_cons.mpr ⟨⟨ykX2_freeFixers, (bgT3 35 rfl rfl), by decide +kernel, Or.inl ⟨rfl, by decide, (bgT3 36 rfl rfl), (bgT3 37 rfl rfl)⟩⟩, List.forall_mem_cons.mpr ⟨⟨ykX4_lookAt, (bgT3 47 rfl rfl), by decide +kernel, Or.inl ⟨rfl, by decide, (bgT2 214 rfl rfl), (bgT2 215 rfl rfl)⟩⟩, List.forall_mem_cons.mpr ⟨⟨ykX4_mostServed, (bgT3 49 rfl rfl), by decide +kernel, Or.inl ⟨rfl, by decide, (bgT2 224 rfl rfl), (bgT2 225 rfl rfl)⟩⟩, List.forall_mem_cons.mpr ⟨⟨ykX2_thingsFor, (bgT3 58 rfl rfl), by decide +kernel, Or.inl ⟨rfl, by decide, (bgT2 219 rfl rfl), (bgT2 220 rfl rfl)⟩⟩, List.forall_mem_cons.mpr ⟨⟨ykX4_addFixer, (bgT3 59 rfl rfl), by decide +kernel, Or.inl ⟨rfl, by decide, (bgT3 60 rfl rfl), (bgT3 61 rfl rfl)⟩⟩, List.forall_mem_cons.mpr ⟨⟨ykX2_copyFrom, (bgT3 67 rfl rfl), by decide +kernel, Or.inl ⟨rfl, by decide, (bgT2 16 rfl rfl), (bgT2 17 rfl rfl)⟩⟩, List.forall_mem_cons.mpr ⟨⟨ykX2_isOver, (bgT3 72 rfl rfl), by decide +kernel, Or.inl ⟨rfl, by decide, (bgT2 146 rfl rfl), (bgT2 147 rfl rfl)⟩⟩, List.forall_mem_cons.mpr ⟨⟨ykX2_letOnePass, (bgT3 73 rfl rfl), by decide +kernel, Or.inl ⟨rfl, by decide, (bgT2 151 rfl rfl), (bgT2 152 rfl rfl)⟩⟩, List.forall_mem_cons.mpr ⟨⟨ykX3_signsIn, (bgT3 82 rfl rfl), by decide +kernel, Or.inr (Or.inl ⟨by decide, (bgT3 83 rfl rfl)⟩)⟩, List.forall_mem_cons.mpr ⟨⟨ykX3_append, (bgT3 86 rfl rfl), by decide +kernel, Or.inl ⟨rfl, by decide, (bgT3 87 rfl rfl), (bgT3 88 rfl rfl)⟩⟩, List.forall_mem_cons.mpr ⟨⟨ykX1_takeBack, (bgT3 102 rfl rfl), by decide +kernel, Or.inl ⟨rfl, by decide, (bgT3 103 rfl rfl), (bgT3 104 rfl rfl)⟩⟩, fun _ h => absurd h List.not_mem_nil⟩⟩⟩⟩⟩⟩⟩⟩⟩⟩⟩⟩⟩⟩⟩⟩⟩⟩⟩⟩⟩⟩⟩⟩⟩⟩⟩⟩⟩⟩⟩⟩⟩
theorem mL7_ok : ∀ q ∈ mL7, mOK 7 q := List.forall_mem_cons.mpr ⟨⟨ykX7_moves, (bgT3 198 rfl rfl), by decide +kernel, Or.inr (Or.inl ⟨by decide, (bgT3 199 rfl rfl)⟩)⟩, List.forall_mem_cons.mpr ⟨⟨ykX7_within, (bgT3 191 rfl rfl), by decide +kernel, Or.inr (Or.inl ⟨by decide, (bgT3 192 rfl rfl)⟩)⟩, List.forall_mem_cons.mpr ⟨⟨ykX7_ofThing, (bgT4 37 rfl rfl), by decide +kernel, Or.inl ⟨rfl, by decide, (bgT4 39 rfl rfl), (bgS (q := (yX7_ofThing, 21)) 15 rfl)⟩⟩, List.forall_mem_cons.mpr ⟨⟨ykX7_isTested, (bgT4 69 rfl rfl), by decide +kernel, Or.inl ⟨rfl, by decide, (bgT4 71 rfl rfl), (bgS (q := (yX7_isTested, 21)) 22 rfl)⟩⟩, List.forall_mem_cons.mpr ⟨⟨ykX7_ofFixer, (bgT3 217 rfl rfl), by decide +kernel, Or.inl ⟨rfl, by decide, (bgT3 219 rfl rfl), (bgS (q := (yX7_ofFixer, 21)) 3 rfl)⟩⟩, List.forall_mem_cons.mpr ⟨⟨ykX7_nextStep, (bgT4 97 rfl rfl), by decide +kernel, Or.inl ⟨rfl, by decide, (bgT4 99 rfl rfl), (bgS (q := (yX7_nextStep, 21)) 29 rfl)⟩⟩, List.forall_mem_cons.mpr ⟨⟨ykX7_isInStock, (bgT4 101 rfl rfl), by decide +kernel, Or.inl ⟨rfl, by decide, (bgT4 103 rfl rfl), (bgS (q := (yX7_isInStock, 21)) 30 rfl)⟩⟩, List.forall_mem_cons.mpr ⟨⟨ykX7_isFree, (bgT4 81 rfl rfl), by decide +kernel, Or.inl ⟨rfl, by decide, (bgT4 83 rfl rfl), (bgS (q := (yX7_isFree, 21)) 25 rfl)⟩⟩, List.forall_mem_cons.mpr ⟨⟨ykX7_waitsWithPart, (bgT4 93 rfl rfl), by decide +kernel, Or.inl ⟨rfl, by decide, (bgT4 95 rfl rfl), (bgS (q := (yX7_waitsWithPart, 21)) 28 rfl)⟩⟩, List.forall_mem_cons.mpr ⟨⟨ykX7_has, (bgT4 105 rfl rfl), by decide +kernel, Or.inl ⟨rfl, by decide, (bgT4 107 rfl rfl), (bgS (q := (yX7_has, 21)) 31 rfl)⟩⟩, List.forall_mem_cons.mpr ⟨⟨ykX7_setThing, (bgT4 21 rfl rfl), by decide +kernel, Or.inl ⟨rfl, by decide, (bgT4 23 rfl rfl), (bgS (q := (yX7_setThing, 21)) 13 rfl)⟩⟩, List.forall_mem_cons.mpr ⟨⟨ykX7_setFixer, (bgT3 205 rfl rfl), by decide +kernel, Or.inl ⟨rfl, by decide, (bgT3 207 rfl rfl), (bgS (q := (yX7_setFixer, 21)) 1 rfl)⟩⟩, List.forall_mem_cons.mpr ⟨⟨ykX7_waitsAnew, (bgT4 41 rfl rfl), by decide +kernel, Or.inl ⟨rfl, by decide, (bgT4 43 rfl rfl), (bgS (q := (yX7_waitsAnew, 21)) 16 rfl)⟩⟩, List.forall_mem_cons.mpr ⟨⟨ykX7_endsTest, (bgT4 73 rfl rfl), by decide +kernel, Or.inl ⟨rfl, by decide, (bgT4 75 rfl rfl), (bgS (q := (yX7_endsTest, 21)) 23 rfl)⟩⟩, List.forall_mem_cons.mpr ⟨⟨ykX7_endsStep, (bgT4 65 rfl rfl), by decide +kernel, Or.inl ⟨rfl, by decide, (bgT4 67 rfl rfl), (bgS (q := (yX7_endsStep, 21)) 21 rfl)⟩⟩, List.forall_mem_cons.mpr ⟨⟨ykX7_canTake, (bgT4 89 rfl rfl), by decide +kernel, Or.inl ⟨rfl, by decide, (bgT4 91 rfl rfl), (bgS (q := (yX7_canTake, 21)) 27 rfl)⟩⟩, List.forall_mem_cons.mpr ⟨⟨ykX7_longestFor, (bgT4 85 rfl rfl), by decide +kernel, Or.inl ⟨rfl, by decide, (bgT4 87 rfl rfl), (bgS (q := (yX7_longestFor, 21)) 26 rfl)⟩⟩, List.forall_mem_cons.mpr ⟨⟨ykX7_takes, (bgT4 109 rfl rfl), by decide +kernel, Or.inl ⟨rfl, by decide, (bgT4 111 rfl rfl), (bgS (q := (yX7_takes, 21)) 32 rfl)⟩⟩, List.forall_mem_cons.mpr ⟨⟨ykX7_works, (bgT4 61 rfl rfl), by decide +kernel, Or.inl ⟨rfl, by decide, (bgT4 63 rfl rfl), (bgS (q := (yX7_works, 21)) 20 rfl)⟩⟩, List.forall_mem_cons.mpr ⟨⟨ykX7_takeAll, (bgT4 77 rfl rfl), by decide +kernel, Or.inl ⟨rfl, by decide, (bgT4 79 rfl rfl), (bgS (q := (yX7_takeAll, 21)) 24 rfl)⟩⟩, List.forall_mem_cons.mpr ⟨⟨ykX7_waitOn, (bgT4 113 rfl rfl), by decide +kernel, Or.inl ⟨rfl, by decide, (bgT4 115 rfl rfl), (bgS (q := (yX7_waitOn, 21)) 33 rfl)⟩⟩, List.forall_mem_cons.mpr ⟨⟨ykX7_slot, (bgT4 57 rfl rfl), by decide +kernel, Or.inl ⟨rfl, by decide, (bgT4 59 rfl rfl), (bgS (q := (yX7_slot, 21)) 19 rfl)⟩⟩, List.forall_mem_cons.mpr ⟨⟨ykX7_finds, (bgT4 134 rfl rfl), by decide +kernel, Or.inl ⟨rfl, by decide, (bgT4 136 rfl rfl), (bgS (q := (yX7_finds, 21)) 37 rfl)⟩⟩, List.forall_mem_cons.mpr ⟨⟨ykX7_most, (bgT4 130 rfl rfl), by decide +kernel, Or.inl ⟨rfl, by decide, (bgT4 132 rfl rfl), (bgS (q := (yX7_most, 21)) 36 rfl)⟩⟩, List.forall_mem_cons.mpr ⟨⟨ykX7_findAble, (bgT4 125 rfl rfl), by decide +kernel, Or.inl ⟨rfl, by decide, (bgT4 127 rfl rfl), (bgS (q := (yX7_findAble, 21)) 35 rfl)⟩⟩, List.forall_mem_cons.mpr ⟨⟨ykX7_lowestFor, (bgT4 138 rfl rfl), by decide +kernel, Or.inl ⟨rfl, by decide, (bgT4 140 rfl rfl), (bgS (q := (yX7_lowestFor, 21)) 38 rfl)⟩⟩, List.forall_mem_cons.mpr ⟨⟨ykX7_isValue, (bgT3 188 rfl rfl), by decide +kernel, Or.inr (Or.inl ⟨by decide, (bgT3 189 rfl rfl)⟩)⟩, List.forall_mem_cons.mpr ⟨⟨ykX7_record, (bgT3 194 rfl rfl), by decide +kernel, Or.inl ⟨rfl, by decide, (bgT3 196 rfl rfl), (bgS (q := (yX7_record, 21)) 0 rfl)⟩⟩, List.forall_mem_cons.mpr ⟨⟨ykX7_isFixer, (bgT3 213 rfl rfl), by decide +kernel, Or.inl ⟨rfl, by decide, (bgT3 215 rfl rfl), (bgS (q := (yX7_isFixer, 21)) 2 rfl)⟩⟩, List.forall_mem_cons.mpr ⟨⟨ykX7_those, (bgT3 221 rfl rfl), by decide +kernel, Or.inl ⟨rfl, by decide, (bgT3 223 rfl rfl), (bgS (q := (yX7_those, 21)) 4 rfl)⟩⟩, List.forall_mem_cons.mpr ⟨⟨ykX7_findFault, (bgT3 229 rfl rfl), by decide +kernel, Or.inl ⟨rfl, by decide, (bgT3 231 rfl rfl), (bgS (q := (yX7_findFault, 21)) 5 rfl)⟩⟩, List.forall_mem_cons.mpr ⟨⟨ykX7_toldMany, (bgT4 13 rfl rfl), by decide +kernel, Or.inl ⟨rfl, by decide, (bgT4 15 rfl rfl), (bgS (q := (yX7_toldMany, 21)) 11 rfl)⟩⟩, List.forall_mem_cons.mpr ⟨⟨ykX7_readsThing, (bgT3 233 rfl rfl), by decide +kernel, Or.inl ⟨rfl, by decide, (bgT3 235 rfl rfl), (bgS (q := (yX7_readsThing, 21)) 6 rfl)⟩⟩, List.forall_mem_cons.mpr ⟨⟨ykX7_isNext, (bgT4 9 rfl rfl), by decide +kernel, Or.inl ⟨rfl, by decide, (bgT4 11 rfl rfl), (bgS (q := (yX7_isNext, 21)) 10 rfl)⟩⟩, List.forall_mem_cons.mpr ⟨⟨ykX7_comes, (bgT4 17 rfl rfl), by decide +kernel, Or.inl ⟨rfl, by decide, (bgT4 19 rfl rfl), (bgS (q := (yX7_comes, 21)) 12 rfl)⟩⟩, List.forall_mem_cons.mpr ⟨⟨ykX7_isThing, (bgT4 33 rfl rfl), by decide +kernel, Or.inl ⟨rfl, by decide, (bgT4 35 rfl rfl), (bgS (q := (yX7_isThing, 21)) 14 rfl)⟩⟩, List.forall_mem_cons.mpr ⟨⟨ykX7_inState, (bgT4 45 rfl rfl), by decide +kernel, Or.inl ⟨rfl, by decide, (bgT4 47 rfl rfl), (bgS (q := (yX7_inState, 21)) 17 rfl)⟩⟩, List.forall_mem_cons.mpr ⟨⟨ykX7_passes, (bgT4 53 rfl rfl), by decide +kernel, Or.inl ⟨rfl, by decide, (bgT4 55 rfl rfl), (bgS (q := (yX7_passes, 21)) 18 rfl)⟩⟩, List.forall_mem_cons.mpr ⟨⟨ykX7_findPlan, (bgT4 121 rfl rfl), by decide +kernel, Or.inl ⟨rfl, by decide, (bgT4 123 rfl rfl), (bgS (q := (yX7_findPlan, 21)) 34 rfl)⟩⟩, List.forall_mem_cons.mpr ⟨⟨ykX7_doer, (bgT4 154 rfl rfl), by decide +kernel, Or.inl ⟨rfl, by decide, (bgT4 156 rfl rfl), (bgS (q := (yX7_doer, 21)) 39 rfl)⟩⟩, List.forall_mem_cons.mpr ⟨⟨ykX7_skilled, (bgT4 158 rfl rfl), by decide +kernel, Or.inl ⟨rfl, by decide, (bgT4 160 rfl rfl), (bgS (q := (yX7_skilled, 21)) 40 rfl)⟩⟩, List.forall_mem_cons.mpr ⟨⟨ykX7_freeMany, (bgT4 170 rfl rfl), by decide +kernel, Or.inl ⟨rfl, by decide, (bgT4 172 rfl rfl), (bgS (q := (yX7_freeMany, 21)) 41 rfl)⟩⟩, List.forall_mem_cons.mpr ⟨⟨ykX7_findMore, (bgT4 190 rfl rfl), by decide +kernel, Or.inl ⟨rfl, by decide, (bgT4 192 rfl rfl), (bgS (q := (yX7_findMore, 21)) 42 rfl)⟩⟩, List.forall_mem_cons.mpr ⟨⟨ykX7_isOver, (bgT4 202 rfl rfl), by decide +kernel, Or.inl ⟨rfl, by decide, (bgT4 204 rfl rfl), (bgS (q := (yX7_isOver, 21)) 43 rfl)⟩⟩, List.forall_mem_cons.mpr ⟨⟨ykX7_character, (bgT4 5 rfl rfl), by decide +kernel, Or.inl ⟨rfl, by decide, (bgT4 7 rfl rfl), (bgS (q := (yX7_character, 21)) 9 rfl)⟩⟩, List.forall_mem_cons.mpr ⟨⟨ykX7_takeDigit, (bgT4 1 rfl rfl), by decide +kernel, Or.inl ⟨rfl, by decide, (bgT4 3 rfl rfl), (bgS (q := (yX7_takeDigit, 21)) 8 rfl)⟩⟩, List.forall_mem_cons.mpr ⟨⟨ykX7_readsStep, (bgT3 237 rfl rfl), by decide +kernel, Or.inl ⟨rfl, by decide, (bgT3 239 rfl rfl), (bgS (q := (yX7_readsStep, 21)) 7 rfl)⟩⟩, fun _ h => absurd h List.not_mem_nil⟩⟩⟩⟩⟩⟩⟩⟩⟩⟩⟩⟩⟩⟩⟩⟩⟩⟩⟩⟩⟩⟩⟩⟩⟩⟩⟩⟩⟩⟩⟩⟩⟩⟩⟩⟩⟩⟩⟩⟩⟩⟩⟩⟩⟩⟩⟩
theorem mL8_ok : ∀ q ∈ mL8, mOK 8 q := List.forall_mem_cons.mpr ⟨⟨ykX6_init, (bgT1 13 rfl rfl), by decide +kernel, Or.inr (Or.inr ⟨by decide, by decide, rfl, rfl, (bgT1 14 rfl rfl)⟩)⟩, List.forall_mem_cons.mpr ⟨⟨ykX7_init, (bgT3 116 rfl rfl), by decide +kernel, Or.inr (Or.inr ⟨by decide, by decide, rfl, rfl, (bgT3 117 rfl rfl)⟩)⟩, List.forall_mem_cons.mpr ⟨⟨ykX6_set, (bgT2 0 rfl rfl), by decide +kernel, Or.inl ⟨rfl, by decide, (bgT2 1 rfl rfl), (bgT2 2 rfl rfl)⟩⟩, List.forall_mem_cons.mpr ⟨⟨ykX7_set, (bgT3 184 rfl rfl), by decide +kernel, Or.inl ⟨rfl, by decide, (bgT3 185 rfl rfl), (bgT3 186 rfl rfl)⟩⟩, List.forall_mem_cons.mpr ⟨⟨ykX6_come, (bgT2 27 rfl rfl), by decide +kernel, Or.inl ⟨rfl, by decide, (bgT2 28 rfl rfl), (bgT2 29 rfl rfl)⟩⟩, List.forall_mem_cons.mpr ⟨⟨ykX7_come, (bgT3 201 rfl rfl), by decide +kernel, Or.inl ⟨rfl, by decide, (bgT3 202 rfl rfl), (bgT3 203 rfl rfl)⟩⟩, List.forall_mem_cons.mpr ⟨⟨ykX6_away, (bgT2 43 rfl rfl), by decide +kernel, Or.inl ⟨rfl, by decide, (bgT2 44 rfl rfl), (bgT2 45 rfl rfl)⟩⟩, List.forall_mem_cons.mpr ⟨⟨ykX7_away, (bgT3 209 rfl rfl), by decide +kernel, Or.inl ⟨rfl, by decide, (bgT3 210 rfl rfl), (bgT3 211 rfl rfl)⟩⟩, List.forall_mem_cons.mpr ⟨⟨ykX6_bring, (bgT2 55 rfl rfl), by decide +kernel, Or.inl ⟨rfl, by decide, (bgT2 56 rfl rfl), (bgT2 57 rfl rfl)⟩⟩, List.forall_mem_cons.mpr ⟨⟨ykX7_bring, (bgT3 225 rfl rfl), by decide +kernel, Or.inl ⟨rfl, by decide, (bgT3 226 rfl rfl), (bgT3 227 rfl rfl)⟩⟩, List.forall_mem_cons.mpr ⟨⟨ykX6_stock, (bgT2 120 rfl rfl), by decide +kernel, Or.inl ⟨rfl, by decide, (bgT2 121 rfl rfl), (bgT2 122 rfl rfl)⟩⟩, List.forall_mem_cons.mpr ⟨⟨ykX7_stock, (bgT4 25 rfl rfl), by decide +kernel, Or.inl ⟨rfl, by decide, (bgT4 26 rfl rfl), (bgT4 27 rfl rfl)⟩⟩, List.forall_mem_cons.mpr ⟨⟨ykX6_again, (bgT2 124 rfl rfl), by decide +kernel, Or.inl ⟨rfl, by decide, (bgT2 125 rfl rfl), (bgT2 126 rfl rfl)⟩⟩, List.forall_mem_cons.mpr ⟨⟨ykX7_again, (bgT4 29 rfl rfl), by decide +kernel, Or.inl ⟨rfl, by decide, (bgT4 30 rfl rfl), (bgT4 31 rfl rfl)⟩⟩, List.forall_mem_cons.mpr ⟨⟨ykX6_pass, (bgT2 137 rfl rfl), by decide +kernel, Or.inl ⟨rfl, by decide, (bgT2 138 rfl rfl), (bgT2 139 rfl rfl)⟩⟩, List.forall_mem_cons.mpr ⟨⟨ykX7_pass, (bgT4 49 rfl rfl), by decide +kernel, Or.inl ⟨rfl, by decide, (bgT4 50 rfl rfl), (bgT4 51 rfl rfl)⟩⟩, List.forall_mem_cons.mpr ⟨⟨ykX6_giveOut, (bgT2 205 rfl rfl), by decide +kernel, Or.inl ⟨rfl, by decide, (bgT2 206 rfl rfl), (bgT2 207 rfl rfl)⟩⟩, List.forall_mem_cons.mpr ⟨⟨ykX7_giveOut, (bgT4 117 rfl rfl), by decide +kernel, Or.inl ⟨rfl, by decide, (bgT4 118 rfl rfl), (bgT4 119 rfl rfl)⟩⟩, List.forall_mem_cons.mpr ⟨⟨ykX6_clear, (bgT3 1 rfl rfl), by decide +kernel, Or.inl ⟨rfl, by decide, (bgT3 2 rfl rfl), (bgT3 3 rfl rfl)⟩⟩, List.forall_mem_cons.mpr ⟨⟨ykX7_clear, (bgT4 142 rfl rfl), by decide +kernel, Or.inl ⟨rfl, by decide, (bgT4 143 rfl rfl), (bgT4 144 rfl rfl)⟩⟩, List.forall_mem_cons.mpr ⟨⟨ykX6_fixer, (bgT3 9 rfl rfl), by decide +kernel, Or.inl ⟨rfl, by decide, (bgT3 10 rfl rfl), (bgT3 11 rfl rfl)⟩⟩, List.forall_mem_cons.mpr ⟨⟨ykX7_fixer, (bgT4 146 rfl rfl), by decide +kernel, Or.inl ⟨rfl, by decide, (bgT4 147 rfl rfl), (bgT4 148 rfl rfl)⟩⟩, List.forall_mem_cons.mpr ⟨⟨ykX6_thing, (bgT3 13 rfl rfl), by decide +kernel, Or.inl ⟨rfl, by decide, (bgT3 14 rfl rfl), (bgT3 15 rfl rfl)⟩⟩, List.forall_mem_cons.mpr ⟨⟨ykX7_thing, (bgT4 150 rfl rfl), by decide +kernel, Or.inl ⟨rfl, by decide, (bgT4 151 rfl rfl), (bgT4 152 rfl rfl)⟩⟩, List.forall_mem_cons.mpr ⟨⟨ykX6_step, (bgT3 26 rfl rfl), by decide +kernel, Or.inl ⟨rfl, by decide, (bgT3 27 rfl rfl), (bgT3 28 rfl rfl)⟩⟩, List.forall_mem_cons.mpr ⟨⟨ykX7_step, (bgT4 162 rfl rfl), by decide +kernel, Or.inl ⟨rfl, by decide, (bgT4 163 rfl rfl), (bgT4 164 rfl rfl)⟩⟩, List.forall_mem_cons.mpr ⟨⟨ykX6_count, (bgT3 31 rfl rfl), by decide +kernel, Or.inl ⟨rfl, by decide, (bgT3 32 rfl rfl), (bgT3 33 rfl rfl)⟩⟩, List.forall_mem_cons.mpr ⟨⟨ykX7_count, (bgT4 166 rfl rfl), by decide +kernel, Or.inl ⟨rfl, by decide, (bgT4 167 rfl rfl), (bgT4 168 rfl rfl)⟩⟩, List.forall_mem_cons.mpr ⟨⟨ykX6_plan, (bgT3 39 rfl rfl), by decide +kernel, Or.inl ⟨rfl, by decide, (bgT3 40 rfl rfl), (bgT3 41 rfl rfl)⟩⟩, List.forall_mem_cons.mpr ⟨⟨ykX7_plan, (bgT4 174 rfl rfl), by decide +kernel, Or.inl ⟨rfl, by decide, (bgT4 175 rfl rfl), (bgT4 176 rfl rfl)⟩⟩, List.forall_mem_cons.mpr ⟨⟨ykX6_planned, (bgT3 43 rfl rfl), by decide +kernel, Or.inl ⟨rfl, by decide, (bgT3 44 rfl rfl), (bgT3 45 rfl rfl)⟩⟩, List.forall_mem_cons.mpr ⟨⟨ykX7_planned, (bgT4 178 rfl rfl), by decide +kernel, Or.inl ⟨rfl, by decide, (bgT4 179 rfl rfl), (bgT4 180 rfl rfl)⟩⟩, List.forall_mem_cons.mpr ⟨⟨ykX6_ifAway, (bgT3 50 rfl rfl), by decide +kernel, Or.inl ⟨rfl, by decide, (bgT3 51 rfl rfl), (bgT3 52 rfl rfl)⟩⟩, List.forall_mem_cons.mpr ⟨⟨ykX7_ifAway, (bgT4 182 rfl rfl), by decide +kernel, Or.inl ⟨rfl, by decide, (bgT4 183 rfl rfl), (bgT4 184 rfl rfl)⟩⟩, List.forall_mem_cons.mpr ⟨⟨ykX6_bestSkill, (bgT3 54 rfl rfl), by decide +kernel, Or.inl ⟨rfl, by decide, (bgT3 55 rfl rfl), (bgT3 56 rfl rfl)⟩⟩, List.forall_mem_cons.mpr ⟨⟨ykX7_bestSkill, (bgT4 186 rfl rfl), by decide +kernel, Or.inl ⟨rfl, by decide, (bgT4 187 rfl rfl), (bgT4 188 rfl rfl)⟩⟩, List.forall_mem_cons.mpr ⟨⟨ykX6_ifPassed, (bgT3 63 rfl rfl), by decide +kernel, Or.inl ⟨rfl, by decide, (bgT3 64 rfl rfl), (bgT3 65 rfl rfl)⟩⟩, List.forall_mem_cons.mpr ⟨⟨ykX7_ifPassed, (bgT4 194 rfl rfl), by decide +kernel, Or.inl ⟨rfl, by decide, (bgT4 195 rfl rfl), (bgT4 196 rfl rfl)⟩⟩, List.forall_mem_cons.mpr ⟨⟨ykX6_untilOver, (bgT3 68 rfl rfl), by decide +kernel, Or.inl ⟨rfl, by decide, (bgT3 69 rfl rfl), (bgT3 70 rfl rfl)⟩⟩, List.forall_mem_cons.mpr ⟨⟨ykX7_untilOver, (bgT4 198 rfl rfl), by decide +kernel, Or.inl ⟨rfl, by decide, (bgT4 199 rfl rfl), (bgT4 200 rfl rfl)⟩⟩, List.forall_mem_cons.mpr ⟨⟨ykX6_bestPart, (bgT3 74 rfl rfl), by decide +kernel, Or.inl ⟨rfl, by decide, (bgT3 75 rfl rfl), (bgT3 76 rfl rfl)⟩⟩, List.forall_mem_cons.mpr ⟨⟨ykX7_bestPart, (bgT4 206 rfl rfl), by decide +kernel, Or.inl ⟨rfl, by decide, (bgT4 207 rfl rfl), (bgT4 208 rfl rfl)⟩⟩, List.forall_mem_cons.mpr ⟨⟨ykX6_put, (bgT3 78 rfl rfl), by decide +kernel, Or.inl ⟨rfl, by decide, (bgT3 79 rfl rfl), (bgT3 80 rfl rfl)⟩⟩, List.forall_mem_cons.mpr ⟨⟨ykX7_put, (bgT4 210 rfl rfl), by decide +kernel, Or.inl ⟨rfl, by decide, (bgT4 211 rfl rfl), (bgT4 212 rfl rfl)⟩⟩, List.forall_mem_cons.mpr ⟨⟨ykX6_wipe, (bgT3 90 rfl rfl), by decide +kernel, Or.inl ⟨rfl, by decide, (bgT3 91 rfl rfl), (bgT3 92 rfl rfl)⟩⟩, List.forall_mem_cons.mpr ⟨⟨ykX7_wipe, (bgT4 215 rfl rfl), by decide +kernel, Or.inl ⟨rfl, by decide, (bgT4 216 rfl rfl), (bgT4 217 rfl rfl)⟩⟩, List.forall_mem_cons.mpr ⟨⟨ykX6_fault, (bgT3 94 rfl rfl), by decide +kernel, Or.inl ⟨rfl, by decide, (bgT3 95 rfl rfl), (bgT3 96 rfl rfl)⟩⟩, List.forall_mem_cons.mpr ⟨⟨ykX7_fault, (bgT4 219 rfl rfl), by decide +kernel, Or.inl ⟨rfl, by decide, (bgT4 220 rfl rfl), (bgT4 221 rfl rfl)⟩⟩, List.forall_mem_cons.mpr ⟨⟨ykX6_undo, (bgT3 98 rfl rfl), by decide +kernel, Or.inl ⟨rfl, by decide, (bgT3 99 rfl rfl), (bgT3 100 rfl rfl)⟩⟩, List.forall_mem_cons.mpr ⟨⟨ykX7_undo, (bgT4 223 rfl rfl), by decide +kernel, Or.inl ⟨rfl, by decide, (bgT4 224 rfl rfl), (bgT4 225 rfl rfl)⟩⟩, List.forall_mem_cons.mpr ⟨⟨ykX6_save, (bgT3 106 rfl rfl), by decide +kernel, Or.inl ⟨rfl, by decide, (bgT3 107 rfl rfl), (bgT3 108 rfl rfl)⟩⟩, List.forall_mem_cons.mpr ⟨⟨ykX7_save, (bgT4 227 rfl rfl), by decide +kernel, Or.inl ⟨rfl, by decide, (bgT4 228 rfl rfl), (bgT4 229 rfl rfl)⟩⟩, List.forall_mem_cons.mpr ⟨⟨ykX6_restore, (bgT3 110 rfl rfl), by decide +kernel, Or.inl ⟨rfl, by decide, (bgT3 111 rfl rfl), (bgT3 112 rfl rfl)⟩⟩, List.forall_mem_cons.mpr ⟨⟨ykX7_restore, (bgT4 231 rfl rfl), by decide +kernel, Or.inl ⟨rfl, by decide, (bgT4 232 rfl rfl), (bgT4 233 rfl rfl)⟩⟩, fun _ h => absurd h List.not_mem_nil⟩⟩⟩⟩⟩⟩⟩⟩⟩⟩⟩⟩⟩⟩⟩⟩⟩⟩⟩⟩⟩⟩⟩⟩⟩⟩⟩⟩⟩⟩⟩⟩⟩⟩⟩⟩⟩⟩⟩⟩⟩⟩⟩⟩⟩⟩⟩⟩⟩⟩⟩⟩⟩⟩
theorem mL_ok (o : Nat) : ∀ q ∈ mL o, mOK o q := by
  unfold mL
  split
  · exact mL0_ok
  · exact mL1_ok
  · exact mL2_ok
  · exact mL3_ok
  · exact mL4_ok
  · exact mL5_ok
  · exact mL6_ok
  · exact mL7_ok
  · exact mL8_ok
  · exact fun _ h => absurd h List.not_mem_nil
theorem oL0_ok : ∀ q ∈ oL0, oOK 0 q := List.forall_mem_cons.mpr ⟨(bgT1 33 rfl rfl), fun _ h => absurd h List.not_mem_nil⟩
theorem oL1_ok : ∀ q ∈ oL1, oOK 1 q := List.forall_mem_cons.mpr ⟨(bgT1 158 rfl rfl), fun _ h => absurd h List.not_mem_nil⟩
theorem oL2_ok : ∀ q ∈ oL2, oOK 2 q := List.forall_mem_cons.mpr ⟨(bgT1 24 rfl rfl), fun _ h => absurd h List.not_mem_nil⟩
theorem oL3_ok : ∀ q ∈ oL3, oOK 3 q := List.forall_mem_cons.mpr ⟨(bgT1 175 rfl rfl), fun _ h => absurd h List.not_mem_nil⟩
theorem oL4_ok : ∀ q ∈ oL4, oOK 4 q := List.forall_mem_cons.mpr ⟨(bgT1 202 rfl rfl), fun _ h => absurd h List.not_mem_nil⟩
theorem oL5_ok : ∀ q ∈ oL5, oOK 5 q := List.forall_mem_cons.mpr ⟨(bgT1 71 rfl rfl), fun _ h => absurd h List.not_mem_nil⟩
theorem oL6_ok : ∀ q ∈ oL6, oOK 6 q := List.forall_mem_cons.mpr ⟨(bgT1 16 rfl rfl), fun _ h => absurd h List.not_mem_nil⟩
theorem oL7_ok : ∀ q ∈ oL7, oOK 7 q := List.forall_mem_cons.mpr ⟨(bgT3 119 rfl rfl), fun _ h => absurd h List.not_mem_nil⟩
theorem oL_ok (o : Nat) : ∀ q ∈ oL o, oOK o q := by
  unfold oL
  split
  · exact oL0_ok
  · exact oL1_ok
  · exact oL2_ok
  · exact oL3_ok
  · exact oL4_ok
  · exact oL5_ok
  · exact oL6_ok
  · exact oL7_ok
  · exact fun _ h => absurd h List.not_mem_nil
theorem pL4_ok : ∀ q ∈ pL4, pOK 4 q := List.forall_mem_cons.mpr ⟨(bgT2 233 rfl rfl), fun _ h => absurd h List.not_mem_nil⟩
theorem pL_ok (o : Nat) : ∀ q ∈ pL o, pOK o q := by
  unfold pL
  split
  · exact pL4_ok
  · exact fun _ h => absurd h List.not_mem_nil
theorem kL1_ok : ∀ q ∈ kL1, kOK 1 q := List.forall_mem_cons.mpr ⟨⟨by decide, (bgT1 159 rfl rfl)⟩, fun _ h => absurd h List.not_mem_nil⟩
theorem kL2_ok : ∀ q ∈ kL2, kOK 2 q := List.forall_mem_cons.mpr ⟨⟨by decide, (bgT1 25 rfl rfl)⟩, List.forall_mem_cons.mpr ⟨⟨by decide, (bgT1 27 rfl rfl)⟩, fun _ h => absurd h List.not_mem_nil⟩⟩
theorem kL3_ok : ∀ q ∈ kL3, kOK 3 q := List.forall_mem_cons.mpr ⟨⟨by decide, (bgT1 176 rfl rfl)⟩, fun _ h => absurd h List.not_mem_nil⟩
theorem kL6_ok : ∀ q ∈ kL6, kOK 6 q := List.forall_mem_cons.mpr ⟨⟨by decide, (bgT1 19 rfl rfl)⟩, List.forall_mem_cons.mpr ⟨⟨by decide, (bgT1 153 rfl rfl)⟩, List.forall_mem_cons.mpr ⟨⟨by decide, (bgT1 170 rfl rfl)⟩, List.forall_mem_cons.mpr ⟨⟨by decide, (bgT1 197 rfl rfl)⟩, fun _ h => absurd h List.not_mem_nil⟩⟩⟩⟩
theorem kL8_ok : ∀ q ∈ kL8, kOK 8 q := List.forall_mem_cons.mpr ⟨⟨by decide, (bgT1 11 rfl rfl)⟩, List.forall_mem_cons.mpr ⟨⟨by decide, (bgT3 114 rfl rfl)⟩, fun _ h => absurd h List.not_mem_nil⟩⟩
theorem kL_ok (o : Nat) : ∀ q ∈ kL o, kOK o q := by
  unfold kL
  split
  · exact kL1_ok
  · exact kL2_ok
  · exact kL3_ok
  · exact kL6_ok
  · exact kL8_ok
  · exact fun _ h => absurd h List.not_mem_nil
theorem cL4_ok : ∀ q ∈ cL4, cOK 4 q := List.forall_mem_cons.mpr ⟨(bgT2 222 rfl rfl), fun _ h => absurd h List.not_mem_nil⟩
theorem cL6_ok : ∀ q ∈ cL6, cOK 6 q := List.forall_mem_cons.mpr ⟨(bgT3 48 rfl rfl), fun _ h => absurd h List.not_mem_nil⟩
theorem cL7_ok : ∀ q ∈ cL7, cOK 7 q := List.forall_mem_cons.mpr ⟨(bgT4 129 rfl rfl), fun _ h => absurd h List.not_mem_nil⟩
theorem cL9_ok : ∀ q ∈ cL9, cOK 9 q := List.forall_mem_cons.mpr ⟨(bgT2 230 rfl rfl), List.forall_mem_cons.mpr ⟨(bgT2 231 rfl rfl), List.forall_mem_cons.mpr ⟨(bgT2 232 rfl rfl), fun _ h => absurd h List.not_mem_nil⟩⟩⟩
theorem cL_ok (o : Nat) : ∀ q ∈ cL o, cOK o q := by
  unfold cL
  split
  · exact cL4_ok
  · exact cL6_ok
  · exact cL7_ok
  · exact cL9_ok
  · exact fun _ h => absurd h List.not_mem_nil
theorem lL3_ok : ∀ q ∈ lL3, lOK 3 q := List.forall_mem_cons.mpr ⟨(bgT3 85 rfl rfl), fun _ h => absurd h List.not_mem_nil⟩
theorem lL7_ok : ∀ q ∈ lL7, lOK 7 q := List.forall_mem_cons.mpr ⟨(bgT4 214 rfl rfl), fun _ h => absurd h List.not_mem_nil⟩
theorem lL8_ok : ∀ q ∈ lL8, lOK 8 q := List.forall_mem_cons.mpr ⟨(bgT4 235 rfl rfl), fun _ h => absurd h List.not_mem_nil⟩
theorem lL_ok (o : Nat) : ∀ q ∈ lL o, lOK o q := by
  unfold lL
  split
  · exact lL3_ok
  · exact lL7_ok
  · exact lL8_ok
  · exact fun _ h => absurd h List.not_mem_nil
theorem uin0_0 : u_lay RX0 TX0 0 ∈ BG := (bgT1 53 rfl rfl)
theorem uin0_1 : u_lay RX0 TX0 1 ∈ BG := (bgT1 55 rfl rfl)
theorem uin0_2 : u_lay RX0 TX0 2 ∈ BG := (bgT1 57 rfl rfl)
theorem uin0_3 : u_lay RX0 TX0 3 ∈ BG := (bgT1 59 rfl rfl)
theorem uin0_4 : u_lay RX0 TX0 4 ∈ BG := (bgT1 61 rfl rfl)
theorem uin0_5 : u_lay RX0 TX0 5 ∈ BG := (bgT1 63 rfl rfl)
theorem uin0 : ∀ w ∈ u_ws RX0 TX0 6, w ∈ BG := by
  intro w h
  obtain ⟨j, hj, rfl⟩ := List.mem_map.mp h
  have hj := List.mem_range.mp hj
  match j, hj with
  | 0, _ => exact uin0_0
  | 1, _ => exact uin0_1
  | 2, _ => exact uin0_2
  | 3, _ => exact uin0_3
  | 4, _ => exact uin0_4
  | 5, _ => exact uin0_5
  | _ + 6, h => exact absurd h (by omega)
theorem uin1_0 : u_lay RX1 TX1 0 ∈ BG := (bgT1 164 rfl rfl)
theorem uin1_1 : u_lay RX1 TX1 1 ∈ BG := (bgT1 166 rfl rfl)
theorem uin1 : ∀ w ∈ u_ws RX1 TX1 2, w ∈ BG := by
  intro w h
  obtain ⟨j, hj, rfl⟩ := List.mem_map.mp h
  have hj := List.mem_range.mp hj
  match j, hj with
  | 0, _ => exact uin1_0
  | 1, _ => exact uin1_1
  | _ + 2, h => exact absurd h (by omega)
theorem uin2_0 : u_lay RX2 TX2 0 ∈ BG := (bgT1 133 rfl rfl)
theorem uin2_1 : u_lay RX2 TX2 1 ∈ BG := (bgT1 135 rfl rfl)
theorem uin2_2 : u_lay RX2 TX2 2 ∈ BG := (bgT1 137 rfl rfl)
theorem uin2_3 : u_lay RX2 TX2 3 ∈ BG := (bgT1 139 rfl rfl)
theorem uin2_4 : u_lay RX2 TX2 4 ∈ BG := (bgT1 141 rfl rfl)
theorem uin2_5 : u_lay RX2 TX2 5 ∈ BG := (bgT1 143 rfl rfl)
theorem uin2_6 : u_lay RX2 TX2 6 ∈ BG := (bgT1 145 rfl rfl)
theorem uin2_7 : u_lay RX2 TX2 7 ∈ BG := (bgT1 147 rfl rfl)
theorem uin2_8 : u_lay RX2 TX2 8 ∈ BG := (bgT1 149 rfl rfl)
theorem uin2 : ∀ w ∈ u_ws RX2 TX2 9, w ∈ BG := by
  intro w h
  obtain ⟨j, hj, rfl⟩ := List.mem_map.mp h
  have hj := List.mem_range.mp hj
  match j, hj with
  | 0, _ => exact uin2_0
  | 1, _ => exact uin2_1
  | 2, _ => exact uin2_2
  | 3, _ => exact uin2_3
  | 4, _ => exact uin2_4
  | 5, _ => exact uin2_5
  | 6, _ => exact uin2_6
  | 7, _ => exact uin2_7
  | 8, _ => exact uin2_8
  | _ + 9, h => exact absurd h (by omega)
theorem uin3_0 : u_lay RX3 TX3 0 ∈ BG := (bgT1 186 rfl rfl)
theorem uin3_1 : u_lay RX3 TX3 1 ∈ BG := (bgT1 188 rfl rfl)
theorem uin3_2 : u_lay RX3 TX3 2 ∈ BG := (bgT1 190 rfl rfl)
theorem uin3_3 : u_lay RX3 TX3 3 ∈ BG := (bgT1 192 rfl rfl)
theorem uin3_4 : u_lay RX3 TX3 4 ∈ BG := (bgT1 194 rfl rfl)
theorem uin3 : ∀ w ∈ u_ws RX3 TX3 5, w ∈ BG := by
  intro w h
  obtain ⟨j, hj, rfl⟩ := List.mem_map.mp h
  have hj := List.mem_range.mp hj
  match j, hj with
  | 0, _ => exact uin3_0
  | 1, _ => exact uin3_1
  | 2, _ => exact uin3_2
  | 3, _ => exact uin3_3
  | 4, _ => exact uin3_4
  | _ + 5, h => exact absurd h (by omega)
theorem uin4_0 : u_lay RX4 TX4 0 ∈ BG := (bgT1 209 rfl rfl)
theorem uin4_1 : u_lay RX4 TX4 1 ∈ BG := (bgT1 211 rfl rfl)
theorem uin4_2 : u_lay RX4 TX4 2 ∈ BG := (bgT1 213 rfl rfl)
theorem uin4_3 : u_lay RX4 TX4 3 ∈ BG := (bgT1 215 rfl rfl)
theorem uin4 : ∀ w ∈ u_ws RX4 TX4 4, w ∈ BG := by
  intro w h
  obtain ⟨j, hj, rfl⟩ := List.mem_map.mp h
  have hj := List.mem_range.mp hj
  match j, hj with
  | 0, _ => exact uin4_0
  | 1, _ => exact uin4_1
  | 2, _ => exact uin4_2
  | 3, _ => exact uin4_3
  | _ + 4, h => exact absurd h (by omega)
theorem uin5_0 : u_lay RX5 TX5 0 ∈ BG := (bgT1 94 rfl rfl)
theorem uin5_1 : u_lay RX5 TX5 1 ∈ BG := (bgT1 96 rfl rfl)
theorem uin5_2 : u_lay RX5 TX5 2 ∈ BG := (bgT1 98 rfl rfl)
theorem uin5_3 : u_lay RX5 TX5 3 ∈ BG := (bgT1 100 rfl rfl)
theorem uin5_4 : u_lay RX5 TX5 4 ∈ BG := (bgT1 102 rfl rfl)
theorem uin5_5 : u_lay RX5 TX5 5 ∈ BG := (bgT1 104 rfl rfl)
theorem uin5_6 : u_lay RX5 TX5 6 ∈ BG := (bgT1 106 rfl rfl)
theorem uin5_7 : u_lay RX5 TX5 7 ∈ BG := (bgT1 108 rfl rfl)
theorem uin5_8 : u_lay RX5 TX5 8 ∈ BG := (bgT1 110 rfl rfl)
theorem uin5 : ∀ w ∈ u_ws RX5 TX5 9, w ∈ BG := by
  intro w h
  obtain ⟨j, hj, rfl⟩ := List.mem_map.mp h
  have hj := List.mem_range.mp hj
  match j, hj with
  | 0, _ => exact uin5_0
  | 1, _ => exact uin5_1
  | 2, _ => exact uin5_2
  | 3, _ => exact uin5_3
  | 4, _ => exact uin5_4
  | 5, _ => exact uin5_5
  | 6, _ => exact uin5_6
  | 7, _ => exact uin5_7
  | 8, _ => exact uin5_8
  | _ + 9, h => exact absurd h (by omega)
theorem uin6_0 : u_lay RX6 TX6 0 ∈ BG := (bgT1 225 rfl rfl)
theorem uin6_1 : u_lay RX6 TX6 1 ∈ BG := (bgT1 227 rfl rfl)
theorem uin6_2 : u_lay RX6 TX6 2 ∈ BG := (bgT1 229 rfl rfl)
theorem uin6_3 : u_lay RX6 TX6 3 ∈ BG := (bgT1 231 rfl rfl)
theorem uin6_4 : u_lay RX6 TX6 4 ∈ BG := (bgT1 233 rfl rfl)
theorem uin6_5 : u_lay RX6 TX6 5 ∈ BG := (bgT1 235 rfl rfl)
theorem uin6_6 : u_lay RX6 TX6 6 ∈ BG := (bgT1 237 rfl rfl)
theorem uin6 : ∀ w ∈ u_ws RX6 TX6 7, w ∈ BG := by
  intro w h
  obtain ⟨j, hj, rfl⟩ := List.mem_map.mp h
  have hj := List.mem_range.mp hj
  match j, hj with
  | 0, _ => exact uin6_0
  | 1, _ => exact uin6_1
  | 2, _ => exact uin6_2
  | 3, _ => exact uin6_3
  | 4, _ => exact uin6_4
  | 5, _ => exact uin6_5
  | 6, _ => exact uin6_6
  | _ + 7, h => exact absurd h (by omega)
theorem uin7_0 : u_lay RX7 TX7 0 ∈ BG := (bgT3 141 rfl rfl)
theorem uin7_1 : u_lay RX7 TX7 1 ∈ BG := (bgT3 143 rfl rfl)
theorem uin7_2 : u_lay RX7 TX7 2 ∈ BG := (bgT3 145 rfl rfl)
theorem uin7_3 : u_lay RX7 TX7 3 ∈ BG := (bgT3 147 rfl rfl)
theorem uin7_4 : u_lay RX7 TX7 4 ∈ BG := (bgT3 149 rfl rfl)
theorem uin7_5 : u_lay RX7 TX7 5 ∈ BG := (bgT3 151 rfl rfl)
theorem uin7_6 : u_lay RX7 TX7 6 ∈ BG := (bgT3 153 rfl rfl)
theorem uin7_7 : u_lay RX7 TX7 7 ∈ BG := (bgT3 155 rfl rfl)
theorem uin7_8 : u_lay RX7 TX7 8 ∈ BG := (bgT3 157 rfl rfl)
theorem uin7_9 : u_lay RX7 TX7 9 ∈ BG := (bgT3 159 rfl rfl)
theorem uin7_10 : u_lay RX7 TX7 10 ∈ BG := (bgT3 161 rfl rfl)
theorem uin7_11 : u_lay RX7 TX7 11 ∈ BG := (bgT3 163 rfl rfl)
theorem uin7_12 : u_lay RX7 TX7 12 ∈ BG := (bgT3 165 rfl rfl)
theorem uin7_13 : u_lay RX7 TX7 13 ∈ BG := (bgT3 167 rfl rfl)
theorem uin7_14 : u_lay RX7 TX7 14 ∈ BG := (bgT3 169 rfl rfl)
theorem uin7_15 : u_lay RX7 TX7 15 ∈ BG := (bgT3 171 rfl rfl)
theorem uin7_16 : u_lay RX7 TX7 16 ∈ BG := (bgT3 173 rfl rfl)
theorem uin7_17 : u_lay RX7 TX7 17 ∈ BG := (bgT3 175 rfl rfl)
theorem uin7_18 : u_lay RX7 TX7 18 ∈ BG := (bgT3 177 rfl rfl)
theorem uin7_19 : u_lay RX7 TX7 19 ∈ BG := (bgT3 179 rfl rfl)
theorem uin7_20 : u_lay RX7 TX7 20 ∈ BG := (bgT3 181 rfl rfl)
theorem uin7 : ∀ w ∈ u_ws RX7 TX7 21, w ∈ BG := by
  intro w h
  obtain ⟨j, hj, rfl⟩ := List.mem_map.mp h
  have hj := List.mem_range.mp hj
  match j, hj with
  | 0, _ => exact uin7_0
  | 1, _ => exact uin7_1
  | 2, _ => exact uin7_2
  | 3, _ => exact uin7_3
  | 4, _ => exact uin7_4
  | 5, _ => exact uin7_5
  | 6, _ => exact uin7_6
  | 7, _ => exact uin7_7
  | 8, _ => exact uin7_8
  | 9, _ => exact uin7_9
  | 10, _ => exact uin7_10
  | 11, _ => exact uin7_11
  | 12, _ => exact uin7_12
  | 13, _ => exact uin7_13
  | 14, _ => exact uin7_14
  | 15, _ => exact uin7_15
  | 16, _ => exact uin7_16
  | 17, _ => exact uin7_17
  | 18, _ => exact uin7_18
  | 19, _ => exact uin7_19
  | 20, _ => exact uin7_20
  | _ + 21, h => exact absurd h (by omega)
theorem nk_in : ∀ k, k < 8 → ∀ w ∈ u_ws (RN k) (TN k) (NN k), w ∈ BG := fun k h => match k, h with
  | 0, _ => uin0
  | 1, _ => uin1
  | 2, _ => uin2
  | 3, _ => uin3
  | 4, _ => uin4
  | 5, _ => uin5
  | 6, _ => uin6
  | 7, _ => uin7
  | _ + 8, h => absurd h (by omega)
theorem nk_nm : ∀ k, k < 8 → ∀ a, a < NN k → ∀ b, b < NN k → a ≠ b → (TN k a).2.1 ≠ (TN k b).2.1 := fun k h => match k, h with
  | 0, _ => nmX0
  | 1, _ => nmX1
  | 2, _ => nmX2
  | 3, _ => nmX3
  | 4, _ => nmX4
  | 5, _ => nmX5
  | 6, _ => nmX6
  | 7, _ => nmX7
  | _ + 8, h => absurd h (by omega)
theorem nk_ty : ∀ k, k < 8 → ∀ j, j < NN k → parseFieldDescriptor (TN k j).2.2.1 = some (tyN k j) := fun k h => match k, h with
  | 0, _ => tyX0_ok
  | 1, _ => tyX1_ok
  | 2, _ => tyX2_ok
  | 3, _ => tyX3_ok
  | 4, _ => tyX4_ok
  | 5, _ => tyX5_ok
  | 6, _ => tyX6_ok
  | 7, _ => tyX7_ok
  | _ + 8, h => absurd h (by omega)
theorem nk_cl : ∀ k, k < 8 → vwCl[k]? = some (RN k, TN k, NN k) := fun k h => match k, h with
  | 0, _ => rfl
  | 1, _ => rfl
  | 2, _ => rfl
  | 3, _ => rfl
  | 4, _ => rfl
  | 5, _ => rfl
  | 6, _ => rfl
  | 7, _ => rfl
  | _ + 8, h => absurd h (by omega)
theorem nk_mk : ∀ k, k < 8 → Cond.instantiable (RN k) (NN k) ∈ BG ∧ Cond.initialized (RN k) ∈ BG := fun k h => match k, h with
  | 0, _ => ⟨(bgT1 29 rfl rfl), (bgT1 3 rfl rfl)⟩
  | 1, _ => ⟨(bgT1 154 rfl rfl), (bgT1 5 rfl rfl)⟩
  | 2, _ => ⟨(bgT1 20 rfl rfl), (bgT1 2 rfl rfl)⟩
  | 3, _ => ⟨(bgT1 171 rfl rfl), (bgT1 6 rfl rfl)⟩
  | 4, _ => ⟨(bgT1 198 rfl rfl), (bgT1 7 rfl rfl)⟩
  | 5, _ => ⟨(bgT1 67 rfl rfl), (bgT1 4 rfl rfl)⟩
  | 6, _ => ⟨(bgT1 12 rfl rfl), (bgT1 1 rfl rfl)⟩
  | 7, _ => ⟨(bgT3 115 rfl rfl), (bgT1 8 rfl rfl)⟩
  | _ + 8, h => absurd h (by omega)
theorem nk_ar : Cond.arrayClass .int ∈ BG ∧ Cond.arrayClass .boolean ∈ BG := ⟨(bgT1 66 rfl rfl), (bgT1 169 rfl rfl)⟩
theorem nk_mi : Cond.static Lib.Math.min.name ∈ BG ∧ Cond.initialized "java/lang/Math" ∈ BG ∧ Cond.code Lib.Math.min.name Lib.Math.min.code 2 (some .int) ∈ BG := ⟨(bgT2 234 rfl rfl), (bgT1 10 rfl rfl), (bgT2 235 rfl rfl)⟩
theorem nk_oi : Cond.instanceMethod objectInit ∈ BG ∧ Cond.code objectInit ⟨#[0xb1]⟩ 1 none ∈ BG := ⟨(bgT1 17 rfl rfl), (bgT1 18 rfl rfl)⟩
end
section
/-! THE ABSTRACT MACHINE: the heap is a map D of kinds and references and a map mm of ints; one step of a method, and runs -/
abbrev vZZ : Type := Nat × Nat
abbrev vCF : Type := Nat × List Value × List Value × vDD × vMM × vZZ
abbrev vOU : Type := Value × vDD × vMM × vZZ
abbrev vJ : Value := .retAddr 0
/-- what a step is: on, an end, or a call -/
abbrev vST : Type := vCF ⊕ (vOU ⊕ (vMD × vCF × (vOU → vCF)))
def up2 (mm : vMM) (a k : Nat) (x : Int32) : vMM := fun q => if q = a then upd (mm a) k x else mm q
def upR (D : vDD) (a k : Nat) (r : Option Nat) : vDD := fun q => if q = a then ((D a).1, (D a).2.1, fun j => if j = k then r else (D a).2.2 j) else D q
def nwD (D : vDD) (n : Nat) (d : Nat × Nat × (Nat → Option Nat)) : vDD := fun q => if q = n then d else D q
def nwM (mm : vMM) (n : Nat) : vMM := fun q => if q = n then (fun _ => 0) else mm q
/-- entry locals -/
def lay : List Value → List Value
  | [] => []
  | v :: t => if v.category = 2 then v :: vJ :: lay t else v :: lay t
def entL (n : Nat) (vs : List Value) : List Value := lay vs ++ List.replicate (n - (lay vs).length) vJ
def noLg (ll : List Nat) : Nat → List Value → Bool
  | _, [] => true
  | k, v :: t => (v.category != 2 || ll.contains k) && noLg ll (k + 1) t
def entOK (y : vMD) (vs : List Value) : Bool := decide ((lay vs).length ≤ mnl y) && noLg (mll y) 0 (entL (mnl y) vs)
/-- an int's store in a place behind which no long begins -/
def okS (y : vMD) (L : List Value) (i : Nat) : Bool := decide (i < L.length) && (i == 0 || !((mll y).contains (i - 1)))
def okS2 (y : vMD) (L : List Value) (i : Nat) : Bool := decide (i + 1 < L.length) && ((i == 0 || !((mll y).contains (i - 1))) && (mll y).contains i)
def jmp (pc : Nat) (off : Int) : Option Nat := if 0 ≤ (pc : Int) + off then some ((pc : Int) + off).toNat else none
def cmpB (op : Jvm.ClassFile.Cond) (x y : Int32) : Bool := match op with
  | .eq => decide (x = y)
  | .ne => !decide (x = y)
  | .lt => decide (x < y)
  | .ge => decide (y ≤ x)
  | .gt => decide (y < x)
  | .le => decide (x ≤ y)
def elK : Nat → Nat := fun k => match k with
  | 10 => 0
  | 11 => 2
  | _ => 5
def arK : Nat → Nat := fun k => match k with
  | 0 => 10
  | 2 => 11
  | _ => 12
def inB (i : Int32) (n : Nat) : Bool := !(decide (i < 0) || decide (n ≤ i.toNatClampNeg))
/-- a step that goes on: the new pc, locals, stack -/
def gO (pc : Nat) (L st : List Value) (D : vDD) (mm : vMM) (z : vZZ) : Option vST := some (.inl (pc, L, st, D, mm, z))
def gJ (t : Option Nat) (L st : List Value) (D : vDD) (mm : vMM) (z : vZZ) : Option vST := match t with
  | some pc => gO pc L st D mm z
  | none => none
/-- a call's start: receiver and arguments, deepest first -/
def gC (y zm : vMD) (args rest : List Value) (pc : Nat) (L : List Value) (D : vDD) (mm : vMM) (z : vZZ) : Option vST :=
  if decide (mht zm < mht y) && (decide (rest.length ≤ 4) && entOK zm args) then
    some (.inr (.inr (zm, (0, entL (mnl zm) args, [], D, mm, z), fun o => (pc + 3, L, (if (mrt zm).isNone then rest else o.1 :: rest), o.2.1, o.2.2.1, o.2.2.2))))
  else none
def gV (y zm : vMD) (na pc : Nat) (L st : List Value) (D : vDD) (mm : vMM) (z : vZZ) : Option vST := match st.drop na with
  | .ref a :: rest => if (D a).1 == mow zm && decide (na ≤ st.length) then gC y zm (.ref a :: (st.take na).reverse) rest pc L D mm z else none
  | _ => none
def gS (y zm : vMD) (na pc : Nat) (L st : List Value) (D : vDD) (mm : vMM) (z : vZZ) : Option vST := if na ≤ st.length then gC y zm ((st.take na).reverse) (st.drop na) pc L D mm z else none
def gLd (L : List Value) (k pc : Nat) (st : List Value) (D : vDD) (mm : vMM) (z : vZZ) : Option vST := match L[k]? with
  | some (.int x) => gO pc L (.int x :: st) D mm z
  | _ => none
def gLdR (L : List Value) (k pc : Nat) (st : List Value) (D : vDD) (mm : vMM) (z : vZZ) : Option vST := match L[k]? with
  | some (.ref x) => gO pc L (.ref x :: st) D mm z
  | _ => none
def gLdL (L : List Value) (k pc : Nat) (st : List Value) (D : vDD) (mm : vMM) (z : vZZ) : Option vST := match L[k]? with
  | some (.long x) => gO pc L (.long x :: st) D mm z
  | _ => none
def gSt (y : vMD) (L : List Value) (k pc : Nat) (st : List Value) (D : vDD) (mm : vMM) (z : vZZ) : Option vST := match st with
  | .int x :: st => if okS y L k then gO pc (L.set k (.int x)) st D mm z else none
  | _ => none
def gStR (y : vMD) (L : List Value) (k pc : Nat) (st : List Value) (D : vDD) (mm : vMM) (z : vZZ) : Option vST := match st with
  | .ref x :: st => if okS y L k then gO pc (L.set k (.ref x)) st D mm z else none
  | _ => none
def gStL (y : vMD) (L : List Value) (k pc : Nat) (st : List Value) (D : vDD) (mm : vMM) (z : vZZ) : Option vST := match st with
  | .long x :: st => if okS2 y L k then gO pc ((L.set k (.long x)).set (k + 1) vJ) st D mm z else none
  | _ => none
def gI2 (f : Int32 → Int32 → Int32) (pc : Nat) (L st : List Value) (D : vDD) (mm : vMM) (z : vZZ) : Option vST := match st with
  | .int y :: .int x :: st => gO pc L (.int (f x y) :: st) D mm z
  | _ => none
def gL2 (f : Int64 → Int64 → Int64) (pc : Nat) (L st : List Value) (D : vDD) (mm : vMM) (z : vZZ) : Option vST := match st with
  | .long y :: .long x :: st => gO pc L (.long (f x y) :: st) D mm z
  | _ => none
def gLS (f : Int64 → Int32 → Int64) (pc : Nat) (L st : List Value) (D : vDD) (mm : vMM) (z : vZZ) : Option vST := match st with
  | .int y :: .long x :: st => gO pc L (.long (f x y) :: st) D mm z
  | _ => none
def gPut (y : vMD) (ci k pc : Nat) (L st : List Value) (D : vDD) (mm : vMM) (z : vZZ) : Option vST :=
  if !(TN ci k).2.2.2 || ((mym y).name == "<init>" && (TN ci k).1 == RN (mow y)) then
    match st with
    | .int x :: .ref a :: st => if (D a).1 == ci && (!rT ci k && (fits (tyN ci k) (.int x) && narrow (tyN ci k) (.int x) == .int x)) then gO pc L st D (up2 mm a k x) z else none
    | .ref r :: .ref a :: st => if (D a).1 == ci && rT ci k then gO pc L st (upR D a k (some r)) mm z else none
    | _ => none
  else none
def gGet (ci k pc : Nat) (L st : List Value) (D : vDD) (mm : vMM) (z : vZZ) : Option vST := match st with
  | .ref a :: st => if (D a).1 == ci then (if rT ci k then (match (D a).2.2 k with
      | some r => gO pc L (.ref r :: st) D mm z
      | none => none) else gO pc L (.int (mm a k) :: st) D mm z) else none
  | _ => none
def gRet (y : vMD) (st : List Value) (D : vDD) (mm : vMM) (z : vZZ) : Option vST := match st, mrt y with
  | [.int v], some ty => if narrow ty (.int v) == .int v then some (.inr (.inl (.int v, D, mm, z))) else none
  | _, _ => none
/-- one instruction -/
def nxi (y : vMD) (i : Jvm.ClassFile.Instr) (len pc : Nat) (L st : List Value) (D : vDD) (mm : vMM) (z : vZZ) : Option vST := match i with
  | .iconst n => if len == 1 then gO (pc + 1) L (.int (Int32.ofInt n) :: st) D mm z else none
  | .bipush n => if len == 2 then gO (pc + 2) L (.int (Int8.ofInt n).toInt32 :: st) D mm z else none
  | .sipush n => if len == 3 then gO (pc + 3) L (.int (Int16.ofInt n).toInt32 :: st) D mm z else none
  | .lconst n => if len == 1 then gO (pc + 1) L (.long (Int64.ofNat (n : Nat)) :: st) D mm z else none
  | .ldc idx => if len == 2 then (match lk (cL (mow y)) idx with
      | some v => gO (pc + 2) L (.int v :: st) D mm z
      | none => none) else none
  | .ldc_w idx => if len == 3 then (match lk (cL (mow y)) idx with
      | some v => gO (pc + 3) L (.int v :: st) D mm z
      | none => none) else none
  | .ldc2_w idx => if len == 3 then (match lk (lL (mow y)) idx with
      | some v => gO (pc + 3) L (.long v :: st) D mm z
      | none => none) else none
  | .iload_n k => if len == 1 then gLd L k (pc + 1) st D mm z else none
  | .iload k => if len == 2 then gLd L k (pc + 2) st D mm z else none
  | .aload_n k => if len == 1 then gLdR L k (pc + 1) st D mm z else none
  | .aload k => if len == 2 then gLdR L k (pc + 2) st D mm z else none
  | .lload_n k => if len == 1 then gLdL L k (pc + 1) st D mm z else none
  | .lload k => if len == 2 then gLdL L k (pc + 2) st D mm z else none
  | .istore_n k => if len == 1 then gSt y L k (pc + 1) st D mm z else none
  | .istore k => if len == 2 then gSt y L k (pc + 2) st D mm z else none
  | .astore_n k => if len == 1 then gStR y L k (pc + 1) st D mm z else none
  | .astore k => if len == 2 then gStR y L k (pc + 2) st D mm z else none
  | .lstore_n k => if len == 1 then gStL y L k (pc + 1) st D mm z else none
  | .lstore k => if len == 2 then gStL y L k (pc + 2) st D mm z else none
  | .iinc k n => if len == 3 then (match L[k]? with
      | some (.int x) => if okS y L k then gO (pc + 3) (L.set k (.int (x + Int32.ofInt n))) st D mm z else none
      | _ => none) else none
  | .iadd => if len == 1 then gI2 (fun x y => x + y) (pc + 1) L st D mm z else none
  | .isub => if len == 1 then gI2 (fun x y => x - y) (pc + 1) L st D mm z else none
  | .imul => if len == 1 then gI2 (fun x y => x * y) (pc + 1) L st D mm z else none
  | .iand => if len == 1 then gI2 (fun x y => x &&& y) (pc + 1) L st D mm z else none
  | .ior => if len == 1 then gI2 (fun x y => x ||| y) (pc + 1) L st D mm z else none
  | .ixor => if len == 1 then gI2 (fun x y => x ^^^ y) (pc + 1) L st D mm z else none
  | .ishl => if len == 1 then gI2 (fun x y => x <<< (y &&& 31)) (pc + 1) L st D mm z else none
  | .ishr => if len == 1 then gI2 (fun x y => x >>> (y &&& 31)) (pc + 1) L st D mm z else none
  | .iushr => if len == 1 then gI2 (fun x y => (x.toUInt32 >>> (y.toUInt32 &&& Int32.toUInt32 31)).toInt32) (pc + 1) L st D mm z else none
  | .land => if len == 1 then gL2 (fun x y => x &&& y) (pc + 1) L st D mm z else none
  | .lor => if len == 1 then gL2 (fun x y => x ||| y) (pc + 1) L st D mm z else none
  | .lshl => if len == 1 then gLS (fun x y => x <<< (y.toInt64 &&& 63)) (pc + 1) L st D mm z else none
  | .lushr => if len == 1 then gLS (fun x y => (x.toUInt64 >>> (y.toInt64.toUInt64 &&& Int64.toUInt64 63)).toInt64) (pc + 1) L st D mm z else none
  | .i2l => if len == 1 then (match st with
      | .int x :: st => gO (pc + 1) L (.long x.toInt64 :: st) D mm z
      | _ => none) else none
  | .l2i => if len == 1 then (match st with
      | .long x :: st => gO (pc + 1) L (.int x.toInt32 :: st) D mm z
      | _ => none) else none
  | .lcmp => if len == 1 then (match st with
      | .long y :: .long x :: st => gO (pc + 1) L (.int (lg_cmp x y) :: st) D mm z
      | _ => none) else none
  | .dup => if len == 1 then (match st with
      | v :: st => if v.category == 1 then gO (pc + 1) L (v :: v :: st) D mm z else none
      | _ => none) else none
  | .dup2 => if len == 1 then (match st with
      | v :: w :: st => if v.category == 1 && w.category == 1 then gO (pc + 1) L (v :: w :: v :: w :: st) D mm z else none
      | _ => none) else none
  | .pop => if len == 1 then (match st with
      | v :: st => if v.category == 1 then gO (pc + 1) L st D mm z else none
      | _ => none) else none
  | .ifCond op off => if len == 3 then (match st with
      | .int x :: st => (match jmp pc off with
          | some t => gO (if cmpB op x 0 then t else pc + 3) L st D mm z
          | none => none)
      | _ => none) else none
  | .if_icmp op off => if len == 3 then (match st with
      | .int y :: .int x :: st => (match jmp pc off with
          | some t => gO (if cmpB op x y then t else pc + 3) L st D mm z
          | none => none)
      | _ => none) else none
  | .goto off => if len == 3 then gJ (jmp pc off) L st D mm z else none
  | .tableswitch dflt lo hi offs => (match st with
      | .int x :: st => gJ (if decide (x.toInt < lo) || decide (hi < x.toInt) then jmp pc dflt else (match offs[(x.toInt - lo).toNat]? with
          | some off => jmp pc off
          | none => none)) L st D mm z
      | _ => none)
  | .lookupswitch dflt ps => (match st with
      | .int x :: st => if (ps.toList.zip (ps.toList.drop 1)).all (fun (a, next) => a.1 < next.1) then gJ (jmp pc (Op.lookupswitch.offset ps.toList dflt x.toInt)) L st D mm z else none
      | _ => none)
  | .getfield idx => if len == 3 then (match lk (fL (mow y)) idx with
      | some q => gGet q.1 q.2 (pc + 3) L st D mm z
      | none => none) else none
  | .putfield idx => if len == 3 then (match lk (fL (mow y)) idx with
      | some q => gPut y q.1 q.2 (pc + 3) L st D mm z
      | none => none) else none
  | .iaload => if len == 1 then (match st with
      | .int i :: .ref a :: st => if ((D a).1 == 8 || (D a).1 == 20) && inB i (D a).2.1 then gO (pc + 1) L (.int (mm a i.toNatClampNeg) :: st) D mm z else none
      | _ => none) else none
  | .iastore => if len == 1 then (match st with
      | .int x :: .int i :: .ref a :: st => if (D a).1 == 8 && inB i (D a).2.1 then gO (pc + 1) L st D (up2 mm a i.toNatClampNeg x) z else none
      | _ => none) else none
  | .baload => if len == 1 then (match st with
      | .int i :: .ref a :: st => if (D a).1 == 9 && inB i (D a).2.1 then gO (pc + 1) L (.int (mm a i.toNatClampNeg) :: st) D mm z else none
      | _ => none) else none
  | .bastore => if len == 1 then (match st with
      | .int x :: .int i :: .ref a :: st => if (D a).1 == 9 && (inB i (D a).2.1 && fits .boolean (.int x)) then gO (pc + 1) L st D (up2 mm a i.toNatClampNeg x) z else none
      | _ => none) else none
  | .aaload => if len == 1 then (match st with
      | .int i :: .ref a :: st => if (decide (10 ≤ (D a).1) && decide ((D a).1 ≤ 12)) && inB i (D a).2.1 then (match (D a).2.2 i.toNatClampNeg with
          | some r => gO (pc + 1) L (.ref r :: st) D mm z
          | none => none) else none
      | _ => none) else none
  | .aastore => if len == 1 then (match st with
      | .ref r :: .int i :: .ref a :: st => if ((decide (10 ≤ (D a).1) && decide ((D a).1 ≤ 12)) && inB i (D a).2.1) && (D r).1 == elK (D a).1 then gO (pc + 1) L st (upR D a i.toNatClampNeg (some r)) mm z else none
      | _ => none) else none
  | .arraylength => if len == 1 then (match st with
      | .ref a :: st => if (D a).1 == 20 then gO (pc + 1) L (.int (Int32.ofNat (D a).2.1) :: st) D mm z else none
      | _ => none) else none
  | .new idx => if len == 3 then (match lk (kL (mow y)) idx with
      | some k => gO (pc + 3) L (.ref z.1 :: st) (nwD D z.1 (k, 0, fun _ => none)) (nwM mm z.1) (z.1 + 1, z.2 + NN k)
      | none => none) else none
  | .newarray t => if len == 2 then (match st with
      | .int c :: st => if !decide (c < 0) && decide (c.toNatClampNeg ≤ 4096) then (match t with
          | .int => gO (pc + 2) L (.ref z.1 :: st) (nwD D z.1 (8, c.toNatClampNeg, fun _ => none)) (nwM mm z.1) (z.1 + 1, z.2 + c.toNatClampNeg)
          | .boolean => gO (pc + 2) L (.ref z.1 :: st) (nwD D z.1 (9, c.toNatClampNeg, fun _ => none)) (nwM mm z.1) (z.1 + 1, z.2 + c.toNatClampNeg)
          | _ => none) else none
      | _ => none) else none
  | .anewarray idx => if len == 3 then (match st with
      | .int c :: st => if !decide (c < 0) && decide (c.toNatClampNeg ≤ 4096) then (match lk (kL (mow y)) idx with
          | some k => if k == 0 || (k == 2 || k == 5) then gO (pc + 3) L (.ref z.1 :: st) (nwD D z.1 (arK k, c.toNatClampNeg, fun _ => none)) (nwM mm z.1) (z.1 + 1, z.2 + c.toNatClampNeg) else none
          | none => none) else none
      | _ => none) else none
  | .invokevirtual idx => if len == 3 then (match lk (mL (mow y)) idx with
      | some q => if q.2.1 == 0 then gV y q.1 q.2.2 pc L st D mm z else none
      | none => none) else none
  | .invokestatic idx => if len == 3 then (match lk (pL (mow y)) idx with
      | some _ => (match st with
          | .int v :: .int x :: st => if decide (1 ≤ mht y) && decide (st.length ≤ 4) then gO (pc + 3) L (.int (if v < x then v else x) :: st) D mm z else none
          | _ => none)
      | none => (match lk (mL (mow y)) idx with
          | some q => if q.2.1 == 1 || q.2.1 == 5 then gS y q.1 q.2.2 pc L st D mm z else none
          | none => none)) else none
  | .invokespecial idx => if len == 3 then (match lk (oL (mow y)) idx with
      | some _ => (match st with
          | .ref _ :: st => if decide (1 ≤ mht y) && decide (st.length ≤ 4) then gO (pc + 3) L st D mm z else none
          | _ => none)
      | none => (match lk (mL (mow y)) idx with
          | some q => if q.2.1 == 2 || q.2.1 == 6 then gV y q.1 q.2.2 pc L st D mm z else none
          | none => none)) else none
  | .ireturn => if len == 1 then gRet y st D mm z else none
  | .return_ => if len == 1 then (match st with
      | [] => if (mrt y).isNone then some (.inr (.inl (vJ, D, mm, z))) else none
      | _ => none) else none
  | _ => none
def nxt (y : vMD) (c : vCF) : Option vST := match decode (mbc y) c.1 with
  | .ok (i, len) => nxi y i len c.1 c.2.1 c.2.2.1 c.2.2.2.1 c.2.2.2.2.1 c.2.2.2.2.2
  | .error _ => none
def bdy (rec : vMD → vCF → Option vOU) (y : vMD) (c : vCF) : Option vOU := match nxt y c with
  | none => none
  | some (.inl c') => rec y c'
  | some (.inr (.inl o)) => some o
  | some (.inr (.inr q)) => (match rec q.1 q.2.1 with
      | none => none
      | some o => rec y (q.2.2 o))
def run : Nat → vMD → vCF → Option vOU
  | 0, _, _ => none
  | f + 1, y, c => bdy (run f) y c
theorem bdy_mono {r1 r2 : vMD → vCF → Option vOU} (h : ∀ y c o, r1 y c = some o → r2 y c = some o) {y : vMD} {c : vCF} {o : vOU} (h1 : bdy r1 y c = some o) : bdy r2 y c = some o := by
  unfold bdy at h1 ⊢
  cases hn : nxt y c with
  | none => rw [hn] at h1; cases h1
  | some q =>
    rw [hn] at h1
    rcases q with c' | o' | q
    · exact h _ _ _ h1
    · exact h1
    · dsimp only at h1 ⊢
      cases hr : r1 q.1 q.2.1 with
      | none => rw [hr] at h1; cases h1
      | some o2 =>
        rw [hr] at h1
        rw [h _ _ _ hr]
        exact h _ _ _ h1
theorem run_mono : ∀ (f : Nat) (y : vMD) (c : vCF) (o : vOU), run f y c = some o → run (f + 1) y c = some o
  | 0, _, _, _, h => by cases h
  | f + 1, y, c, o, h => bdy_mono (run_mono f) h
theorem run_le {f g : Nat} (h : f ≤ g) {y : vMD} {c : vCF} {o : vOU} (h1 : run f y c = some o) : run g y c = some o := by
  induction h with
  | refl => exact h1
  | step _ ih => exact run_mono _ _ _ _ ih
/-- the method comes to an end, of which Q holds -/
def Runs (y : vMD) (pc : Nat) (L st : List Value) (D : vDD) (mm : vMM) (z : vZZ) (Q : Value → vDD → vMM → vZZ → Prop) : Prop :=
  ∃ (f : Nat) (v : Value) (D' : vDD) (m' : vMM) (z' : vZZ), run f y (pc, L, st, D, mm, z) = some (v, D', m', z') ∧ Q v D' m' z'
theorem Runs_go {y : vMD} {pc pc' : Nat} {L L' st st' : List Value} {D D' : vDD} {mm m' : vMM} {z z' : vZZ} {Q : Value → vDD → vMM → vZZ → Prop} (h : nxt y (pc, L, st, D, mm, z) = some (.inl (pc', L', st', D', m', z'))) : Runs y pc L st D mm z Q = Runs y pc' L' st' D' m' z' Q := by
  apply propext
  constructor
  · rintro ⟨f, v, D2, m2, z2, hr, hq⟩
    cases f with
    | zero => cases hr
    | succ f =>
      refine ⟨f, v, D2, m2, z2, ?_, hq⟩
      simpa only [run, bdy, h] using hr
  · rintro ⟨f, v, D2, m2, z2, hr, hq⟩
    refine ⟨f + 1, v, D2, m2, z2, ?_, hq⟩
    simpa only [run, bdy, h] using hr
theorem Runs_no {y : vMD} {pc : Nat} {L st : List Value} {D : vDD} {mm : vMM} {z : vZZ} {Q : Value → vDD → vMM → vZZ → Prop} (h : nxt y (pc, L, st, D, mm, z) = none) : Runs y pc L st D mm z Q = False := by
  apply propext
  constructor
  · rintro ⟨f, v, D2, m2, z2, hr, hq⟩
    cases f with
    | zero => cases hr
    | succ f => simp only [run, bdy, h] at hr; cases hr
  · exact False.elim
theorem Runs_end {y : vMD} {pc : Nat} {L st : List Value} {D D' : vDD} {mm m' : vMM} {z z' : vZZ} {v : Value} {Q : Value → vDD → vMM → vZZ → Prop} (h : nxt y (pc, L, st, D, mm, z) = some (.inr (.inl (v, D', m', z')))) : Runs y pc L st D mm z Q = Q v D' m' z' := by
  apply propext
  constructor
  · rintro ⟨f, v2, D2, m2, z2, hr, hq⟩
    cases f with
    | zero => cases hr
    | succ f =>
      simp only [run, bdy, h] at hr
      cases hr
      exact hq
  · intro hq
    exact ⟨1, v, D', m', z', by simp only [run, bdy, h], hq⟩
theorem Runs_call {y zm : vMD} {pc pc' : Nat} {L L0 L' st st0 : List Value} {D D0 : vDD} {mm m0 : vMM} {z z0 : vZZ} {k : vOU → vCF} {Q : Value → vDD → vMM → vZZ → Prop} (h : nxt y (pc, L, st, D, mm, z) = some (.inr (.inr (zm, (pc', L0, st0, D0, m0, z0), k)))) :
    Runs y pc L st D mm z Q = Runs zm pc' L0 st0 D0 m0 z0 (fun v D1 m1 z1 => Runs y (k (v, D1, m1, z1)).1 (k (v, D1, m1, z1)).2.1 (k (v, D1, m1, z1)).2.2.1 (k (v, D1, m1, z1)).2.2.2.1 (k (v, D1, m1, z1)).2.2.2.2.1 (k (v, D1, m1, z1)).2.2.2.2.2 Q) := by
  apply propext
  constructor
  · rintro ⟨f, v2, D2, m2, z2, hr, hq⟩
    cases f with
    | zero => cases hr
    | succ f =>
      simp only [run, bdy, h] at hr
      cases hc : run f zm (pc', L0, st0, D0, m0, z0) with
      | none => rw [hc] at hr; cases hr
      | some o =>
        rw [hc] at hr
        obtain ⟨v1, D1, m1, z1⟩ := o
        exact ⟨f, v1, D1, m1, z1, hc, f, v2, D2, m2, z2, hr, hq⟩
  · rintro ⟨f, v1, D1, m1, z1, hc, g, v2, D2, m2, z2, hr, hq⟩
    refine ⟨f + g + 1, v2, D2, m2, z2, ?_, hq⟩
    simp only [run, bdy, h]
    rw [run_le (Nat.le_add_right f g) hc]
    exact run_le (Nat.le_add_left g f) hr
theorem Runs.imp {y : vMD} {pc : Nat} {L st : List Value} {D : vDD} {mm : vMM} {z : vZZ} {Q Q' : Value → vDD → vMM → vZZ → Prop} (h : Runs y pc L st D mm z Q) (hq : ∀ v D m z, Q v D m z → Q' v D m z) : Runs y pc L st D mm z Q' := by
  obtain ⟨f, v, D2, m2, z2, hr, h1⟩ := h
  exact ⟨f, v, D2, m2, z2, hr, hq _ _ _ _ h1⟩
/-- a run that comes to one end: an equation -/
theorem Runs.det {y : vMD} {pc : Nat} {L st : List Value} {D D' : vDD} {mm m' : vMM} {z z' : vZZ} {v : Value} (h : Runs y pc L st D mm z (fun a b c d => a = v ∧ b = D' ∧ c = m' ∧ d = z')) (Q : Value → vDD → vMM → vZZ → Prop) : Runs y pc L st D mm z Q = Q v D' m' z' := by
  obtain ⟨f, v1, D1, m1, z1, hr, rfl, rfl, rfl, rfl⟩ := h
  apply propext
  constructor
  · rintro ⟨g, v2, D2, m2, z2, hr2, hq⟩
    have e1 := run_le (Nat.le_add_right f g) hr
    have e2 := run_le (Nat.le_add_left g f) hr2
    cases e1.symm.trans e2
    exact hq
  · intro hq
    exact ⟨f, v1, D1, m1, z1, hr, hq⟩
end
section
/-! the abstract machine's heap and locals, and the machine's -/
def ad (b B0 a : Nat) : Nat := if a = 0 then b else B0 + a
theorem ad_pos {b B0 a : Nat} (h : 1 ≤ a) : ad b B0 a = B0 + a := by
  unfold ad
  rw [if_neg (by omega)]
def rvV (b B0 : Nat) : Value → Value := fun v => match v with
  | .ref a => .ref (ad b B0 a)
  | v => v
theorem rvV_cat {b B0 : Nat} (v : Value) : (rvV b B0 v).category = v.category := by cases v <;> rfl
def vv (b B0 : Nat) (d : Nat × Nat × (Nat → Option Nat)) (g : Nat → Int32) (j : Nat) : Value := if rT d.1 j then va_rf ((d.2.2 j).map (ad b B0)) else .int (g j)
def CR (b B0 : Nat) (Dg : va_G) (cy : Nat → ClassId) (d : Nat × Nat × (Nat → Option Nat)) (g : Nat → Int32) (q : Nat) (H : Heap) : Prop :=
  (d.1 < 8 ∧ t_OB q (Dg.1 d.1) (NN d.1) (Dg.2 d.1) H (vv b B0 d g)) ∨ (8 ≤ d.1 ∧ d.1 ≤ 12 ∧ H[q]? = some (arrV (cy d.1) d.2.1 (vv b B0 d g)))
theorem CR.kept {b B0 : Nat} {Dg : va_G} {cy : Nat → ClassId} {d : Nat × Nat × (Nat → Option Nat)} {g : Nat → Int32} {q : Nat} {H H1 : Heap} (h : CR b B0 Dg cy d g q H) (hq : H1[q]? = H[q]?) : CR b B0 Dg cy d g q H1 := by
  rcases h with ⟨h1, h2⟩ | ⟨h1, h2, h3⟩
  · exact Or.inl ⟨h1, h2.kept hq⟩
  · exact Or.inr ⟨h1, h2, hq.trans h3⟩
/-- the heap: the script at b, below the law's own cells, which lie at B0 + 1 and on -/
def HR (b B0 Lx : Nat) (xs : Nat → Int32) (Dg : va_G) (cy : Nat → ClassId) (D : vDD) (mm : vMM) (z : vZZ) (H : Heap) : Prop :=
  (1 ≤ z.1 ∧ H.size = B0 + z.1 ∧ b ≤ B0) ∧ ((D 0).1 = 20 ∧ (D 0).2.1 = Lx ∧ mm 0 = xs) ∧ (∀ a, z.1 ≤ a → (D a).1 = 99) ∧ ∀ a, 1 ≤ a → a < z.1 → CR b B0 Dg cy (D a) (mm a) (B0 + a) H
section HRs
variable {b B0 Lx : Nat} {xs : Nat → Int32} {Dg : va_G} {cy : Nat → ClassId} {D D1 : vDD} {mm m1 : vMM} {z : vZZ} {H H1 : Heap}
theorem HR.in (h : HR b B0 Lx xs Dg cy D mm z H) {a : Nat} (ha : (D a).1 ≤ 12) : 1 ≤ a ∧ a < z.1 ∧ ad b B0 a = B0 + a := by
  obtain ⟨-, ⟨h0, -, -⟩, h9, -⟩ := h
  have h1 : 1 ≤ a := by
    rcases Nat.eq_zero_or_pos a with q | q
    · subst q
      omega
    · exact q
  refine ⟨h1, ?_, ad_pos h1⟩
  rcases Nat.lt_or_ge a z.1 with q | q
  · exact q
  · have := h9 a q
    omega
theorem HR.put (h : HR b B0 Lx xs Dg cy D mm z H) {a : Nat} (ha1 : 1 ≤ a) (ha2 : a < z.1) (hz : H1.size = H.size) (oq : ∀ q, q ≠ B0 + a → H1[q]? = H[q]?) (hD : ∀ q, q ≠ a → D1 q = D q) (hm : ∀ q, q ≠ a → m1 q = mm q) (hc : CR b B0 Dg cy (D1 a) (m1 a) (B0 + a) H1) : HR b B0 Lx xs Dg cy D1 m1 z H1 := by
  obtain ⟨⟨q1, q2, q3⟩, ⟨q4, q5, q6⟩, q7, q8⟩ := h
  refine ⟨⟨q1, by rw [hz]; exact q2, q3⟩, ?_, fun c hc => ?_, fun c h1 h2 => ?_⟩
  · rw [hD 0 (by omega), hm 0 (by omega)]
    exact ⟨q4, q5, q6⟩
  · rw [hD c (by omega)]
    exact q7 c hc
  · by_cases hca : c = a
    · subst hca
      exact hc
    · rw [hD c hca, hm c hca]
      exact (q8 c h1 h2).kept (oq _ (by omega))
theorem HR.new (h : HR b B0 Lx xs Dg cy D mm z H) {d : Nat × Nat × (Nat → Option Nat)} (hz : H1.size = H.size + 1) (oq : ∀ q, q < H.size → H1[q]? = H[q]?) (hc : CR b B0 Dg cy d (fun _ => 0) (B0 + z.1) H1) (k : Nat) : HR b B0 Lx xs Dg cy (nwD D z.1 d) (nwM mm z.1) (z.1 + 1, k) H1 := by
  obtain ⟨⟨q1, q2, q3⟩, ⟨q4, q5, q6⟩, q7, q8⟩ := h
  have e0 : nwD D z.1 d 0 = D 0 := by unfold nwD; rw [if_neg (by omega)]
  have m0 : nwM mm z.1 0 = mm 0 := by unfold nwM; rw [if_neg (by omega)]
  refine ⟨⟨by show 1 ≤ z.1 + 1; omega, by rw [hz, q2]; rfl, q3⟩, ?_, fun c hc => ?_, fun c h1 h2 => ?_⟩
  · rw [e0, m0]
    exact ⟨q4, q5, q6⟩
  · have hc2 : z.1 + 1 ≤ c := hc
    have : nwD D z.1 d c = D c := by unfold nwD; rw [if_neg (by omega)]
    rw [this]
    exact q7 c (by omega)
  · have h3 : c < z.1 + 1 := h2
    by_cases hcz : c = z.1
    · subst hcz
      have a1 : nwD D z.1 d z.1 = d := by unfold nwD; rw [if_pos rfl]
      have a2 : nwM mm z.1 z.1 = fun _ => 0 := by unfold nwM; rw [if_pos rfl]
      rw [a1, a2]
      exact hc
    · have a1 : nwD D z.1 d c = D c := by unfold nwD; rw [if_neg hcz]
      have a2 : nwM mm z.1 c = mm c := by unfold nwM; rw [if_neg hcz]
      rw [a1, a2]
      exact (q8 c h1 (by omega)).kept (oq _ (by omega))
end HRs
/-- the locals -/
def LR (b B0 : Nat) (y : vMD) (L : List Value) (ls : Array Slot) : Prop :=
  L.length = mnl y ∧ ls.size = mnl y ∧ lv_wf ls ∧ (∀ (k : Nat) (v : Value), L[k]? = some v → v ≠ vJ → ls[k]? = some (.val (rvV b B0 v))) ∧ ∀ (k : Nat) (v : Value), L[k]? = some v → v.category = 2 → k ∈ mll y
def al (b B0 : Nat) (L : List Value) : List (Nat × Value) := (List.range L.length).filterMap (fun k => match L[k]? with
  | some v => if v = vJ then none else some (k, rvV b B0 v)
  | none => none)
theorem al_of {b B0 : Nat} {L : List Value} {k : Nat} {v : Value} (h : L[k]? = some v) (hv : v ≠ vJ) : (k, rvV b B0 v) ∈ al b B0 L := by
  refine List.mem_filterMap.mpr ⟨k, List.mem_range.mpr (List.getElem?_eq_some_iff.mp h).1, ?_⟩
  rw [h]
  simp [hv]
theorem al_to {b B0 : Nat} {L : List Value} {q : Nat × Value} (h : q ∈ al b B0 L) : ∃ v, L[q.1]? = some v ∧ v ≠ vJ ∧ q.2 = rvV b B0 v := by
  obtain ⟨k, -, hk⟩ := List.mem_filterMap.mp h
  cases hL : L[k]? with
  | none => rw [hL] at hk; cases hk
  | some v =>
    rw [hL] at hk
    by_cases hv : v = vJ
    · simp [hv] at hk
    · simp only [if_neg hv] at hk
      cases hk
      exact ⟨v, hL, hv, rfl⟩
theorem LR.has {b B0 : Nat} {y : vMD} {L : List Value} {ls : Array Slot} (h : LR b B0 y L ls) : lv_has ls (mnl y) (al b B0 L) := by
  refine ⟨h.2.1, h.2.2.1, fun q hq => ?_⟩
  obtain ⟨v, h1, h2, h3⟩ := al_to hq
  rw [h3]
  exact h.2.2.2.1 _ _ h1 h2
theorem LR.set1 {b B0 : Nat} {y : vMD} {L : List Value} {ls ls' : Array Slot} {i : Nat} {v : Value} (h : LR b B0 y L ls) (ho : okS y L i = true) (hc : v.category = 1)
    (hh : lv_has ls' (mnl y) ((i, rvV b B0 v) :: (al b B0 L).filter (fun q => !(q.1 == i) && !(q.1 + 1 == i && q.2.category == 2)))) : LR b B0 y (L.set i v) ls' := by
  obtain ⟨a1, a2, a3, a4, a5⟩ := h
  obtain ⟨b1, b2, b3⟩ := hh
  simp only [okS, Bool.and_eq_true, decide_eq_true_eq, Bool.or_eq_true, beq_iff_eq, Bool.not_eq_true'] at ho
  have hlen : i < L.length := ho.1
  have hb : ∀ k, k + 1 = i → ¬ k ∈ mll y := by
    intro k hk hm
    rcases ho.2 with h0 | h0
    · omega
    · rw [show i - 1 = k by omega] at h0
      rw [List.contains_eq_mem] at h0
      simp [hm] at h0
  refine ⟨by rw [List.length_set]; exact a1, b1, b2, fun k w hk hw => ?_, fun k w hk hw => ?_⟩
  · by_cases hki : k = i
    · subst hki
      rw [List.getElem?_set_self hlen] at hk
      cases hk
      exact b3 _ List.mem_cons_self
    · rw [List.getElem?_set_ne (Ne.symm hki)] at hk
      refine b3 (k, rvV b B0 w) (List.mem_cons_of_mem _ (List.mem_filter.mpr ⟨al_of hk hw, ?_⟩))
      have h1 : (k == i) = false := by simp [hki]
      have h2 : (k + 1 == i && (rvV b B0 w).category == 2) = false := by
        rw [rvV_cat]
        by_cases hk2 : k + 1 = i
        · have : ¬ w.category = 2 := fun q => hb k hk2 (a5 k w hk q)
          simp [this]
        · simp [hk2]
      simp only [h1, h2]
      rfl
  · by_cases hki : k = i
    · subst hki
      rw [List.getElem?_set_self hlen] at hk
      cases hk
      omega
    · rw [List.getElem?_set_ne (Ne.symm hki)] at hk
      exact a5 k w hk hw
theorem LR.set2 {b B0 : Nat} {y : vMD} {L : List Value} {ls ls' : Array Slot} {i : Nat} {v : Value} (h : LR b B0 y L ls) (ho : okS2 y L i = true)
    (hh : lv_has ls' (mnl y) ((i, rvV b B0 v) :: (al b B0 L).filter (fun q => !(q.1 == i) && (!(q.1 == i + 1) && !(q.1 + 1 == i && q.2.category == 2))))) : LR b B0 y ((L.set i v).set (i + 1) vJ) ls' := by
  obtain ⟨a1, a2, a3, a4, a5⟩ := h
  obtain ⟨b1, b2, b3⟩ := hh
  simp only [okS2, Bool.and_eq_true, decide_eq_true_eq, Bool.or_eq_true, beq_iff_eq, Bool.not_eq_true'] at ho
  have hlen : i + 1 < L.length := ho.1
  have him : i ∈ mll y := by
    have := ho.2.2
    rw [List.contains_eq_mem] at this
    simpa using this
  have hb : ∀ k, k + 1 = i → ¬ k ∈ mll y := by
    intro k hk hm
    rcases ho.2.1 with h0 | h0
    · omega
    · rw [show i - 1 = k by omega] at h0
      rw [List.contains_eq_mem] at h0
      simp [hm] at h0
  have hget : ∀ k w, ((L.set i v).set (i + 1) vJ)[k]? = some w → (k = i + 1 ∧ w = vJ) ∨ (k = i ∧ w = v) ∨ (k ≠ i ∧ k ≠ i + 1 ∧ L[k]? = some w) := by
    intro k w hk
    by_cases h1 : k = i + 1
    · subst h1
      rw [List.getElem?_set_self (by rw [List.length_set]; exact hlen)] at hk
      cases hk
      exact Or.inl ⟨rfl, rfl⟩
    · rw [List.getElem?_set_ne (Ne.symm h1)] at hk
      by_cases h2 : k = i
      · subst h2
        rw [List.getElem?_set_self (by omega)] at hk
        cases hk
        exact Or.inr (Or.inl ⟨rfl, rfl⟩)
      · rw [List.getElem?_set_ne (Ne.symm h2)] at hk
        exact Or.inr (Or.inr ⟨h2, h1, hk⟩)
  refine ⟨by rw [List.length_set, List.length_set]; exact a1, b1, b2, fun k w hk hw => ?_, fun k w hk hw => ?_⟩
  · rcases hget k w hk with ⟨rfl, rfl⟩ | ⟨rfl, rfl⟩ | ⟨h2, h1, hk⟩
    · exact absurd rfl hw
    · exact b3 _ List.mem_cons_self
    · refine b3 (k, rvV b B0 w) (List.mem_cons_of_mem _ (List.mem_filter.mpr ⟨al_of hk hw, ?_⟩))
      have e1 : (k == i) = false := by simp [h2]
      have e2 : (k == i + 1) = false := by simp [h1]
      have e3 : (k + 1 == i && (rvV b B0 w).category == 2) = false := by
        rw [rvV_cat]
        by_cases hk2 : k + 1 = i
        · have : ¬ w.category = 2 := fun q => hb k hk2 (a5 k w hk q)
          simp [this]
        · simp [hk2]
      simp only [e1, e2, e3]
      rfl
  · rcases hget k w hk with ⟨rfl, rfl⟩ | ⟨rfl, rfl⟩ | ⟨h2, h1, hk⟩
    · cases hw
    · exact him
    · exact a5 k w hk hw
theorem lay_len : ∀ (vs : List Value), (lay vs).length = (lg_sl vs).length
  | [] => rfl
  | v :: t => by
    simp only [lay, lg_sl, List.flatMap_cons, List.length_append]
    have := lay_len t
    simp only [lg_sl] at this
    by_cases h : v.category = 2
    · simp only [if_pos h, List.length_cons, List.length_nil, this]
      omega
    · simp only [if_neg h, List.length_cons, List.length_nil, this]
      omega
theorem lg_map {b B0 : Nat} : ∀ (vs : List Value), (lg_sl (vs.map (rvV b B0))).length = (lg_sl vs).length
  | [] => rfl
  | v :: t => by
    have := lg_map (b := b) (B0 := B0) t
    simp only [lg_sl] at this
    simp only [lg_sl, List.map_cons, List.flatMap_cons, List.length_append, rvV_cat, this]
    by_cases h : v.category = 2
    · simp only [if_pos h, List.length_cons, List.length_nil]
    · simp only [if_neg h, List.length_cons, List.length_nil]
theorem lay_args {b B0 : Nat} : ∀ (vs : List Value) (n k : Nat) (v : Value), (lay vs)[k]? = some v → v ≠ vJ → (n + k, rvV b B0 v) ∈ lv_args n (vs.map (rvV b B0))
  | [], n, k, v, h, _ => by simp [lay] at h
  | w :: t, n, k, v, h, hv => by
    simp only [lay] at h
    simp only [List.map_cons, lv_args, rvV_cat]
    by_cases hc : w.category = 2
    · rw [if_pos hc] at h
      rw [if_pos hc]
      match k, h with
      | 0, h => cases h; exact List.mem_cons_self
      | 1, h => cases h; exact absurd rfl hv
      | k + 2, h =>
        have := lay_args (b := b) (B0 := B0) t (n + 2) k v (by simpa using h) hv
        rw [show n + (k + 2) = n + 2 + k by omega]
        exact List.mem_cons_of_mem _ this
    · rw [if_neg hc] at h
      rw [if_neg hc]
      match k, h with
      | 0, h => cases h; exact List.mem_cons_self
      | k + 1, h =>
        have := lay_args (b := b) (B0 := B0) t (n + 1) k v (by simpa using h) hv
        rw [show n + (k + 1) = n + 1 + k by omega]
        exact List.mem_cons_of_mem _ this
theorem noLg_spec {ll : List Nat} : ∀ (vs : List Value) (n : Nat), noLg ll n vs = true → ∀ (k : Nat) (v : Value), vs[k]? = some v → v.category = 2 → n + k ∈ ll
  | [], n, _, k, v, h, _ => by simp at h
  | w :: t, n, hn, k, v, h, hv => by
    simp only [noLg, Bool.and_eq_true, Bool.or_eq_true] at hn
    match k, h with
    | 0, h =>
      cases h
      rcases hn.1 with q | q
      · simp [hv] at q
      · rw [List.contains_eq_mem] at q
        simpa using q
    | k + 1, h =>
      have := noLg_spec t (n + 1) hn.2 k v (by simpa using h) hv
      rw [show n + (k + 1) = n + 1 + k by omega]
      exact this
theorem LR.entry {b B0 : Nat} {y : vMD} {vs : List Value} (h : entOK y vs = true) {ls : Array Slot}
    (hl : lv_has ls (mnl y) (lv_args 0 (vs.map (rvV b B0)))) : LR b B0 y (entL (mnl y) vs) ls := by
  simp only [entOK, Bool.and_eq_true, decide_eq_true_eq] at h
  obtain ⟨h1, h2⟩ := h
  refine ⟨by unfold entL; rw [List.length_append, List.length_replicate]; omega, hl.1, hl.2.1, fun k v hk hv => ?_, fun k v hk hv => ?_⟩
  · unfold entL at hk
    rcases Nat.lt_or_ge k (lay vs).length with q | q
    · rw [List.getElem?_append_left q] at hk
      have := lay_args (b := b) (B0 := B0) vs 0 k v hk hv
      rw [Nat.zero_add] at this
      exact hl.2.2 _ this
    · rw [List.getElem?_append_right q] at hk
      exact absurd (List.eq_of_mem_replicate (List.mem_of_getElem? hk)) hv
  · have := noLg_spec _ 0 h2 k v hk hv
    rwa [Nat.zero_add] at this
end
section
/-! SOUNDNESS: what the abstract machine runs, the machine walks -/
def KF (b Lx : Nat) (xs : Nat → Int32) (Dg : va_G) (cy : Nat → ClassId) (U : State) : Prop :=
  va_K Dg vwCl [(cy 8, .int), (cy 9, .boolean), (cy 10, .object RX0), (cy 11, .object RX2), (cy 12, .object RX5)] U ∧ (va_AO RX0 U ∧ va_AO RX2 U ∧ va_AO RX5 U) ∧ (∀ q ∈ nestL, va_Nw (.methodLinkNest (RN q.1) q.2.1 q.2.2 "MendingMornings") U) ∧ va_X b Lx xs U U.heap
theorem KF.moved {b Lx : Nat} {xs : Nat → Int32} {Dg : va_G} {cy : Nat → ClassId} {u U : State} (h : KF b Lx xs Dg cy u) (hW : u.WarmedH U.vm) (hh : U.heap[b]? = u.heap[b]?) : KF b Lx xs Dg cy U :=
  ⟨h.1.moved hW.alike, ⟨h.2.1.1.moved hW.alike, h.2.1.2.1.moved hW.alike, h.2.1.2.2.moved hW.alike⟩, fun q hq => va_Nw.warmM hW (h.2.2.1 q hq), (h.2.2.2.moved hW.alike).kept hh⟩
theorem KF.blind {b Lx : Nat} {xs : Nat → Int32} {Dg : va_G} {cy : Nat → ClassId} {U : State} (h : KF b Lx xs Dg cy U) (g : JFrame) (mk : MethodId) (a : Array Value) : KF b Lx xs Dg cy (U.calling g mk a) :=
  ⟨va_K.moved (u := U) (U := U.calling g mk a) (Vm.Alike.refl U.vm) h.1, ⟨va_AO.moved (u := U) (U := U.calling g mk a) (Vm.Alike.refl U.vm) h.2.1.1, va_AO.moved (u := U) (U := U.calling g mk a) (Vm.Alike.refl U.vm) h.2.1.2.1, va_AO.moved (u := U) (U := U.calling g mk a) (Vm.Alike.refl U.vm) h.2.1.2.2⟩,
    fun q hq => va_Nw.same (u := U) (U := U.calling g mk a) rfl rfl (h.2.2.1 q hq), (va_X.moved (u := U) (U := U.calling g mk a) (Vm.Alike.refl U.vm) h.2.2.2).kept rfl⟩
def CX (b Lx : Nat) (xs : Nat → Int32) (Dg : va_G) (cy : Nat → ClassId) (B0 : Nat) (y : vMD) (p : Program) (R : Room) (s : State) (m : MethodId) (args : Array Value) (meth : Method) (c : Code) : Prop :=
  (p.tables.exec = Jvm.exec ∧ c.code = mbc y ∧ meth.sig.returnType = mrt y ∧ c.maxLocals = mnl y) ∧ (s.vm.findClass (RN (mow y)) = some m.cls ∧ (∀ w ∈ BG, w.before args s = true) ∧ meth.locks = false ∧ ((mym y).name = "<init>" → meth.name = "<init>")) ∧ KF b Lx xs Dg cy s ∧ (mht y ≤ R.frames ∧ 31 * mht y ≤ R.locals) ∧ b ≤ B0 ∧ B0 + 1 ≤ s.heap.size
abbrev AA (B0 : Nat) : Nat → Prop := fun q => B0 + 1 ≤ q
theorem BG_in {args : Array Value} {s : State} {C : String} {T : u_T} {N : Nat} (h : ∀ w ∈ BG, w.before args s = true) : ∀ w ∈ BG, w.before args s = true := h
section SND
variable {p : Program} {l : Launch} {e : Env} {R : Room} {s : State} {m : MethodId} {args : Array Value} {below : List Frame} {meth : Method} {c : Code} {H : Heap} {locs : List Loc} {cells slots : Nat} {Q : State → Prop}
variable {b Lx B0 pc : Nat} {xs : Nat → Int32} {Dg : va_G} {cy : Nat → ClassId} {y : vMD} {D : vDD} {mm : vMM} {z : vZZ} {ls : Array Slot} {L : List Value} {rest : List Value}
/-- getfield -/
theorem sd_get (C : CX b Lx xs Dg cy B0 y p R s m args meth c) (hH : HR b B0 Lx xs Dg cy D mm z H) {a ci j idx : Nat} (hk : (D a).1 = ci) (hf : fOK (mow y) (idx, ci, j)) (hdg : decode (mbc y) pc = .ok (.getfield idx, 3))
    (kk : W p l e R s m args below meth c H locs cells slots Q (F0 m (pc + 3) ls (vv b B0 (D a) (mm a) j :: rest))) : W p l e R s m args below meth c H locs cells slots Q (F0 m pc ls (.ref (ad b B0 a) :: rest)) := by
  obtain ⟨hci, hj, hw⟩ := hf
  dsimp only at hci hj hw
  have hin := hH.in (a := a) (by omega)
  rw [hin.2.2]
  rcases hH.2.2.2 a hin.1 hin.2.1 with ⟨-, hob⟩ | ⟨h8, -, -⟩
  · rw [hk] at hob
    obtain ⟨cell, q1, q2, q3, q4⟩ := hob
    obtain ⟨⟨hx, hb, -, -⟩, ⟨hown, hts, -, -⟩, hKF, -⟩ := C
    obtain ⟨hS, hfc, kC, hkC, hkind⟩ := hKF.1.1 ci _ (nk_cl ci hci)
    obtain ⟨cf, kf, fi, f, hi, hsl⟩ := hS j hj
    refine W.getf hx hb hown (hts _ hw) hi (u_facts hfc hkC (u_lays hts (nk_in ci hci) hj) hi).1 q1 (by rw [q3]; exact fun h => by cases h) (v := vv b B0 (D a) (mm a) j) ?_ rfl rfl hdg kk
    rw [hsl]
    exact q4 j hj
  · omega
theorem sd_ap (hts : ∀ w ∈ BG, w.before args s = true) (hK : KF b Lx xs Dg cy s) {ci : Nat} (hci : ci < 8) : ∀ x y, x < NN ci → y < NN ci → x ≠ y → (Dg.2 ci) x ≠ (Dg.2 ci) y :=
  va_apart (own := "") hts (nk_in ci hci) (tyN ci) (nk_ty ci hci) (nk_nm ci hci) hK.1 (nk_cl ci hci)
/-- putfield -/
theorem sd_put (C : CX b Lx xs Dg cy B0 y p R s m args meth c) (hH : HR b B0 Lx xs Dg cy D mm z H) (hS0 : va_S (AA B0) s.heap H locs) {a ci j idx : Nat} (hk : (D a).1 = ci) (hf : fOK (mow y) (idx, ci, j)) {v : Value} {D1 : vDD} {m1 : vMM}
    (hfin : (TN ci j).2.2.2 = false ∨ ((mym y).name = "<init>" ∧ (TN ci j).1 = RN (mow y))) (hn : narrow (tyN ci j) v = v) (hfit : fits (tyN ci j) v = true) (hDa : D1 a = D a ∨ ((D1 a).1 = (D a).1))
    (hD : ∀ q, q ≠ a → D1 q = D q) (hm : ∀ q, q ≠ a → m1 q = mm q) (hv : ∀ i, vv b B0 (D1 a) (m1 a) i = updV (vv b B0 (D a) (mm a)) j v i) (hdg : decode (mbc y) pc = .ok (.putfield idx, 3))
    (kk : ∀ (H1 : Heap) (locs1 : List Loc), HR b B0 Lx xs Dg cy D1 m1 z H1 → va_S (AA B0) s.heap H1 locs1 → W p l e R s m args below meth c H1 locs1 cells slots Q (F0 m (pc + 3) ls rest)) : W p l e R s m args below meth c H locs cells slots Q (F0 m pc ls (v :: .ref (ad b B0 a) :: rest)) := by
  obtain ⟨hci, hj, hw⟩ := hf
  dsimp only at hci hj hw
  have hin := hH.in (a := a) (by omega)
  rw [hin.2.2]
  have hk1 : (D1 a).1 = ci := by rcases hDa with q | q <;> rw [q] <;> exact hk
  rcases hH.2.2.2 a hin.1 hin.2.1 with ⟨-, hob⟩ | ⟨h8, -, -⟩
  · rw [hk] at hob
    obtain ⟨cell, q1, q2, q3, q4⟩ := hob
    obtain ⟨⟨hx, hb, -, -⟩, ⟨hown, hts, -, hini⟩, hKF, -⟩ := C
    have hap := sd_ap hts hKF hci
    obtain ⟨hS, hfc, kC, hkC, hkind⟩ := hKF.1.1 ci _ (nk_cl ci hci)
    obtain ⟨cf, kf, fi, f, hi, hsl⟩ := hS j hj
    have hlay := hts _ (nk_in ci hci _ (u_in_lay hj))
    have hst := (u_facts hfc hkC (u_lays hts (nk_in ci hci) hj) hi).1
    have hd := nk_ty ci hci j hj
    have go : ∀ H' : Heap, H'[B0 + a]? = some (cell.setSlot f.slot v) → H'.size = H.size → (∀ q, q ≠ B0 + a → H'[q]? = H[q]?) → W p l e R s m args below meth c H' (locs ++ [⟨B0 + a, f.slot⟩]) cells slots Q { F0 m pc ls (v :: .ref (B0 + a) :: rest) with pc := (F0 m pc ls (v :: .ref (B0 + a) :: rest)).pc + 3, stack := rest } := by
      intro H' e1 e2 e3
      rw [hsl] at e1 ⊢
      refine kk H' _ (hH.put hin.1 hin.2.1 e2 e3 hD hm (Or.inl ⟨by omega, ?_⟩)) (hS0.put e2 e3 (by show B0 + 1 ≤ B0 + a; omega))
      rw [hk1]
      exact t_OB.to (V := updV (vv b B0 (D a) (mm a)) j v) ⟨_, e1, q2, q3, t_set q4 hap hj v⟩ (fun i _ => (hv i).symm)
    by_cases hff : (TN ci j).2.2.2 = true
    · obtain ⟨hnm, hdecl⟩ := hfin.resolve_left (by rw [hff]; decide)
      unfold u_lay at hlay
      rw [if_pos hff] at hlay
      have hcf : m.cls = cf := by
        obtain ⟨_, _, c', _, _, _, -, -, hf', -, -, -, hown2, -⟩ := Cond.laysFinal_spec hlay
        have e1 : c' = cf := by have := hi.symm.trans hf'; simp at this; exact this.1.symm
        rw [hdecl] at hown2
        rw [← e1]; exact Option.some.inj (hown.symm.trans hown2)
      have h6 := u_fits hfc hkC hkind (Or.inr hlay) hi hd hn hfit
      exact W.putFinK hx hb hown (hts _ hw) hi hst hcf (hini hnm) (by rw [q2]; exact h6) q1 q3 (by rw [hsl]; exact k2_hasslot (q4 j hj)) rfl rfl hdg go
    · unfold u_lay at hlay
      rw [if_neg hff] at hlay
      have h6 := u_store hfc hkC hkind hlay hi hd hn hfit
      exact W.putK hx hb (f := f) ⟨hown, hts _ hw, ⟨_, _, _, hi⟩, hst⟩ (by rw [q2]; exact h6) q1 q3 (by rw [hsl]; exact k2_hasslot (q4 j hj)) rfl rfl hdg go
  · omega
theorem sd_arr (hH : HR b B0 Lx xs Dg cy D mm z H) {a : Nat} (h8 : 8 ≤ (D a).1) (h12 : (D a).1 ≤ 12) : 1 ≤ a ∧ a < z.1 ∧ ad b B0 a = B0 + a ∧ H[B0 + a]? = some (arrV (cy (D a).1) (D a).2.1 (vv b B0 (D a) (mm a))) := by
  have hin := hH.in (a := a) h12
  refine ⟨hin.1, hin.2.1, hin.2.2, ?_⟩
  rcases hH.2.2.2 a hin.1 hin.2.1 with ⟨h, -⟩ | ⟨-, -, h⟩
  · omega
  · exact h
theorem inB_spec {i : Int32} {n : Nat} (h : inB i n = true) : ¬ (i < 0 ∨ n ≤ i.toNatClampNeg) := by
  simp only [inB, Bool.not_eq_true', Bool.or_eq_false_iff, decide_eq_false_iff_not] at h
  intro q
  rcases q with q | q
  · exact h.1 q
  · exact h.2 q
theorem inB_arr {cA : ClassId} {f : Nat → Value} {i : Int32} {n : Nat} (h : inB i n = true) : ¬ (i < 0 ∨ (arrV cA n f).slots.size ≤ i.toNatClampNeg) := by
  rw [arrV_size]
  exact inB_spec h
theorem inB_lt {i : Int32} {n : Nat} (h : inB i n = true) : i.toNatClampNeg < n := Nat.not_le.mp fun q => inB_spec h (Or.inr q)
theorem vv_int {d : Nat × Nat × (Nat → Option Nat)} {g : Nat → Int32} {j : Nat} (h : rT d.1 j = false) : vv b B0 d g j = .int (g j) := by
  unfold vv
  rw [h]
  rfl
theorem vv_ref {d : Nat × Nat × (Nat → Option Nat)} {g : Nat → Int32} {j r : Nat} (h : rT d.1 j = true) (hr : d.2.2 j = some r) : vv b B0 d g j = .ref (ad b B0 r) := by
  unfold vv
  rw [h, hr]
  rfl
theorem rT_8 (j : Nat) : rT 8 j = false := rfl
theorem rT_9 (j : Nat) : rT 9 j = false := rfl
theorem rT_hi {k : Nat} (h : 10 ≤ k) (j : Nat) : rT k j = true := by
  unfold rT
  rw [if_neg (by omega), if_neg (by omega)]
theorem sd_iald (C : CX b Lx xs Dg cy B0 y p R s m args meth c) (hH : HR b B0 Lx xs Dg cy D mm z H) (hS0 : va_S (AA B0) s.heap H locs) {a : Nat} {i : Int32} (hk : (D a).1 = 8 ∨ (D a).1 = 20) (hi : inB i (D a).2.1 = true) (hdg : decode (mbc y) pc = .ok (.iaload, 1))
    (kk : W p l e R s m args below meth c H locs cells slots Q (F0 m (pc + 1) ls (.int (mm a i.toNatClampNeg) :: rest))) : W p l e R s m args below meth c H locs cells slots Q (F0 m pc ls (.int i :: .ref (ad b B0 a) :: rest)) := by
  obtain ⟨⟨hx, hb, -, -⟩, ⟨hown, hts, -, -⟩, hKF, -, hbB, hsB⟩ := C
  rcases hk with hk | hk
  · obtain ⟨-, -, e1, e2⟩ := sd_arr hH (a := a) (by omega) (by omega)
    rw [e1]
    refine W.iald (v := .int (mm a i.toNatClampNeg)) hx hb e2 (by rw [hk]; exact (hKF.1.2 0 _ rfl).1 _ _) (fun q => by cases q) (inB_arr hi) ?_ rfl rfl hdg kk
    rw [arrV_read _ _ (inB_lt hi), vv_int (by rw [hk]; exact rT_8 _)]
  · have ha : a = 0 := by
      rcases Nat.eq_zero_or_pos a with q | q
      · exact q
      · rcases Nat.lt_or_ge a z.1 with q2 | q2
        · rcases hH.2.2.2 a q q2 with ⟨h, -⟩ | ⟨-, h, -⟩ <;> omega
        · have := hH.2.2.1 a q2
          omega
    subst ha
    have e1 : ad b B0 0 = b := rfl
    rw [e1]
    obtain ⟨-, h2, h3⟩ := hH.2.1
    rw [h3] at kk
    exact va_sld hx hb hKF.2.2.2 (by omega) (by show ¬ B0 + 1 ≤ b; omega) hS0 (by rw [← h2]; exact inB_spec hi) hdg kk
theorem sd_alen (C : CX b Lx xs Dg cy B0 y p R s m args meth c) (hH : HR b B0 Lx xs Dg cy D mm z H) (hS0 : va_S (AA B0) s.heap H locs) {a : Nat} (hk : (D a).1 = 20) (hdg : decode (mbc y) pc = .ok (.arraylength, 1))
    (kk : W p l e R s m args below meth c H locs cells slots Q (F0 m (pc + 1) ls (.int (Int32.ofNat (D a).2.1) :: rest))) : W p l e R s m args below meth c H locs cells slots Q (F0 m pc ls (.ref (ad b B0 a) :: rest)) := by
  obtain ⟨⟨hx, hb, -, -⟩, ⟨hown, hts, -, -⟩, hKF, -, hbB, hsB⟩ := C
  have ha : a = 0 := by
    rcases Nat.eq_zero_or_pos a with q | q
    · exact q
    · rcases Nat.lt_or_ge a z.1 with q2 | q2
      · rcases hH.2.2.2 a q q2 with ⟨h, -⟩ | ⟨-, h, -⟩ <;> omega
      · have := hH.2.2.1 a q2
        omega
  subst ha
  have e1 : ad b B0 0 = b := rfl
  rw [e1]
  obtain ⟨-, h2, h3⟩ := hH.2.1
  rw [h2] at kk
  exact va_slen hx hb hKF.2.2.2 (by omega) (by show ¬ B0 + 1 ≤ b; omega) hS0 hdg kk
theorem sd_bald (C : CX b Lx xs Dg cy B0 y p R s m args meth c) (hH : HR b B0 Lx xs Dg cy D mm z H) {a : Nat} {i : Int32} (hk : (D a).1 = 9) (hi : inB i (D a).2.1 = true) (hdg : decode (mbc y) pc = .ok (.baload, 1))
    (kk : W p l e R s m args below meth c H locs cells slots Q (F0 m (pc + 1) ls (.int (mm a i.toNatClampNeg) :: rest))) : W p l e R s m args below meth c H locs cells slots Q (F0 m pc ls (.int i :: .ref (ad b B0 a) :: rest)) := by
  obtain ⟨⟨hx, hb, -, -⟩, ⟨hown, hts, -, -⟩, hKF, -⟩ := C
  obtain ⟨-, -, e1, e2⟩ := sd_arr hH (a := a) (by omega) (by omega)
  rw [e1]
  refine W.zald (v := .int (mm a i.toNatClampNeg)) hx hb e2 (by rw [hk]; exact (hKF.1.2 1 _ rfl).1 _ _) (fun q => by cases q) (inB_arr hi) ?_ rfl rfl hdg kk
  rw [arrV_read _ _ (inB_lt hi), vv_int (by rw [hk]; exact rT_9 _)]
theorem KF.ref (h : KF b Lx xs Dg cy s) {k : Nat} (h10 : 10 ≤ k) (h12 : k ≤ 12) : elK k < 8 ∧ ArrOfT s (cy k) (.object (RN (elK k))) ∧ va_RA s (cy k) (.object (RN (elK k))) := by
  rcases (by omega : k = 10 ∨ k = 11 ∨ k = 12) with rfl | rfl | rfl
  · exact ⟨by decide, h.1.2 2 _ rfl⟩
  · exact ⟨by decide, h.1.2 3 _ rfl⟩
  · exact ⟨by decide, h.1.2 4 _ rfl⟩
theorem sd_aald (C : CX b Lx xs Dg cy B0 y p R s m args meth c) (hH : HR b B0 Lx xs Dg cy D mm z H) {a r : Nat} {i : Int32} (h10 : 10 ≤ (D a).1) (h12 : (D a).1 ≤ 12) (hi : inB i (D a).2.1 = true) (hr : (D a).2.2 i.toNatClampNeg = some r) (hdg : decode (mbc y) pc = .ok (.aaload, 1))
    (kk : W p l e R s m args below meth c H locs cells slots Q (F0 m (pc + 1) ls (.ref (ad b B0 r) :: rest))) : W p l e R s m args below meth c H locs cells slots Q (F0 m pc ls (.int i :: .ref (ad b B0 a) :: rest)) := by
  obtain ⟨⟨hx, hb, -, -⟩, ⟨hown, hts, -, -⟩, hKF, -⟩ := C
  obtain ⟨-, -, e1, e2⟩ := sd_arr hH (a := a) (by omega) h12
  rw [e1]
  refine W.aald (v := .ref (ad b B0 r)) hx hb e2 ((hKF.ref h10 h12).2.1 _ _) rfl (fun q => by cases q) (inB_arr hi) ?_ rfl rfl hdg kk
  rw [arrV_read _ _ (inB_lt hi), vv_ref (rT_hi h10 _) hr]
theorem up2_ne {q a k : Nat} {x : Int32} (h : q ≠ a) : up2 mm a k x q = mm q := by unfold up2; rw [if_neg h]
theorem up2_eq {a k : Nat} {x : Int32} : up2 mm a k x a = upd (mm a) k x := by unfold up2; rw [if_pos rfl]
theorem upR_ne {q a k : Nat} {r : Option Nat} (h : q ≠ a) : upR D a k r q = D q := by unfold upR; rw [if_neg h]
theorem upR_eq {a k : Nat} {r : Option Nat} : upR D a k r a = ((D a).1, (D a).2.1, fun j => if j = k then r else (D a).2.2 j) := by unfold upR; rw [if_pos rfl]
theorem vv_upd {d : Nat × Nat × (Nat → Option Nat)} {g : Nat → Int32} {k : Nat} {x : Int32} (h : rT d.1 k = false) (i : Nat) : vv b B0 d (upd g k x) i = updV (vv b B0 d g) k (.int x) i := by
  unfold updV
  by_cases hi : i = k
  · subst hi
    rw [if_pos rfl, vv_int h]
    simp [upd]
  · rw [if_neg hi]
    unfold vv
    simp [upd, hi]
theorem vv_upR {g : Nat → Int32} {a k r : Nat} (h : rT (D a).1 k = true) (i : Nat) : vv b B0 (upR D a k (some r) a) g i = updV (vv b B0 (D a) g) k (.ref (ad b B0 r)) i := by
  rw [upR_eq]
  unfold updV
  by_cases hi : i = k
  · subst hi
    rw [if_pos rfl]
    exact vv_ref h (if_pos rfl)
  · rw [if_neg hi]
    unfold vv
    simp [hi]
theorem sd_iast (C : CX b Lx xs Dg cy B0 y p R s m args meth c) (hH : HR b B0 Lx xs Dg cy D mm z H) (hS0 : va_S (AA B0) s.heap H locs) {a : Nat} {i x : Int32} (hk : (D a).1 = 8) (hi : inB i (D a).2.1 = true) (hdg : decode (mbc y) pc = .ok (.iastore, 1))
    (kk : ∀ (H1 : Heap) (locs1 : List Loc), HR b B0 Lx xs Dg cy D (up2 mm a i.toNatClampNeg x) z H1 → va_S (AA B0) s.heap H1 locs1 → W p l e R s m args below meth c H1 locs1 cells slots Q (F0 m (pc + 1) ls rest)) : W p l e R s m args below meth c H locs cells slots Q (F0 m pc ls (.int x :: .int i :: .ref (ad b B0 a) :: rest)) := by
  obtain ⟨⟨hx, hb, -, -⟩, ⟨hown, hts, -, -⟩, hKF, -⟩ := C
  obtain ⟨g1, g2, e1, e2⟩ := sd_arr hH (a := a) (by omega) (by omega)
  rw [e1]
  refine W.iast hx hb e2 (by rw [hk]; exact (hKF.1.2 0 _ rfl).1 _ _) (fun q => by cases q) (inB_arr hi) rfl rfl hdg fun H1 f1 f2 f3 => ?_
  refine kk H1 _ (hH.put g1 g2 f2 f3 (fun _ _ => rfl) (fun q hq => up2_ne hq) (Or.inr ⟨by omega, by omega, ?_⟩)) (hS0.put f2 f3 (by show B0 + 1 ≤ B0 + a; omega))
  rw [f1, arrV_store, up2_eq]
  congr 2
  funext q
  exact (vv_upd (by rw [hk]; exact rT_8 _) q).symm
theorem sd_bast (C : CX b Lx xs Dg cy B0 y p R s m args meth c) (hH : HR b B0 Lx xs Dg cy D mm z H) (hS0 : va_S (AA B0) s.heap H locs) {a : Nat} {i x : Int32} (hk : (D a).1 = 9) (hi : inB i (D a).2.1 = true) (hfx : fits .boolean (.int x) = true) (hdg : decode (mbc y) pc = .ok (.bastore, 1))
    (kk : ∀ (H1 : Heap) (locs1 : List Loc), HR b B0 Lx xs Dg cy D (up2 mm a i.toNatClampNeg x) z H1 → va_S (AA B0) s.heap H1 locs1 → W p l e R s m args below meth c H1 locs1 cells slots Q (F0 m (pc + 1) ls rest)) : W p l e R s m args below meth c H locs cells slots Q (F0 m pc ls (.int x :: .int i :: .ref (ad b B0 a) :: rest)) := by
  obtain ⟨⟨hx, hb, -, -⟩, ⟨hown, hts, -, -⟩, hKF, -⟩ := C
  obtain ⟨g1, g2, e1, e2⟩ := sd_arr hH (a := a) (by omega) (by omega)
  rw [e1]
  have hn : narrow .boolean (.int x) = .int x := by
    simp only [fits, Bool.or_eq_true, beq_iff_eq] at hfx
    rcases hfx with rfl | rfl <;> rfl
  refine W.zast hx hb e2 (by rw [hk]; exact (hKF.1.2 1 _ rfl).1 _ _) (fun q => by cases q) (inB_arr hi) rfl rfl hdg fun H1 f1 f2 f3 => ?_
  refine kk H1 _ (hH.put g1 g2 f2 f3 (fun _ _ => rfl) (fun q hq => up2_ne hq) (Or.inr ⟨by omega, by omega, ?_⟩)) (hS0.put f2 f3 (by show B0 + 1 ≤ B0 + a; omega))
  rw [f1, hn, arrV_store, up2_eq]
  congr 2
  funext q
  exact (vv_upd (by rw [hk]; exact rT_9 _) q).symm
theorem sd_aast (C : CX b Lx xs Dg cy B0 y p R s m args meth c) (hH : HR b B0 Lx xs Dg cy D mm z H) (hS0 : va_S (AA B0) s.heap H locs) {a r : Nat} {i : Int32} (h10 : 10 ≤ (D a).1) (h12 : (D a).1 ≤ 12) (hi : inB i (D a).2.1 = true) (hr : (D r).1 = elK (D a).1) (hdg : decode (mbc y) pc = .ok (.aastore, 1))
    (kk : ∀ (H1 : Heap) (locs1 : List Loc), HR b B0 Lx xs Dg cy (upR D a i.toNatClampNeg (some r)) mm z H1 → va_S (AA B0) s.heap H1 locs1 → W p l e R s m args below meth c H1 locs1 cells slots Q (F0 m (pc + 1) ls rest)) : W p l e R s m args below meth c H locs cells slots Q (F0 m pc ls (.ref (ad b B0 r) :: .int i :: .ref (ad b B0 a) :: rest)) := by
  obtain ⟨⟨hx, hb, -, -⟩, ⟨hown, hts, -, -⟩, hKF, -⟩ := C
  obtain ⟨g1, g2, e1, e2⟩ := sd_arr hH (a := a) (by omega) h12
  obtain ⟨hel, hA1, hA2⟩ := hKF.ref h10 h12
  have hr8 : (D r).1 < 8 := by rw [hr]; exact hel
  have hin := hH.in (a := r) (by omega)
  rw [e1, hin.2.2]
  rcases hH.2.2.2 r hin.1 hin.2.1 with ⟨-, hob⟩ | ⟨h8, -, -⟩
  · obtain ⟨cellV, q1, q2, q3, -⟩ := hob
    rw [hr] at q2
    have hcls := (hKF.1.1 (elK (D a).1) _ (nk_cl _ hel)).2
    obtain ⟨kA, comp, k1, k2, k3, -⟩ := hA2
    have hcomp : comp = Dg.1 (elK (D a).1) := Option.some.inj (k3.symm.trans hcls.1)
    subst hcomp
    obtain ⟨kC, hkC, -⟩ := hcls.2
    refine W.aast hx hb e2 (fun q h => by cases h) (fun h => by cases h) k1 k2 rfl hkC ⟨fun q => inB_spec hi (Or.inl q), by rw [arrV_size]; exact inB_lt hi⟩ q1 (fun q h => by rw [q3] at h; cases h) (by rw [q2]; exact hkC) (by rw [q2]; exact va_assign hcls) rfl rfl hdg fun H1 f1 f2 f3 => ?_
    refine kk H1 _ (hH.put g1 g2 f2 f3 (fun q hq => upR_ne hq) (fun _ _ => rfl) (Or.inr ⟨by rw [upR_eq]; show 8 ≤ (D a).1; omega, by rw [upR_eq]; exact h12, ?_⟩)) (hS0.put f2 f3 (by show B0 + 1 ≤ B0 + a; omega))
    rw [f1, arrV_store]
    have e3 : upR D a i.toNatClampNeg (some r) a = ((D a).1, (D a).2.1, fun j => if j = i.toNatClampNeg then some r else (D a).2.2 j) := upR_eq
    have e4 : (updV (vv b B0 (D a) (mm a)) i.toNatClampNeg (.ref (ad b B0 r))) = vv b B0 (upR D a i.toNatClampNeg (some r) a) (mm a) := by
      funext q
      exact (vv_upR (rT_hi h10 _) q).symm
    rw [hin.2.2] at e4
    rw [e4, e3]
  · omega
theorem sd_new (C : CX b Lx xs Dg cy B0 y p R s m args meth c) (hH : HR b B0 Lx xs Dg cy D mm z H) (hS0 : va_S (AA B0) s.heap H locs) {idx k : Nat} (hk : kOK (mow y) (idx, k)) (hcells : cells + 1 ≤ R.cells) (hslots : slots + NN k ≤ R.slots) (hdg : decode (mbc y) pc = .ok (.new idx, 3))
    (kk : ∀ (H1 : Heap), HR b B0 Lx xs Dg cy (nwD D z.1 (k, 0, fun _ => none)) (nwM mm z.1) (z.1 + 1, z.2 + NN k) H1 → va_S (AA B0) s.heap H1 locs → W p l e R s m args below meth c H1 locs (cells + 1) (slots + NN k) Q (F0 m (pc + 3) ls (.ref (ad b B0 z.1) :: rest))) : W p l e R s m args below meth c H locs cells slots Q (F0 m pc ls rest) := by
  obtain ⟨⟨hx, hb, -, -⟩, ⟨hown, hts, -, -⟩, hKF, -⟩ := C
  obtain ⟨hk8, hw⟩ := hk
  dsimp only at hk8 hw
  have hKn := hKF.1.1 k _ (nk_cl k hk8)
  obtain ⟨⟨q1, q2, q3⟩, -⟩ := id hH
  refine W.newcK hx hb hown (hts _ hw) (hts _ (nk_mk k hk8).1) (hts _ (nk_mk k hk8).2) rfl hdg hcells hslots hKn.2.1 rfl fun H1 kC hkC e1 z1 o1 => ?_
  have hadz : ad b B0 z.1 = H.size := by rw [ad_pos q1, q2]
  rw [hadz] at kk
  refine kk H1 (hH.new z1 o1 (Or.inl ⟨hk8, ?_⟩) _) ⟨Nat.le_trans hS0.1 (by omega), fun x h1 h2 => (o1 x (Nat.lt_of_lt_of_le h1 hS0.1)).trans (hS0.2.1 x h1 h2), hS0.2.2⟩
  rw [← q2]
  refine (u_born (tyN k) hts (nk_in k hk8) hKn hkC e1 (nk_ty k hk8)).to (fun j hj => ?_)
  unfold vv
  show defaultValue (tyN k j) = if rT k j = true then va_rf (Option.map (ad b B0) none) else .int 0
  unfold rT
  rw [if_pos hk8]
  revert hj
  rcases (by omega : k = 0 ∨ k = 1 ∨ k = 2 ∨ k = 3 ∨ k = 4 ∨ k = 5 ∨ k = 6 ∨ k = 7) with rfl | rfl | rfl | rfl | rfl | rfl | rfl | rfl <;> intro hj <;> simp only [NN] at hj
  · rcases (by omega : j = 0 ∨ j = 1 ∨ j = 2 ∨ j = 3 ∨ j = 4 ∨ j = 5) with rfl | rfl | rfl | rfl | rfl | rfl <;> rfl
  · rcases (by omega : j = 0 ∨ j = 1) with rfl | rfl <;> rfl
  · rcases (by omega : j = 0 ∨ j = 1 ∨ j = 2 ∨ j = 3 ∨ j = 4 ∨ j = 5 ∨ j = 6 ∨ j = 7 ∨ j = 8) with rfl | rfl | rfl | rfl | rfl | rfl | rfl | rfl | rfl <;> rfl
  · rcases (by omega : j = 0 ∨ j = 1 ∨ j = 2 ∨ j = 3 ∨ j = 4) with rfl | rfl | rfl | rfl | rfl <;> rfl
  · rcases (by omega : j = 0 ∨ j = 1 ∨ j = 2 ∨ j = 3) with rfl | rfl | rfl | rfl <;> rfl
  · rcases (by omega : j = 0 ∨ j = 1 ∨ j = 2 ∨ j = 3 ∨ j = 4 ∨ j = 5 ∨ j = 6 ∨ j = 7 ∨ j = 8) with rfl | rfl | rfl | rfl | rfl | rfl | rfl | rfl | rfl <;> rfl
  · rcases (by omega : j = 0 ∨ j = 1 ∨ j = 2 ∨ j = 3 ∨ j = 4 ∨ j = 5 ∨ j = 6) with rfl | rfl | rfl | rfl | rfl | rfl | rfl <;> rfl
  · rcases (by omega : j = 0 ∨ j = 1 ∨ j = 2 ∨ j = 3 ∨ j = 4 ∨ j = 5 ∨ j = 6 ∨ j = 7 ∨ j = 8 ∨ j = 9 ∨ j = 10 ∨ j = 11 ∨ j = 12 ∨ j = 13 ∨ j = 14 ∨ j = 15 ∨ j = 16 ∨ j = 17 ∨ j = 18 ∨ j = 19 ∨ j = 20) with rfl | rfl | rfl | rfl | rfl | rfl | rfl | rfl | rfl | rfl | rfl | rfl | rfl | rfl | rfl | rfl | rfl | rfl | rfl | rfl | rfl <;> rfl
theorem sd_newa (C : CX b Lx xs Dg cy B0 y p R s m args meth c) (hH : HR b B0 Lx xs Dg cy D mm z H) (hS0 : va_S (AA B0) s.heap H locs) {t : ArrayType} {k : Nat} (ht : (t = .int ∧ k = 8) ∨ (t = .boolean ∧ k = 9)) {n : Int32} (hn : ¬ n < 0) (hb4 : n.toNatClampNeg ≤ 4096) (hcells : cells + 1 ≤ R.cells) (hslots : slots + n.toNatClampNeg ≤ R.slots) (hdg : decode (mbc y) pc = .ok (.newarray t, 2))
    (kk : ∀ (H1 : Heap), HR b B0 Lx xs Dg cy (nwD D z.1 (k, n.toNatClampNeg, fun _ => none)) (nwM mm z.1) (z.1 + 1, z.2 + n.toNatClampNeg) H1 → va_S (AA B0) s.heap H1 locs → W p l e R s m args below meth c H1 locs (cells + 1) (slots + n.toNatClampNeg) Q (F0 m (pc + 2) ls (.ref (ad b B0 z.1) :: rest))) : W p l e R s m args below meth c H locs cells slots Q (F0 m pc ls (.int n :: rest)) := by
  obtain ⟨⟨hx, hb, -, -⟩, ⟨hown, hts, -, -⟩, hKF, -⟩ := C
  obtain ⟨⟨q1, q2, q3⟩, -⟩ := id hH
  have hadz : ad b B0 z.1 = H.size := by rw [ad_pos q1, q2]
  rw [hadz] at kk
  have go : ∀ (H' : Heap) (cA : ClassId), cA = cy k → (8 ≤ k ∧ k ≤ 9) → H'[H.size]? = some (arrV cA n.toNatClampNeg (fun _ => .int 0)) → H'.size = H.size + 1 → (∀ q, q < H.size → H'[q]? = H[q]?) → W p l e R s m args below meth c H' locs (cells + 1) (slots + n.toNatClampNeg) Q (F0 m (pc + 2) ls (.ref H.size :: rest)) := by
    intro H' cA hcA hk e1 z1 o1
    refine kk H' (hH.new z1 o1 (Or.inr ⟨by show 8 ≤ k; omega, by show k ≤ 12; omega, ?_⟩) _) ⟨Nat.le_trans hS0.1 (by omega), fun x h1 h2 => (o1 x (Nat.lt_of_lt_of_le h1 hS0.1)).trans (hS0.2.1 x h1 h2), hS0.2.2⟩
    rw [← q2, e1, hcA]
    congr 2
    funext j
    rcases (by omega : k = 8 ∨ k = 9) with rfl | rfl <;> rfl
  rcases ht with ⟨rfl, rfl⟩ | ⟨rfl, rfl⟩
  · refine va_newaK (atype := .int) hx hb (hts _ nk_ar.1) rfl hdg rfl hn rfl (by show _ * 4 ≤ _; omega) hcells hslots rfl fun H' cA e1 z1 o1 hAr hNm => ?_
    refine go H' cA (Option.some.inj (hNm.symm.trans (hKF.1.2 0 _ rfl).2)) ⟨by omega, by omega⟩ e1 z1 o1
  · refine va_newaK (atype := .boolean) hx hb (hts _ nk_ar.2) rfl hdg rfl hn rfl (by show _ * 1 ≤ _; omega) hcells hslots rfl fun H' cA e1 z1 o1 hAr hNm => ?_
    refine go H' cA (Option.some.inj (hNm.symm.trans (hKF.1.2 1 _ rfl).2)) ⟨by omega, by omega⟩ e1 z1 o1
theorem sd_anew (C : CX b Lx xs Dg cy B0 y p R s m args meth c) (hH : HR b B0 Lx xs Dg cy D mm z H) (hS0 : va_S (AA B0) s.heap H locs) {idx k : Nat} (hk : kOK (mow y) (idx, k)) (hk3 : k = 0 ∨ k = 2 ∨ k = 5) {n : Int32} (hn : ¬ n < 0) (hb4 : n.toNatClampNeg ≤ 4096) (hcells : cells + 1 ≤ R.cells) (hslots : slots + n.toNatClampNeg ≤ R.slots) (hdg : decode (mbc y) pc = .ok (.anewarray idx, 3))
    (kk : ∀ (H1 : Heap), HR b B0 Lx xs Dg cy (nwD D z.1 (arK k, n.toNatClampNeg, fun _ => none)) (nwM mm z.1) (z.1 + 1, z.2 + n.toNatClampNeg) H1 → va_S (AA B0) s.heap H1 locs → W p l e R s m args below meth c H1 locs (cells + 1) (slots + n.toNatClampNeg) Q (F0 m (pc + 3) ls (.ref (ad b B0 z.1) :: rest))) : W p l e R s m args below meth c H locs cells slots Q (F0 m pc ls (.int n :: rest)) := by
  obtain ⟨⟨hx, hb, -, -⟩, ⟨hown, hts, -, -⟩, hKF, -⟩ := C
  obtain ⟨hk8, hw⟩ := hk
  dsimp only at hk8 hw
  obtain ⟨⟨q1, q2, q3⟩, -⟩ := id hH
  have hadz : ad b B0 z.1 = H.size := by rw [ad_pos q1, q2]
  rw [hadz] at kk
  have hao : va_AO (RN k) s := by
    rcases hk3 with rfl | rfl | rfl
    · exact hKF.2.1.1
    · exact hKF.2.1.2.1
    · exact hKF.2.1.2.2
  have har : 10 ≤ arK k ∧ arK k ≤ 12 ∧ elK (arK k) = k := by rcases hk3 with rfl | rfl | rfl <;> decide
  refine W.anew hx hb hown (hts _ hw) (va_AO.use hao) rfl hdg rfl hn (by omega) hcells hslots fun cA kA comp f1 f2 f3 f4 => ?_
  have hcA : cA = cy (arK k) := by
    have h1 := (hKF.ref har.1 har.2.1).2.2
    rw [har.2.2] at h1
    obtain ⟨_, _, -, -, -, h2⟩ := h1
    exact Option.some.inj (f1.symm.trans h2)
  generalize hH1 : H.push ({ cls := cA, slots := Array.replicate n.toNatClampNeg .null, vm := .none } : Cell) = H1
  have z1 : H1.size = H.size + 1 := by rw [← hH1, Array.size_push]
  have e1 : H1[H.size]? = some (arrV cA n.toNatClampNeg (fun _ => .null)) := by rw [← hH1, Array.getElem?_push_size, ← arrV_new]
  have o1 : ∀ q : Nat, q < H.size → H1[q]? = H[q]? := fun q hq => by rw [← hH1, Array.getElem?_push, if_neg (Nat.ne_of_lt hq)]
  refine kk H1 (hH.new z1 o1 (Or.inr ⟨by show 8 ≤ arK k; omega, har.2.1, ?_⟩) _) ⟨Nat.le_trans hS0.1 (by omega), fun x h1 h2 => (o1 x (Nat.lt_of_lt_of_le h1 hS0.1)).trans (hS0.2.1 x h1 h2), hS0.2.2⟩
  rw [← q2, e1, hcA]
  congr 2
  funext j
  show Value.null = if rT (arK k) j = true then va_rf (Option.map (ad b B0) none) else .int 0
  rw [rT_hi har.1]
  rfl
end SND
end
section
/-! the cells counted never fall -/
def zle (z : vZZ) : vST → Prop := fun q => match q with
  | .inl c => z.1 ≤ c.2.2.2.2.2.1 ∧ z.2 ≤ c.2.2.2.2.2.2
  | .inr (.inl o) => z.1 ≤ o.2.2.2.1 ∧ z.2 ≤ o.2.2.2.2
  | .inr (.inr q) => (z.1 ≤ q.2.1.2.2.2.2.2.1 ∧ z.2 ≤ q.2.1.2.2.2.2.2.2) ∧ ∀ o : vOU, o.2.2.2.1 ≤ (q.2.2 o).2.2.2.2.2.1 ∧ o.2.2.2.2 ≤ (q.2.2 o).2.2.2.2.2.2
def nzP (z : vZZ) (r : Option vST) : Prop := ∀ q, r = some q → zle z q
theorem nz_none {z : vZZ} : nzP z none := fun _ h => by cases h
theorem nz_gO {pc : Nat} {L st : List Value} {D : vDD} {mm : vMM} {z z' : vZZ} (h : z.1 ≤ z'.1 ∧ z.2 ≤ z'.2) : nzP z (gO pc L st D mm z') := fun q hq => by
  cases hq
  exact h
theorem nz_gJ {t : Option Nat} {L st : List Value} {D : vDD} {mm : vMM} {z : vZZ} : nzP z (gJ t L st D mm z) := by
  unfold gJ
  split
  · exact nz_gO ⟨Nat.le_refl _, Nat.le_refl _⟩
  · exact nz_none
theorem nz_ite {c : Bool} {z : vZZ} {r : Option vST} (h : nzP z r) : nzP z (if c = true then r else none) := by
  split
  · exact h
  · exact nz_none
theorem nz_gC {y zm : vMD} {args rest : List Value} {pc : Nat} {L : List Value} {D : vDD} {mm : vMM} {z : vZZ} : nzP z (gC y zm args rest pc L D mm z) := by
  unfold gC
  refine nz_ite fun q hq => ?_
  cases hq
  exact ⟨⟨Nat.le_refl _, Nat.le_refl _⟩, fun o => ⟨Nat.le_refl _, Nat.le_refl _⟩⟩
theorem nz_gO' {pc : Nat} {L st : List Value} {D : vDD} {mm : vMM} {z : vZZ} : nzP z (gO pc L st D mm z) := nz_gO ⟨Nat.le_refl _, Nat.le_refl _⟩
theorem nz_gV {y zm : vMD} {na pc : Nat} {L st : List Value} {D : vDD} {mm : vMM} {z : vZZ} : nzP z (gV y zm na pc L st D mm z) := by
  unfold gV
  split
  · exact nz_ite nz_gC
  · exact nz_none
theorem nz_gS {y zm : vMD} {na pc : Nat} {L st : List Value} {D : vDD} {mm : vMM} {z : vZZ} : nzP z (gS y zm na pc L st D mm z) := by
  unfold gS
  split
  · exact nz_gC
  · exact nz_none
theorem nz_gLd {L : List Value} {k pc : Nat} {st : List Value} {D : vDD} {mm : vMM} {z : vZZ} : nzP z (gLd L k pc st D mm z) ∧ nzP z (gLdR L k pc st D mm z) ∧ nzP z (gLdL L k pc st D mm z) := by
  refine ⟨?_, ?_, ?_⟩
  · unfold gLd; split
    · exact nz_gO'
    · exact nz_none
  · unfold gLdR; split
    · exact nz_gO'
    · exact nz_none
  · unfold gLdL; split
    · exact nz_gO'
    · exact nz_none
theorem nz_gSt {y : vMD} {L : List Value} {k pc : Nat} {st : List Value} {D : vDD} {mm : vMM} {z : vZZ} : nzP z (gSt y L k pc st D mm z) ∧ nzP z (gStR y L k pc st D mm z) ∧ nzP z (gStL y L k pc st D mm z) := by
  refine ⟨?_, ?_, ?_⟩
  · unfold gSt; split
    · exact nz_ite nz_gO'
    · exact nz_none
  · unfold gStR; split
    · exact nz_ite nz_gO'
    · exact nz_none
  · unfold gStL; split
    · exact nz_ite nz_gO'
    · exact nz_none
theorem nz_g2 {f : Int32 → Int32 → Int32} {f2 : Int64 → Int64 → Int64} {f3 : Int64 → Int32 → Int64} {pc : Nat} {L st : List Value} {D : vDD} {mm : vMM} {z : vZZ} : nzP z (gI2 f pc L st D mm z) ∧ nzP z (gL2 f2 pc L st D mm z) ∧ nzP z (gLS f3 pc L st D mm z) := by
  refine ⟨?_, ?_, ?_⟩
  · unfold gI2; split
    · exact nz_gO'
    · exact nz_none
  · unfold gL2; split
    · exact nz_gO'
    · exact nz_none
  · unfold gLS; split
    · exact nz_gO'
    · exact nz_none
theorem nz_gPut {y : vMD} {ci k pc : Nat} {L st : List Value} {D : vDD} {mm : vMM} {z : vZZ} : nzP z (gPut y ci k pc L st D mm z) := by
  unfold gPut
  refine nz_ite ?_
  split
  · exact nz_ite nz_gO'
  · exact nz_ite nz_gO'
  · exact nz_none
theorem nz_gGet {ci k pc : Nat} {L st : List Value} {D : vDD} {mm : vMM} {z : vZZ} : nzP z (gGet ci k pc L st D mm z) := by
  unfold gGet
  split
  · refine nz_ite ?_
    split
    · split
      · exact nz_gO'
      · exact nz_none
    · exact nz_gO'
  · exact nz_none
theorem nz_gRet {y : vMD} {st : List Value} {D : vDD} {mm : vMM} {z : vZZ} : nzP z (gRet y st D mm z) := by
  unfold gRet
  split
  · refine nz_ite fun q hq => ?_
    cases hq
    exact ⟨Nat.le_refl _, Nat.le_refl _⟩
  · exact nz_none
theorem nz_mk {r : Option vST} {z : vZZ} (h : ∀ q, r = some q → zle z q) : nzP z r := h
theorem nz_nxi {y : vMD} {i : Jvm.ClassFile.Instr} {len pc : Nat} {L st : List Value} {D : vDD} {mm : vMM} {z : vZZ} : nzP z (nxi y i len pc L st D mm z) := by
  unfold nxi
  split <;> (try exact nz_none) <;>
    repeat' (first
      | exact nz_none | exact nz_gO' | exact nz_gJ | exact nz_gV | exact nz_gS | exact nz_gLd.1 | exact nz_gLd.2.1 | exact nz_gLd.2.2 | exact nz_gSt.1 | exact nz_gSt.2.1 | exact nz_gSt.2.2
      | exact (nz_g2 (f2 := fun x _ => x) (f3 := fun x _ => x)).1 | exact (nz_g2 (f := fun x _ => x) (f3 := fun x _ => x)).2.1 | exact (nz_g2 (f := fun x _ => x) (f2 := fun x _ => x)).2.2
      | exact nz_gPut | exact nz_gGet | exact nz_gRet
      | exact nz_gO ⟨Nat.le_add_right _ _, Nat.le_add_right _ _⟩
      | (intro q hq; cases hq; exact ⟨Nat.le_refl _, Nat.le_refl _⟩)
      | split)
theorem nz_nxt {y : vMD} {c : vCF} {q : vST} (h : nxt y c = some q) : zle c.2.2.2.2.2 q := by
  unfold nxt at h
  split at h
  · exact nz_nxi q h
  · cases h
theorem run_z : ∀ (f : Nat) (y : vMD) (c : vCF) (o : vOU), run f y c = some o → c.2.2.2.2.2.1 ≤ o.2.2.2.1 ∧ c.2.2.2.2.2.2 ≤ o.2.2.2.2
  | 0, _, _, _, h => by cases h
  | f + 1, y, c, o, h => by
    simp only [run, bdy] at h
    cases hn : nxt y c with
    | none => rw [hn] at h; cases h
    | some q =>
      rw [hn] at h
      have hz := nz_nxt hn
      rcases q with c' | o' | q
      · have h2 := run_z f y c' o h
        exact ⟨Nat.le_trans hz.1 h2.1, Nat.le_trans hz.2 h2.2⟩
      · cases h
        exact hz
      · dsimp only at h
        cases hr : run f q.1 q.2.1 with
        | none => rw [hr] at h; cases h
        | some o2 =>
          rw [hr] at h
          have h1 := run_z f _ _ _ hr
          have h2 := run_z f _ _ _ h
          have h3 := hz.2 o2
          exact ⟨Nat.le_trans hz.1.1 (Nat.le_trans h1.1 (Nat.le_trans h3.1 h2.1)), Nat.le_trans hz.1.2 (Nat.le_trans h1.2 (Nat.le_trans h3.2 h2.2))⟩
end
section
/-! one step that goes on -/
theorem ite_some {α : Type} {c : Bool} {r : Option α} {q : α} (h : (if c = true then r else none) = some q) : c = true ∧ r = some q := by
  cases c with
  | true => exact ⟨rfl, by simpa using h⟩
  | false => simp at h
theorem jmp_inv {pc t : Nat} {off : Int} (h : jmp pc off = some t) : (pc : Int) + off = (t : Int) := by
  unfold jmp at h
  split at h
  · cases h
    omega
  · cases h
section INV
variable {pc : Nat} {L st : List Value} {D : vDD} {mm : vMM} {z : vZZ} {q : vST} {y : vMD} {k : Nat}
theorem gLd_inv (h : gLd L k pc st D mm z = some q) : ∃ x, L[k]? = some (.int x) ∧ q = .inl (pc, L, .int x :: st, D, mm, z) := by
  unfold gLd at h
  split at h
  · cases h; exact ⟨_, by assumption, rfl⟩
  · cases h
theorem gLdR_inv (h : gLdR L k pc st D mm z = some q) : ∃ x, L[k]? = some (.ref x) ∧ q = .inl (pc, L, .ref x :: st, D, mm, z) := by
  unfold gLdR at h
  split at h
  · cases h; exact ⟨_, by assumption, rfl⟩
  · cases h
theorem gLdL_inv (h : gLdL L k pc st D mm z = some q) : ∃ x, L[k]? = some (.long x) ∧ q = .inl (pc, L, .long x :: st, D, mm, z) := by
  unfold gLdL at h
  split at h
  · cases h; exact ⟨_, by assumption, rfl⟩
  · cases h
theorem gSt_inv (h : gSt y L k pc st D mm z = some q) : ∃ x st', st = .int x :: st' ∧ okS y L k = true ∧ q = .inl (pc, L.set k (.int x), st', D, mm, z) := by
  unfold gSt at h
  split at h
  · obtain ⟨h1, h2⟩ := ite_some h
    cases h2; exact ⟨_, _, rfl, h1, rfl⟩
  · cases h
theorem gStR_inv (h : gStR y L k pc st D mm z = some q) : ∃ x st', st = .ref x :: st' ∧ okS y L k = true ∧ q = .inl (pc, L.set k (.ref x), st', D, mm, z) := by
  unfold gStR at h
  split at h
  · obtain ⟨h1, h2⟩ := ite_some h
    cases h2; exact ⟨_, _, rfl, h1, rfl⟩
  · cases h
theorem gStL_inv (h : gStL y L k pc st D mm z = some q) : ∃ x st', st = .long x :: st' ∧ okS2 y L k = true ∧ q = .inl (pc, (L.set k (.long x)).set (k + 1) vJ, st', D, mm, z) := by
  unfold gStL at h
  split at h
  · obtain ⟨h1, h2⟩ := ite_some h
    cases h2; exact ⟨_, _, rfl, h1, rfl⟩
  · cases h
theorem gI2_inv {f : Int32 → Int32 → Int32} (h : gI2 f pc L st D mm z = some q) : ∃ x v st', st = .int v :: .int x :: st' ∧ q = .inl (pc, L, .int (f x v) :: st', D, mm, z) := by
  unfold gI2 at h
  split at h
  · cases h; exact ⟨_, _, _, rfl, rfl⟩
  · cases h
theorem gL2_inv {f : Int64 → Int64 → Int64} (h : gL2 f pc L st D mm z = some q) : ∃ x v st', st = .long v :: .long x :: st' ∧ q = .inl (pc, L, .long (f x v) :: st', D, mm, z) := by
  unfold gL2 at h
  split at h
  · cases h; exact ⟨_, _, _, rfl, rfl⟩
  · cases h
theorem gLS_inv {f : Int64 → Int32 → Int64} (h : gLS f pc L st D mm z = some q) : ∃ x v st', st = .int v :: .long x :: st' ∧ q = .inl (pc, L, .long (f x v) :: st', D, mm, z) := by
  unfold gLS at h
  split at h
  · cases h; exact ⟨_, _, _, rfl, rfl⟩
  · cases h
theorem gJ_inv {t : Option Nat} (h : gJ t L st D mm z = some q) : ∃ u, t = some u ∧ q = .inl (u, L, st, D, mm, z) := by
  unfold gJ at h
  split at h
  · cases h; exact ⟨_, rfl, rfl⟩
  · cases h
theorem gGet_inv {ci j : Nat} (h : gGet ci j pc L st D mm z = some q) : ∃ a st', st = .ref a :: st' ∧ (D a).1 = ci ∧ ((rT ci j = true ∧ ∃ r, (D a).2.2 j = some r ∧ q = .inl (pc, L, .ref r :: st', D, mm, z)) ∨ (rT ci j = false ∧ q = .inl (pc, L, .int (mm a j) :: st', D, mm, z))) := by
  unfold gGet at h
  split at h
  · obtain ⟨h1, h2⟩ := ite_some h
    refine ⟨_, _, rfl, eq_of_beq h1, ?_⟩
    split at h2
    · rename_i hr
      split at h2
      · cases h2
        exact Or.inl ⟨hr, _, by assumption, rfl⟩
      · cases h2
    · rename_i hr
      cases h2
      exact Or.inr ⟨by simpa using hr, rfl⟩
  · cases h
theorem gPut_inv {ci j : Nat} (h : gPut y ci j pc L st D mm z = some q) : ((TN ci j).2.2.2 = false ∨ ((mym y).name = "<init>" ∧ (TN ci j).1 = RN (mow y))) ∧
    ((∃ x a st', st = .int x :: .ref a :: st' ∧ (D a).1 = ci ∧ rT ci j = false ∧ fits (tyN ci j) (.int x) = true ∧ narrow (tyN ci j) (.int x) = .int x ∧ q = .inl (pc, L, st', D, up2 mm a j x, z)) ∨
     (∃ r a st', st = .ref r :: .ref a :: st' ∧ (D a).1 = ci ∧ rT ci j = true ∧ q = .inl (pc, L, st', upR D a j (some r), mm, z))) := by
  unfold gPut at h
  obtain ⟨h0, h⟩ := ite_some h
  refine ⟨?_, ?_⟩
  · simp only [Bool.or_eq_true, Bool.not_eq_true', Bool.and_eq_true, beq_iff_eq] at h0
    exact h0
  · split at h
    · obtain ⟨h1, h2⟩ := ite_some h
      simp only [Bool.and_eq_true, beq_iff_eq, Bool.not_eq_true'] at h1
      cases h2
      exact Or.inl ⟨_, _, _, rfl, h1.1, h1.2.1, h1.2.2.1, h1.2.2.2, rfl⟩
    · obtain ⟨h1, h2⟩ := ite_some h
      simp only [Bool.and_eq_true, beq_iff_eq] at h1
      cases h2
      exact Or.inr ⟨_, _, _, rfl, h1.1, h1.2, rfl⟩
    · cases h
end INV
theorem sum_cat : ∀ (st : List Value), (st.map fun v => v.category).sum ≤ 2 * st.length
  | [] => Nat.le_refl _
  | v :: t => by
    have h1 := sum_cat t
    have h2 := lv_cat v
    simp only [List.map_cons, List.sum_cons, List.length_cons]
    omega
section STP
variable {p : Program} {l : Launch} {e : Env} {R : Room} {s : State} {m : MethodId} {args : Array Value} {below : List Frame} {meth : Method} {c : Code} {H : Heap} {locs : List Loc} {cells slots : Nat} {Q : State → Prop}
variable {b Lx B0 pc : Nat} {xs : Nat → Int32} {Dg : va_G} {cy : Nat → ClassId} {y : vMD} {D : vDD} {mm : vMM} {z : vZZ} {ls : Array Slot} {L st : List Value}
/-- what stands behind a step that goes on to c' -/
def KK (l : Launch) (b Lx B0 : Nat) (xs : Nat → Int32) (Dg : va_G) (cy : Nat → ClassId) (y : vMD) (p : Program) (e : Env) (R : Room) (s : State) (m : MethodId) (args : Array Value) (below : List Frame) (meth : Method) (c : Code) (cells slots : Nat) (Q : State → Prop) (z : vZZ) (c' : vCF) : Prop :=
  ∀ (H1 : Heap) (locs1 : List Loc) (ls1 : Array Slot) (k1 n1 : Nat), HR b B0 Lx xs Dg cy c'.2.2.2.1 c'.2.2.2.2.1 c'.2.2.2.2.2 H1 → LR b B0 y c'.2.1 ls1 → va_S (AA B0) s.heap H1 locs1 → k1 + z.1 = cells + c'.2.2.2.2.2.1 → n1 + z.2 = slots + c'.2.2.2.2.2.2 →
    W p l e R s m args below meth c H1 locs1 k1 n1 Q (F0 m c'.1 ls1 (c'.2.2.1.map (rvV b B0)))
theorem LR.int (h : LR b B0 y L ls) {k : Nat} {x : Int32} (hk : L[k]? = some (.int x)) : ls[k]? = some (.val (.int x)) := h.2.2.2.1 k _ hk (fun q => by cases q)
theorem LR.ref (h : LR b B0 y L ls) {k x : Nat} (hk : L[k]? = some (.ref x)) : ls[k]? = some (.val (.ref (ad b B0 x))) := h.2.2.2.1 k _ hk (fun q => by cases q)
theorem LR.long (h : LR b B0 y L ls) {k : Nat} {x : Int64} (hk : L[k]? = some (.long x)) : ls[k]? = some (.val (.long x)) := h.2.2.2.1 k _ hk (fun q => by cases q)
theorem okS_lt (h : LR b B0 y L ls) {k : Nat} (ho : okS y L k = true) : k < mnl y := by
  simp only [okS, Bool.and_eq_true, decide_eq_true_eq] at ho
  rw [← h.1]
  exact ho.1
theorem okS2_lt (h : LR b B0 y L ls) {k : Nat} (ho : okS2 y L k = true) : k + 1 < mnl y := by
  simp only [okS2, Bool.and_eq_true, decide_eq_true_eq] at ho
  rw [← h.1]
  exact ho.1
theorem lk_f {idx : Nat} {q : Nat × Nat} (h : lk (fL (mow y)) idx = some q) : fOK (mow y) (idx, q.1, q.2) := fL_ok _ _ (lk_mem _ h)
theorem lk_k {idx : Nat} {q : Nat} (h : lk (kL (mow y)) idx = some q) : kOK (mow y) (idx, q) := kL_ok _ _ (lk_mem _ h)
theorem lk_c {idx : Nat} {q : Int32} (h : lk (cL (mow y)) idx = some q) : Cond.constant (RN (mow y)) idx q ∈ BG := cL_ok _ _ (lk_mem _ h)
theorem lk_l {idx : Nat} {q : Int64} (h : lk (lL (mow y)) idx = some q) : Cond.constantLong (RN (mow y)) idx q ∈ BG := lL_ok _ _ (lk_mem _ h)
theorem lk_o {idx : Nat} {q : Unit} (h : lk (oL (mow y)) idx = some q) : Cond.methodLink (RN (mow y)) idx objectInit ∈ BG := oL_ok _ _ (lk_mem _ h)
theorem lk_p {idx : Nat} {q : Unit} (h : lk (pL (mow y)) idx = some q) : Cond.methodLink (RN (mow y)) idx Lib.Math.min.name ∈ BG := pL_ok _ _ (lk_mem _ h)
theorem lk_m {idx : Nat} {q : vMD × Nat × Nat} (h : lk (mL (mow y)) idx = some q) : mOK (mow y) (idx, q) := mL_ok _ _ (lk_mem _ h)
set_option maxHeartbeats 4000000 in
theorem step_go (C : CX b Lx xs Dg cy B0 y p R s m args meth c) (hH : HR b B0 Lx xs Dg cy D mm z H) (hL : LR b B0 y L ls) (hS : va_S (AA B0) s.heap H locs) {i : Jvm.ClassFile.Instr} {len : Nat} (hdg : decode (mbc y) pc = .ok (i, len)) {c' : vCF} (hq : nxi y i len pc L st D mm z = some (.inl c'))
    (hroom : cells + c'.2.2.2.2.2.1 ≤ R.cells + z.1 ∧ slots + c'.2.2.2.2.2.2 ≤ R.slots + z.2) (hkn : cells ≤ R.cells ∧ slots ≤ R.slots)
    (kk : KK l b Lx B0 xs Dg cy y p e R s m args below meth c cells slots Q z c') : W p l e R s m args below meth c H locs cells slots Q (F0 m pc ls (st.map (rvV b B0))) := by
  obtain ⟨⟨hx, hb, hr, hml⟩, ⟨hown, hts, hlocks, hini⟩, hKF, ⟨hfr, hlo⟩, -⟩ := id C
  have same : ∀ (pc' : Nat) (L' st' : List Value) (ls' : Array Slot), c' = (pc', L', st', D, mm, z) → LR b B0 y L' ls' → W p l e R s m args below meth c H locs cells slots Q (F0 m pc' ls' (st'.map (rvV b B0))) := by
    intro pc' L' st' ls' hc hl
    subst hc
    exact kk H locs ls' cells slots hH hl hS rfl rfl
  cases i <;> simp only [nxi] at hq <;> first
    | (cases hq; done)
    | skip
  case iconst n =>
    obtain ⟨h1, hq⟩ := ite_some hq
    rw [eq_of_beq h1] at hdg
    cases hq
    exact lv_iconst hx hb hdg rfl (same _ _ _ _ rfl hL)
  case bipush n =>
    obtain ⟨h1, hq⟩ := ite_some hq
    rw [eq_of_beq h1] at hdg
    cases hq
    exact lv_bipush hx hb hdg rfl (same _ _ _ _ rfl hL)
  case sipush n =>
    obtain ⟨h1, hq⟩ := ite_some hq
    rw [eq_of_beq h1] at hdg
    cases hq
    exact lv_sipush hx hb hdg rfl (same _ _ _ _ rfl hL)
  case lconst n =>
    obtain ⟨h1, hq⟩ := ite_some hq
    rw [eq_of_beq h1] at hdg
    cases hq
    exact lv_lconst hx hb hdg rfl (same _ _ _ _ rfl hL)
  case ldc idx =>
    obtain ⟨h1, hq⟩ := ite_some hq
    rw [eq_of_beq h1] at hdg
    split at hq
    · rename_i v hv
      cases hq
      exact lv_ldc hx hb hown (hts _ (lk_c hv)) hdg (same _ _ _ _ rfl hL)
    · cases hq
  case ldc_w idx =>
    obtain ⟨h1, hq⟩ := ite_some hq
    rw [eq_of_beq h1] at hdg
    split at hq
    · rename_i v hv
      cases hq
      exact lv_ldcw hx hb hown (hts _ (lk_c hv)) hdg (same _ _ _ _ rfl hL)
    · cases hq
  case ldc2_w idx =>
    obtain ⟨h1, hq⟩ := ite_some hq
    rw [eq_of_beq h1] at hdg
    split at hq
    · rename_i v hv
      cases hq
      exact lv_ldc2 hx hb hown (hts _ (lk_l hv)) hdg (same _ _ _ _ rfl hL)
    · cases hq
  case iload_n k =>
    obtain ⟨h1, hq⟩ := ite_some hq
    rw [eq_of_beq h1] at hdg
    obtain ⟨x, h2, h3⟩ := gLd_inv hq
    cases h3
    exact lv_iload_n hx hb hdg rfl (hL.int h2) (same _ _ _ _ rfl hL)
  case iload k =>
    obtain ⟨h1, hq⟩ := ite_some hq
    rw [eq_of_beq h1] at hdg
    obtain ⟨x, h2, h3⟩ := gLd_inv hq
    cases h3
    exact lv_iload hx hb hdg (hL.int h2) (same _ _ _ _ rfl hL)
  case aload_n k =>
    obtain ⟨h1, hq⟩ := ite_some hq
    rw [eq_of_beq h1] at hdg
    obtain ⟨x, h2, h3⟩ := gLdR_inv hq
    cases h3
    exact lv_aload_n hx hb hdg rfl (hL.ref h2) (same _ _ _ _ rfl hL)
  case aload k =>
    obtain ⟨h1, hq⟩ := ite_some hq
    rw [eq_of_beq h1] at hdg
    obtain ⟨x, h2, h3⟩ := gLdR_inv hq
    cases h3
    exact lv_aload hx hb hdg (hL.ref h2) (same _ _ _ _ rfl hL)
  case lload_n k =>
    obtain ⟨h1, hq⟩ := ite_some hq
    rw [eq_of_beq h1] at hdg
    obtain ⟨x, h2, h3⟩ := gLdL_inv hq
    cases h3
    exact lv_lload_n hx hb hdg rfl (hL.long h2) (same _ _ _ _ rfl hL)
  case lload k =>
    obtain ⟨h1, hq⟩ := ite_some hq
    rw [eq_of_beq h1] at hdg
    obtain ⟨x, h2, h3⟩ := gLdL_inv hq
    cases h3
    exact lv_lload hx hb hdg (hL.long h2) (same _ _ _ _ rfl hL)
  case istore_n k =>
    obtain ⟨h1, hq⟩ := ite_some hq
    rw [eq_of_beq h1] at hdg
    obtain ⟨x, st', rfl, ho, h3⟩ := gSt_inv hq
    cases h3
    exact lv_istore_n hx hb hdg rfl hL.has (okS_lt hL ho) rfl (fun ls' h' => same _ _ _ _ rfl (hL.set1 (v := .int x) ho rfl h'))
  case istore k =>
    obtain ⟨h1, hq⟩ := ite_some hq
    rw [eq_of_beq h1] at hdg
    obtain ⟨x, st', rfl, ho, h3⟩ := gSt_inv hq
    cases h3
    exact lv_istore hx hb hdg hL.has (okS_lt hL ho) rfl (fun ls' h' => same _ _ _ _ rfl (hL.set1 (v := .int x) ho rfl h'))
  case astore_n k =>
    obtain ⟨h1, hq⟩ := ite_some hq
    rw [eq_of_beq h1] at hdg
    obtain ⟨x, st', rfl, ho, h3⟩ := gStR_inv hq
    cases h3
    exact lv_astore_n hx hb hdg rfl hL.has (okS_lt hL ho) rfl (fun ls' h' => same _ _ _ _ rfl (hL.set1 (v := .ref x) ho rfl h'))
  case astore k =>
    obtain ⟨h1, hq⟩ := ite_some hq
    rw [eq_of_beq h1] at hdg
    obtain ⟨x, st', rfl, ho, h3⟩ := gStR_inv hq
    cases h3
    exact lv_astore hx hb hdg hL.has (okS_lt hL ho) rfl (fun ls' h' => same _ _ _ _ rfl (hL.set1 (v := .ref x) ho rfl h'))
  case lstore_n k =>
    obtain ⟨h1, hq⟩ := ite_some hq
    rw [eq_of_beq h1] at hdg
    obtain ⟨x, st', rfl, ho, h3⟩ := gStL_inv hq
    cases h3
    exact lv_lstore_n hx hb hdg rfl hL.has (okS2_lt hL ho) rfl (fun ls' h' => same _ _ _ _ rfl (hL.set2 (v := .long x) ho h'))
  case lstore k =>
    obtain ⟨h1, hq⟩ := ite_some hq
    rw [eq_of_beq h1] at hdg
    obtain ⟨x, st', rfl, ho, h3⟩ := gStL_inv hq
    cases h3
    exact lv_lstore hx hb hdg hL.has (okS2_lt hL ho) rfl (fun ls' h' => same _ _ _ _ rfl (hL.set2 (v := .long x) ho h'))
  case iinc k n =>
    obtain ⟨h1, hq⟩ := ite_some hq
    rw [eq_of_beq h1] at hdg
    split at hq
    · rename_i x hv
      obtain ⟨ho, hq⟩ := ite_some hq
      cases hq
      have hmem : (k, Value.int x) ∈ al b B0 L := al_of (b := b) (B0 := B0) hv (fun q => by cases q)
      obtain ⟨j, hj⟩ := List.getElem?_of_mem hmem
      exact lv_iinc hx hb hdg hL.has hj rfl (okS_lt hL ho) rfl (fun ls' h' => same _ _ _ _ rfl (hL.set1 (v := .int (x + Int32.ofInt n)) ho rfl h'))
    · cases hq
  case iadd =>
    obtain ⟨h1, hq⟩ := ite_some hq
    rw [eq_of_beq h1] at hdg
    obtain ⟨x, v, st', rfl, h3⟩ := gI2_inv hq
    cases h3
    exact lv_iadd hx hb hdg (same _ _ _ _ rfl hL)
  case isub =>
    obtain ⟨h1, hq⟩ := ite_some hq
    rw [eq_of_beq h1] at hdg
    obtain ⟨x, v, st', rfl, h3⟩ := gI2_inv hq
    cases h3
    exact lv_isub hx hb hdg (same _ _ _ _ rfl hL)
  case imul =>
    obtain ⟨h1, hq⟩ := ite_some hq
    rw [eq_of_beq h1] at hdg
    obtain ⟨x, v, st', rfl, h3⟩ := gI2_inv hq
    cases h3
    exact lv_imul hx hb hdg (same _ _ _ _ rfl hL)
  case iand =>
    obtain ⟨h1, hq⟩ := ite_some hq
    rw [eq_of_beq h1] at hdg
    obtain ⟨x, v, st', rfl, h3⟩ := gI2_inv hq
    cases h3
    exact lv_iand hx hb hdg (same _ _ _ _ rfl hL)
  case ior =>
    obtain ⟨h1, hq⟩ := ite_some hq
    rw [eq_of_beq h1] at hdg
    obtain ⟨x, v, st', rfl, h3⟩ := gI2_inv hq
    cases h3
    exact lv_ior hx hb hdg (same _ _ _ _ rfl hL)
  case ixor =>
    obtain ⟨h1, hq⟩ := ite_some hq
    rw [eq_of_beq h1] at hdg
    obtain ⟨x, v, st', rfl, h3⟩ := gI2_inv hq
    cases h3
    exact lv_ixor hx hb hdg (same _ _ _ _ rfl hL)
  case ishl =>
    obtain ⟨h1, hq⟩ := ite_some hq
    rw [eq_of_beq h1] at hdg
    obtain ⟨x, v, st', rfl, h3⟩ := gI2_inv hq
    cases h3
    exact lv_ishl hx hb hdg (same _ _ _ _ rfl hL)
  case ishr =>
    obtain ⟨h1, hq⟩ := ite_some hq
    rw [eq_of_beq h1] at hdg
    obtain ⟨x, v, st', rfl, h3⟩ := gI2_inv hq
    cases h3
    exact lv_ishr hx hb hdg (same _ _ _ _ rfl hL)
  case iushr =>
    obtain ⟨h1, hq⟩ := ite_some hq
    rw [eq_of_beq h1] at hdg
    obtain ⟨x, v, st', rfl, h3⟩ := gI2_inv hq
    cases h3
    exact lv_iushr hx hb hdg rfl (same _ _ _ _ rfl hL)
  case land =>
    obtain ⟨h1, hq⟩ := ite_some hq
    rw [eq_of_beq h1] at hdg
    obtain ⟨x, v, st', rfl, h3⟩ := gL2_inv hq
    cases h3
    exact lv_land hx hb hdg (same _ _ _ _ rfl hL)
  case lor =>
    obtain ⟨h1, hq⟩ := ite_some hq
    rw [eq_of_beq h1] at hdg
    obtain ⟨x, v, st', rfl, h3⟩ := gL2_inv hq
    cases h3
    exact lv_lor hx hb hdg (same _ _ _ _ rfl hL)
  case lshl =>
    obtain ⟨h1, hq⟩ := ite_some hq
    rw [eq_of_beq h1] at hdg
    obtain ⟨x, v, st', rfl, h3⟩ := gLS_inv hq
    cases h3
    exact lv_lshl hx hb hdg rfl (same _ _ _ _ rfl hL)
  case lushr =>
    obtain ⟨h1, hq⟩ := ite_some hq
    rw [eq_of_beq h1] at hdg
    obtain ⟨x, v, st', rfl, h3⟩ := gLS_inv hq
    cases h3
    exact lv_lushr hx hb hdg rfl (same _ _ _ _ rfl hL)
  case i2l =>
    obtain ⟨h1, hq⟩ := ite_some hq
    rw [eq_of_beq h1] at hdg
    split at hq
    · cases hq
      exact lv_i2l hx hb hdg rfl (same _ _ _ _ rfl hL)
    · cases hq
  case l2i =>
    obtain ⟨h1, hq⟩ := ite_some hq
    rw [eq_of_beq h1] at hdg
    split at hq
    · cases hq
      exact lv_l2i hx hb hdg rfl (same _ _ _ _ rfl hL)
    · cases hq
  case lcmp =>
    obtain ⟨h1, hq⟩ := ite_some hq
    rw [eq_of_beq h1] at hdg
    split at hq
    · cases hq
      exact W.lcmp hx hb hdg (same _ _ _ _ rfl hL)
    · cases hq
  case dup =>
    obtain ⟨h1, hq⟩ := ite_some hq
    rw [eq_of_beq h1] at hdg
    split at hq
    · obtain ⟨h2, hq⟩ := ite_some hq
      cases hq
      exact lv_dup hx hb hdg (by rw [rvV_cat]; exact eq_of_beq h2) (same _ _ _ _ rfl hL)
    · cases hq
  case dup2 =>
    obtain ⟨h1, hq⟩ := ite_some hq
    rw [eq_of_beq h1] at hdg
    split at hq
    · obtain ⟨h2, hq⟩ := ite_some hq
      simp only [Bool.and_eq_true] at h2
      cases hq
      exact lv_dup2_11 hx hb hdg (by rw [rvV_cat]; exact eq_of_beq h2.1) (by rw [rvV_cat]; exact eq_of_beq h2.2) (same _ _ _ _ rfl hL)
    · cases hq
  case pop =>
    obtain ⟨h1, hq⟩ := ite_some hq
    rw [eq_of_beq h1] at hdg
    split at hq
    · obtain ⟨h2, hq⟩ := ite_some hq
      cases hq
      exact lv_pop hx hb hdg (by rw [rvV_cat]; exact eq_of_beq h2) (same _ _ _ _ rfl hL)
    · cases hq
  case ifCond op off =>
    obtain ⟨h1, hq⟩ := ite_some hq
    rw [eq_of_beq h1] at hdg
    split at hq
    · rename_i x st' _old
      split at hq
      · rename_i t ht
        have ht := jmp_inv ht
        cases hq
        have go := fun (t' : Nat) (h : (if cmpB op x 0 = true then t else pc + 3) = t') => same t' L st' ls (by rw [h]) hL
        cases op
        · exact lv_if_eq hx hb hdg ht (fun q => go _ (by simp [cmpB, q])) (fun q => go _ (by simp [cmpB, q]))
        · exact lv_if_ne hx hb hdg ht (fun q => go _ (by simp [cmpB, q])) (fun q => go _ (by simp [cmpB, q]))
        · exact lv_if_lt hx hb hdg ht (fun q => go _ (by simp only [cmpB, q, decide_true, if_true])) (fun q => go _ (by simp only [cmpB, q, decide_false]; rfl))
        · exact lv_if_ge hx hb hdg ht (fun q => go _ (by simp only [cmpB, q, decide_true, if_true])) (fun q => go _ (by simp only [cmpB, q, decide_false]; rfl))
        · exact lv_if_gt hx hb hdg ht (fun q => go _ (by simp only [cmpB, q, decide_true, if_true])) (fun q => go _ (by simp only [cmpB, q, decide_false]; rfl))
        · exact lv_if_le hx hb hdg ht (fun q => go _ (by simp only [cmpB, q, decide_true, if_true])) (fun q => go _ (by simp only [cmpB, q, decide_false]; rfl))
      · cases hq
    · cases hq
  case if_icmp op off =>
    obtain ⟨h1, hq⟩ := ite_some hq
    rw [eq_of_beq h1] at hdg
    split at hq
    · rename_i v x st' _old
      split at hq
      · rename_i t ht
        have ht := jmp_inv ht
        cases hq
        have go := fun (t' : Nat) (h : (if cmpB op x v = true then t else pc + 3) = t') => same t' L st' ls (by rw [h]) hL
        cases op
        · exact lv_icmp_eq hx hb hdg ht (fun q => go _ (by simp [cmpB, q])) (fun q => go _ (by simp [cmpB, q]))
        · exact lv_icmp_ne hx hb hdg ht (fun q => go _ (by simp [cmpB, q])) (fun q => go _ (by simp [cmpB, q]))
        · exact lv_icmp_lt hx hb hdg ht (fun q => go _ (by simp only [cmpB, q, decide_true, if_true])) (fun q => go _ (by simp only [cmpB, q, decide_false]; rfl))
        · exact lv_icmp_ge hx hb hdg ht (fun q => go _ (by simp only [cmpB, q, decide_true, if_true])) (fun q => go _ (by simp only [cmpB, q, decide_false]; rfl))
        · exact lv_icmp_gt hx hb hdg ht (fun q => go _ (by simp only [cmpB, q, decide_true, if_true])) (fun q => go _ (by simp only [cmpB, q, decide_false]; rfl))
        · exact lv_icmp_le hx hb hdg ht (fun q => go _ (by simp only [cmpB, q, decide_true, if_true])) (fun q => go _ (by simp only [cmpB, q, decide_false]; rfl))
      · cases hq
    · cases hq
  case goto off =>
    obtain ⟨h1, hq⟩ := ite_some hq
    rw [eq_of_beq h1] at hdg
    obtain ⟨t, ht, h3⟩ := gJ_inv hq
    cases h3
    exact lv_goto hx hb hdg (jmp_inv ht) (same _ _ _ _ rfl hL)
  case tableswitch dflt lo hi offs =>
    split at hq
    · rename_i x st'
      obtain ⟨t, ht, h3⟩ := gJ_inv hq
      cases h3
      by_cases hc : x.toInt < lo ∨ hi < x.toInt
      · rw [if_pos (by rcases hc with q | q <;> simp [q])] at ht
        exact lv_tableOut hx hb hdg hc (jmp_inv ht) (same _ _ _ _ rfl hL)
      · have h1 : ¬ x.toInt < lo := fun q => hc (Or.inl q)
        have h2 : ¬ hi < x.toInt := fun q => hc (Or.inr q)
        rw [if_neg (by simp [h1, h2])] at ht
        split at ht
        · rename_i off ho
          exact lv_tableIn hx hb hdg h1 h2 ho (jmp_inv ht) (same _ _ _ _ rfl hL)
        · cases ht
    · cases hq
  case lookupswitch dflt ps =>
    split at hq
    · rename_i x st'
      obtain ⟨h1, hq⟩ := ite_some hq
      obtain ⟨t, ht, h3⟩ := gJ_inv hq
      cases h3
      exact lv_lookup hx hb hdg h1 rfl (jmp_inv ht) (same _ _ _ _ rfl hL)
    · cases hq
  case getfield idx =>
    obtain ⟨h1, hq⟩ := ite_some hq
    rw [eq_of_beq h1] at hdg
    split at hq
    · rename_i q hv
      obtain ⟨a, st', rfl, h2, h3⟩ := gGet_inv hq
      rcases h3 with ⟨h4, r, h5, h6⟩ | ⟨h4, h6⟩
      · cases h6
        refine sd_get C hH h2 (lk_f hv) hdg ?_
        rw [vv_ref (by rw [h2]; exact h4) h5]
        exact same _ _ _ _ rfl hL
      · cases h6
        refine sd_get C hH h2 (lk_f hv) hdg ?_
        rw [vv_int (by rw [h2]; exact h4)]
        exact same _ _ _ _ rfl hL
    · cases hq
  case putfield idx =>
    obtain ⟨h1, hq⟩ := ite_some hq
    rw [eq_of_beq h1] at hdg
    split at hq
    · rename_i q hv
      obtain ⟨hfin, h3⟩ := gPut_inv hq
      rcases h3 with ⟨x, a, st', rfl, h2, h4, h5, h6, h7⟩ | ⟨r, a, st', rfl, h2, h4, h7⟩
      · cases h7
        refine sd_put C hH hS h2 (lk_f hv) hfin h6 h5 (Or.inl rfl) (fun _ _ => rfl) (fun q hq => up2_ne hq) (fun i => ?_) hdg (fun H1 locs1 e1 e2 => kk H1 locs1 ls cells slots e1 hL e2 rfl rfl)
        rw [up2_eq]
        exact vv_upd (by rw [h2]; exact h4) i
      · cases h7
        have hfit : fits (tyN q.1 q.2) (.ref (ad b B0 r)) = true := by
          have := lk_f hv
          obtain ⟨h8, -, -⟩ := this
          dsimp only at h8
          unfold rT at h4
          rw [if_pos h8] at h4
          cases ht : tyN q.1 q.2 <;> rw [ht] at h4 <;> first | rfl | cases h4
        have hnar : narrow (tyN q.1 q.2) (.ref (ad b B0 r)) = .ref (ad b B0 r) := by
          cases ht : tyN q.1 q.2 <;> rfl
        exact sd_put C hH hS h2 (lk_f hv) hfin hnar hfit (Or.inr (by rw [upR_eq])) (fun q hq => upR_ne hq) (fun _ _ => rfl) (fun i => vv_upR (by rw [h2]; exact h4) i) hdg (fun H1 locs1 e1 e2 => kk H1 locs1 ls cells slots e1 hL e2 rfl rfl)
    · cases hq
  case iaload =>
    obtain ⟨h1, hq⟩ := ite_some hq
    rw [eq_of_beq h1] at hdg
    split at hq
    · obtain ⟨h2, hq⟩ := ite_some hq
      simp only [Bool.and_eq_true, Bool.or_eq_true, beq_iff_eq] at h2
      cases hq
      exact sd_iald C hH hS h2.1 h2.2 hdg (same _ _ _ _ rfl hL)
    · cases hq
  case iastore =>
    obtain ⟨h1, hq⟩ := ite_some hq
    rw [eq_of_beq h1] at hdg
    split at hq
    · obtain ⟨h2, hq⟩ := ite_some hq
      simp only [Bool.and_eq_true, beq_iff_eq] at h2
      cases hq
      exact sd_iast C hH hS h2.1 h2.2 hdg (fun H1 locs1 e1 e2 => kk H1 locs1 ls cells slots e1 hL e2 rfl rfl)
    · cases hq
  case baload =>
    obtain ⟨h1, hq⟩ := ite_some hq
    rw [eq_of_beq h1] at hdg
    split at hq
    · obtain ⟨h2, hq⟩ := ite_some hq
      simp only [Bool.and_eq_true, beq_iff_eq] at h2
      cases hq
      exact sd_bald C hH h2.1 h2.2 hdg (same _ _ _ _ rfl hL)
    · cases hq
  case bastore =>
    obtain ⟨h1, hq⟩ := ite_some hq
    rw [eq_of_beq h1] at hdg
    split at hq
    · obtain ⟨h2, hq⟩ := ite_some hq
      simp only [Bool.and_eq_true, beq_iff_eq] at h2
      cases hq
      exact sd_bast C hH hS h2.1 h2.2.1 h2.2.2 hdg (fun H1 locs1 e1 e2 => kk H1 locs1 ls cells slots e1 hL e2 rfl rfl)
    · cases hq
  case aaload =>
    obtain ⟨h1, hq⟩ := ite_some hq
    rw [eq_of_beq h1] at hdg
    split at hq
    · obtain ⟨h2, hq⟩ := ite_some hq
      simp only [Bool.and_eq_true, decide_eq_true_eq] at h2
      split at hq
      · rename_i r hr
        cases hq
        exact sd_aald C hH h2.1.1 h2.1.2 h2.2 hr hdg (same _ _ _ _ rfl hL)
      · cases hq
    · cases hq
  case aastore =>
    obtain ⟨h1, hq⟩ := ite_some hq
    rw [eq_of_beq h1] at hdg
    split at hq
    · obtain ⟨h2, hq⟩ := ite_some hq
      simp only [Bool.and_eq_true, decide_eq_true_eq, beq_iff_eq] at h2
      cases hq
      exact sd_aast C hH hS h2.1.1.1 h2.1.1.2 h2.1.2 h2.2 hdg (fun H1 locs1 e1 e2 => kk H1 locs1 ls cells slots e1 hL e2 rfl rfl)
    · cases hq
  case arraylength =>
    obtain ⟨h1, hq⟩ := ite_some hq
    rw [eq_of_beq h1] at hdg
    split at hq
    · obtain ⟨h2, hq⟩ := ite_some hq
      cases hq
      exact sd_alen C hH hS (eq_of_beq h2) hdg (same _ _ _ _ rfl hL)
    · cases hq
  case new idx =>
    obtain ⟨h1, hq⟩ := ite_some hq
    rw [eq_of_beq h1] at hdg
    split at hq
    · rename_i k hv
      cases hq
      dsimp only at hroom
      exact sd_new C hH hS (lk_k hv) (by omega) (by omega) hdg (fun H1 e1 e2 => kk H1 locs ls (cells + 1) (slots + NN k) e1 hL e2 (by dsimp only; omega) (by dsimp only; omega))
    · cases hq
  case newarray t =>
    obtain ⟨h1, hq⟩ := ite_some hq
    rw [eq_of_beq h1] at hdg
    split at hq
    · obtain ⟨h2, hq⟩ := ite_some hq
      simp only [Bool.and_eq_true, decide_eq_true_eq, Bool.not_eq_true', decide_eq_false_iff_not] at h2
      split at hq
      · cases hq
        dsimp only at hroom
        exact sd_newa C hH hS (Or.inl ⟨rfl, rfl⟩) h2.1 h2.2 (by omega) (by omega) hdg (fun H1 e1 e2 => kk H1 locs ls _ _ e1 hL e2 (by dsimp only; omega) (by dsimp only; omega))
      · cases hq
        dsimp only at hroom
        exact sd_newa C hH hS (Or.inr ⟨rfl, rfl⟩) h2.1 h2.2 (by omega) (by omega) hdg (fun H1 e1 e2 => kk H1 locs ls _ _ e1 hL e2 (by dsimp only; omega) (by dsimp only; omega))
      · cases hq
    · cases hq
  case anewarray idx =>
    obtain ⟨h1, hq⟩ := ite_some hq
    rw [eq_of_beq h1] at hdg
    split at hq
    · obtain ⟨h2, hq⟩ := ite_some hq
      simp only [Bool.and_eq_true, decide_eq_true_eq, Bool.not_eq_true', decide_eq_false_iff_not] at h2
      split at hq
      · rename_i k hv
        obtain ⟨h3, hq⟩ := ite_some hq
        simp only [Bool.or_eq_true, beq_iff_eq] at h3
        cases hq
        dsimp only at hroom
        exact sd_anew C hH hS (lk_k hv) h3 h2.1 h2.2 (by omega) (by omega) hdg (fun H1 e1 e2 => kk H1 locs ls _ _ e1 hL e2 (by dsimp only; omega) (by dsimp only; omega))
      · cases hq
    · cases hq
  case invokestatic idx =>
    obtain ⟨h1, hq⟩ := ite_some hq
    rw [eq_of_beq h1] at hdg
    split at hq
    · rename_i u hv
      split at hq
      · rename_i v x st' _old
        obtain ⟨h2, hq⟩ := ite_some hq
        simp only [Bool.and_eq_true, decide_eq_true_eq] at h2
        cases hq
        have h3 := sum_cat (st'.map (rvV b B0))
        rw [List.length_map] at h3
        exact va_mmin hx hb (by rw [hml]; exact hL.2.1.symm) hown (hts _ (lk_p hv)) (hts _ nk_mi.1) (hts _ nk_mi.2.1) (hts _ nk_mi.2.2) (by omega) (by omega) hkn.1 hkn.2 hdg (same _ _ _ _ rfl hL)
      · cases hq
    · split at hq
      · obtain ⟨h2, hq⟩ := ite_some hq
        unfold gS at hq
        split at hq
        · unfold gC at hq
          obtain ⟨-, hq⟩ := ite_some hq
          cases hq
        · cases hq
      · cases hq
  case invokespecial idx =>
    obtain ⟨h1, hq⟩ := ite_some hq
    rw [eq_of_beq h1] at hdg
    split at hq
    · rename_i u hv
      split at hq
      · rename_i a st' _old
        obtain ⟨h2, hq⟩ := ite_some hq
        simp only [Bool.and_eq_true, decide_eq_true_eq] at h2
        cases hq
        have h3 := sum_cat (st'.map (rvV b B0))
        rw [List.length_map] at h3
        exact W.objInit (g := F0 m pc ls (.ref (ad b B0 a) :: st'.map (rvV b B0))) hx hb hown (hts _ (lk_o hv)) (hts _ nk_oi.1) (hts _ nk_oi.2) rfl (by rw [hml]; exact hL.2.1) rfl hdg (by omega) (by show 2 * 0 + _ + 12 ≤ _; omega) (same _ _ _ _ rfl hL)
      · cases hq
    · split at hq
      · obtain ⟨h2, hq⟩ := ite_some hq
        unfold gV at hq
        split at hq
        · obtain ⟨-, hq⟩ := ite_some hq
          unfold gC at hq
          obtain ⟨-, hq⟩ := ite_some hq
          cases hq
        · cases hq
      · cases hq
  case invokevirtual idx =>
    obtain ⟨h1, hq⟩ := ite_some hq
    rw [eq_of_beq h1] at hdg
    split at hq
    · obtain ⟨h2, hq⟩ := ite_some hq
      unfold gV at hq
      split at hq
      · obtain ⟨-, hq⟩ := ite_some hq
        unfold gC at hq
        obtain ⟨-, hq⟩ := ite_some hq
        cases hq
      · cases hq
    · cases hq
  case ireturn =>
    obtain ⟨h1, hq⟩ := ite_some hq
    unfold gRet at hq
    split at hq
    · obtain ⟨-, hq⟩ := ite_some hq
      cases hq
    · cases hq
  case return_ =>
    obtain ⟨h1, hq⟩ := ite_some hq
    split at hq
    · obtain ⟨-, hq⟩ := ite_some hq
      cases hq
    · cases hq
end STP
end
section
/-! which instructions call -/
def ncP (r : Option vST) : Prop := ∀ q, r = some (.inr (.inr q)) → False
theorem nc_none : ncP none := fun _ h => by cases h
theorem nc_gO {pc : Nat} {L st : List Value} {D : vDD} {mm : vMM} {z : vZZ} : ncP (gO pc L st D mm z) := fun _ h => by cases h
theorem nc_ite {c : Bool} {r : Option vST} (h : ncP r) : ncP (if c = true then r else none) := by
  split
  · exact h
  · exact nc_none
theorem nc_gJ {t : Option Nat} {L st : List Value} {D : vDD} {mm : vMM} {z : vZZ} : ncP (gJ t L st D mm z) := by
  unfold gJ
  split
  · exact nc_gO
  · exact nc_none
theorem nc_gLd {L : List Value} {k pc : Nat} {st : List Value} {D : vDD} {mm : vMM} {z : vZZ} : ncP (gLd L k pc st D mm z) ∧ ncP (gLdR L k pc st D mm z) ∧ ncP (gLdL L k pc st D mm z) := by
  refine ⟨?_, ?_, ?_⟩
  · unfold gLd; split
    · exact nc_gO
    · exact nc_none
  · unfold gLdR; split
    · exact nc_gO
    · exact nc_none
  · unfold gLdL; split
    · exact nc_gO
    · exact nc_none
theorem nc_gSt {y : vMD} {L : List Value} {k pc : Nat} {st : List Value} {D : vDD} {mm : vMM} {z : vZZ} : ncP (gSt y L k pc st D mm z) ∧ ncP (gStR y L k pc st D mm z) ∧ ncP (gStL y L k pc st D mm z) := by
  refine ⟨?_, ?_, ?_⟩
  · unfold gSt; split
    · exact nc_ite nc_gO
    · exact nc_none
  · unfold gStR; split
    · exact nc_ite nc_gO
    · exact nc_none
  · unfold gStL; split
    · exact nc_ite nc_gO
    · exact nc_none
theorem nc_g2 {f : Int32 → Int32 → Int32} {f2 : Int64 → Int64 → Int64} {f3 : Int64 → Int32 → Int64} {pc : Nat} {L st : List Value} {D : vDD} {mm : vMM} {z : vZZ} : ncP (gI2 f pc L st D mm z) ∧ ncP (gL2 f2 pc L st D mm z) ∧ ncP (gLS f3 pc L st D mm z) := by
  refine ⟨?_, ?_, ?_⟩
  · unfold gI2; split
    · exact nc_gO
    · exact nc_none
  · unfold gL2; split
    · exact nc_gO
    · exact nc_none
  · unfold gLS; split
    · exact nc_gO
    · exact nc_none
theorem nc_gPut {y : vMD} {ci k pc : Nat} {L st : List Value} {D : vDD} {mm : vMM} {z : vZZ} : ncP (gPut y ci k pc L st D mm z) := by
  unfold gPut
  refine nc_ite ?_
  split
  · exact nc_ite nc_gO
  · exact nc_ite nc_gO
  · exact nc_none
theorem nc_gGet {ci k pc : Nat} {L st : List Value} {D : vDD} {mm : vMM} {z : vZZ} : ncP (gGet ci k pc L st D mm z) := by
  unfold gGet
  split
  · refine nc_ite ?_
    split
    · split
      · exact nc_gO
      · exact nc_none
    · exact nc_gO
  · exact nc_none
theorem nc_gRet {y : vMD} {st : List Value} {D : vDD} {mm : vMM} {z : vZZ} : ncP (gRet y st D mm z) := by
  unfold gRet
  split
  · exact nc_ite (fun _ h => by cases h)
  · exact nc_none
def isInv : Jvm.ClassFile.Instr → Bool := fun i => match i with
  | .invokevirtual _ => true
  | .invokestatic _ => true
  | .invokespecial _ => true
  | _ => false
theorem nc_nxi {y : vMD} {i : Jvm.ClassFile.Instr} {len pc : Nat} {L st : List Value} {D : vDD} {mm : vMM} {z : vZZ} (h : isInv i = false) : ncP (nxi y i len pc L st D mm z) := by
  unfold nxi
  split <;> (try exact nc_none) <;> (try (cases h; done)) <;>
    repeat' (first
      | exact nc_none | exact nc_gO | exact nc_gJ | exact nc_gLd.1 | exact nc_gLd.2.1 | exact nc_gLd.2.2 | exact nc_gSt.1 | exact nc_gSt.2.1 | exact nc_gSt.2.2
      | exact (nc_g2 (f2 := fun x _ => x) (f3 := fun x _ => x)).1 | exact (nc_g2 (f := fun x _ => x) (f3 := fun x _ => x)).2.1 | exact (nc_g2 (f := fun x _ => x) (f2 := fun x _ => x)).2.2
      | exact nc_gPut | exact nc_gGet | exact nc_gRet
      | (intro q hq; cases hq; done)
      | split)
/-! SOUNDNESS of runs, by induction on the fuel -/
def ovz (b B0 : Nat) (zm : vMD) (v : Value) : Option Value := if (mrt zm).isNone then none else some (rvV b B0 v)
def rst (v : Value) : List Value := match v with
  | .int x => [.int x]
  | _ => []
def RI (y : vMD) (pc : Nat) (v : Value) : Prop := (∃ x, v = .int x ∧ decode (mbc y) pc = .ok (.ireturn, 1) ∧ ∃ ty, mrt y = some ty ∧ narrow ty (.int x) = .int x) ∨ (v = vJ ∧ decode (mbc y) pc = .ok (.return_, 1) ∧ mrt y = none)
def SNDf (l : Launch) (b Lx : Nat) (xs : Nat → Int32) (Dg : va_G) (cy : Nat → ClassId) (B0 f : Nat) : Prop :=
  ∀ (y : vMD) (c0 : vCF) (o : vOU), run f y c0 = some o → ∀ (p : Program) (e : Env) (R : Room) (s : State) (m : MethodId) (args : Array Value) (below : List Frame) (meth : Method) (c : Code) (H : Heap) (locs : List Loc) (cells slots : Nat) (Q : State → Prop) (ls : Array Slot),
    CX b Lx xs Dg cy B0 y p R s m args meth c → HR b B0 Lx xs Dg cy c0.2.2.2.1 c0.2.2.2.2.1 c0.2.2.2.2.2 H → LR b B0 y c0.2.1 ls → va_S (AA B0) s.heap H locs → cells + o.2.2.2.1 ≤ R.cells + c0.2.2.2.2.2.1 ∧ slots + o.2.2.2.2 ≤ R.slots + c0.2.2.2.2.2.2 →
    (∀ (pc' : Nat) (ls' : Array Slot) (H' : Heap) (locs' : List Loc) (k1 n1 : Nat), HR b B0 Lx xs Dg cy o.2.1 o.2.2.1 o.2.2.2 H' → va_S (AA B0) s.heap H' locs' → k1 + c0.2.2.2.2.2.1 = cells + o.2.2.2.1 → n1 + c0.2.2.2.2.2.2 = slots + o.2.2.2.2 → RI y pc' o.1 →
      W p l e R s m args below meth c H' locs' k1 n1 Q (F0 m pc' ls' (rst o.1))) →
    W p l e R s m args below meth c H locs cells slots Q (F0 m c0.1 ls (c0.2.2.1.map (rvV b B0)))
section ALL
variable {l : Launch} {b Lx B0 f : Nat} {xs : Nat → Int32} {Dg : va_G} {cy : Nat → ClassId}
theorem yOK_pl {y : vMD} (h : yOK y) : plainName (mym y).cls = true := h.2.2.2.1
abbrev wsZ (zm : vMD) : List Cond := Cond.code (mym zm) (mbc zm) (mnl zm) (mrt zm) :: BG
abbrev rmZ (zm : vMD) (mc ms : Nat) : Room := { frames := mht zm, cells := mc, slots := ms, locals := 31 * mht zm }
abbrev pcZ (b Lx B0 : Nat) (xs : Nat → Int32) (Dg : va_G) (cy : Nat → ClassId) (vs : List Value) (D : vDD) (mm : vMM) (z : vZZ) : Array Value → State → Prop := va_Pc (vs.map (rvV b B0)) (fun U => HR b B0 Lx xs Dg cy D mm z U.heap ∧ KF b Lx xs Dg cy U ∧ (b ≤ B0 ∧ B0 + 1 ≤ U.heap.size))
abbrev qcZ (b Lx B0 : Nat) (xs : Nat → Int32) (Dg : va_G) (cy : Nat → ClassId) (zm : vMD) (o : vOU) : Array Value → State → Outcome → State → Prop := fun _ st oc t => (oc = .returned (ovz b B0 zm o.1) ∧ HR b B0 Lx xs Dg cy o.2.1 o.2.2.1 o.2.2.2 t.heap) ∧ va_F (AA B0) st t
theorem met_of (hSND : SNDf l b Lx xs Dg cy B0 f) {zm : vMD} (hy : yOK zm) {vs : List Value} (hent : entOK zm vs = true) {D : vDD} {mm : vMM} {z : vZZ} {o : vOU} (hrun : run f zm (0, entL (mnl zm) vs, [], D, mm, z) = some o) :
    Met l (mym zm) (wsZ zm) (rmZ zm (o.2.2.2.1 - z.1) (o.2.2.2.2 - z.2)) (pcZ b Lx B0 xs Dg cy vs D mm z) (qcZ b Lx B0 xs Dg cy zm o) (o.2.2.2.1 - z.1) (o.2.2.2.2 - z.2) (AA B0) := by
  have hz := run_z _ _ _ _ hrun
  dsimp only at hz
  refine Met.ofW (cc := mbc zm) (maxL := mnl zm) (ret := mrt zm) (yOK_pl hy) rfl ?_
  intro p e s m args below meth c s₁ B hml hv
  obtain ⟨rfl, hH, hKF, hbB, hsB⟩ := hv
  have hts := atoms_spec (ws := wsZ zm) B.pre
  have hown : s.vm.findClass (mym zm).cls = some m.cls := findClass_of_methodNamed B.named
  rw [hy.2.2.2.2.2] at hown
  have hnm : meth.name = (mym zm).name := (name_of_methodNamed B.named B.method).1
  have hC : CX b Lx xs Dg cy B0 zm p (headSpec (wsZ zm) (rmZ zm (o.2.2.2.1 - z.1) (o.2.2.2.2 - z.2))).room s m (List.map (rvV b B0) vs).toArray meth c :=
    ⟨⟨B.exec, B.bytes, B.returns, hml⟩, ⟨hown, fun w hw => hts w (List.mem_cons_of_mem _ hw), B.notSynchronized, fun h => hnm.trans h⟩, hKF, ⟨Nat.le_refl _, Nat.le_refl _⟩, hbB, hsB⟩
  have hlen : (lg_sl (vs.map (rvV b B0))).length ≤ mnl zm := by
    rw [lg_map, ← lay_len]
    simp only [entOK, Bool.and_eq_true, decide_eq_true_eq] at hent
    exact hent.1
  have hl := lv_entry (vs.map (rvV b B0)) (n := mnl zm) hlen
  rw [lg_entry_eq]
  refine hSND zm (0, entL (mnl zm) vs, [], D, mm, z) o hrun p e _ s m _ below meth c s.heap [] 0 0 _ _ hC hH (LR.entry hent hl) va_S.rf ⟨by show 0 + o.2.2.2.1 ≤ (o.2.2.2.1 - z.1) + z.1; omega, by show 0 + o.2.2.2.2 ≤ (o.2.2.2.2 - z.2) + z.2; omega⟩ ?_
  intro pc' ls' H' locs' k1 n1 hH' hS' hk hn hRI
  dsimp only at hk hn
  have hk : k1 = o.2.2.2.1 - z.1 := by omega
  have hn : n1 = o.2.2.2.2 - z.2 := by omega
  subst hk
  subst hn
  rcases hRI with ⟨x, hx, hdg, ty, hty, hnar⟩ | ⟨hx, hdg, hty⟩
  · rw [hx]
    refine W.zret (v := x) (ty := ty) B.exec B.bytes (by rw [B.returns]; exact hty) hnar (fun t ht hW => ⟨⟨?_, by rw [ht]; exact hH'⟩, hS'.F ht⟩) hS'.2.2 hdg B.notSynchronized
    simp only [ovz, hty, hx]
    rfl
  · rw [hx]
    refine W.vret B.exec B.bytes (by rw [B.returns]; exact hty) (fun t ht hW => ⟨⟨?_, by rw [ht]; exact hH'⟩, hS'.F ht⟩) hS'.2.2 hdg B.notSynchronized
    simp only [ovz, hty]
    rfl
variable {p : Program} {e : Env} {R : Room} {s : State} {m : MethodId} {args : Array Value} {below : List Frame} {meth : Method} {c : Code} {H : Heap} {locs : List Loc} {cells slots : Nat} {Q : State → Prop} {pc : Nat} {y : vMD} {D : vDD} {mm : vMM} {z : vZZ} {ls : Array Slot} {L st : List Value}
theorem call_go {zm : vMD} {o : vOU} {mc ms : Nat} {st0 rest : List Value} {a : Array Value}
    (hr : va_Run p l e R s m args below meth c H locs cells slots mc ms (F0 m pc ls st0) rest (qcZ b Lx B0 xs Dg cy zm o a) (AA B0)) (hS : va_S (AA B0) s.heap H locs)
    (kk : ∀ (H1 : Heap) (locs1 : List Loc), HR b B0 Lx xs Dg cy o.2.1 o.2.2.1 o.2.2.2 H1 → va_S (AA B0) s.heap H1 locs1 → W p l e R s m args below meth c H1 locs1 (cells + mc) (slots + ms) Q (F0 m (pc + 3) ls ((ovz b B0 zm o.1).toList ++ rest))) :
    W p l e R s m args below meth c H locs cells slots Q (F0 m pc ls st0) := by
  intro T hT X
  obtain ⟨v, st₀, t, T', L', h0, X', hL', e1, e2, ⟨⟨hv, hHt⟩, hz, hk⟩, stp⟩ := hr T hT X
  cases hv
  rw [h0] at hz hk
  obtain ⟨t2, a1, b1⟩ := kk T'.heap (locs ++ L') (by rw [e1]; exact hHt) ⟨Nat.le_trans hS.1 (by rw [e1]; exact hz), fun q h1 h2 => by rw [e1, hk q (Nat.lt_of_lt_of_le h1 hS.1) h2]; exact hS.2.1 q h1 h2, fun q hq => by
      rcases List.mem_append.mp hq with h | h
      · exact hS.2.2 q h
      · exact hL' q h⟩ T' rfl X'
  exact ⟨t2, stp t2 a1, b1⟩
theorem pc_blind {vs : List Value} : FrameBlind (pcZ b Lx B0 xs Dg cy vs D mm z) := fun a U g mk h => ⟨h.1, h.2.1, h.2.2.1.blind g mk a, h.2.2.2⟩
theorem pc_at (C : CX b Lx xs Dg cy B0 y p R s m args meth c) (hH : HR b B0 Lx xs Dg cy D mm z H) (hS : va_S (AA B0) s.heap H locs) (vs : List Value) : ∀ U : State, U.heap = H → s.WarmedH U.vm → pcZ b Lx B0 xs Dg cy vs D mm z (vs.map (rvV b B0)).toArray U := by
  intro U hU hW
  obtain ⟨-, -, hKF, -, hbB, hsB⟩ := C
  refine ⟨rfl, by rw [hU]; exact hH, hKF.moved hW ?_, hbB, ?_⟩
  · rw [hU]
    exact hS.2.1 b (by omega) (by show ¬ B0 + 1 ≤ b; omega)
  · rw [hU]
    exact Nat.le_trans hsB hS.1
theorem goodZ {zm : vMD} (hy : yOK zm) : GoodIn BG (wsZ zm) := by
  intro w hw
  rcases List.mem_cons.mp hw with h | h
  · subst h
    exact ⟨hy.1, good_of_word (bg_good hy.1)⟩
  · exact ⟨h, good_of_word (bg_good h)⟩
theorem lk_room {zm : vMD} (hy : yOK zm) (C : CX b Lx xs Dg cy B0 y p R s m args meth c) (h : mht zm < mht y) {mc ms : Nat} : (rmZ zm mc ms).frames + 1 ≤ R.frames ∧ 8 + (mnl zm + 11) + (rmZ zm mc ms).locals ≤ R.locals := by
  obtain ⟨-, -, -, ⟨hfr, hlo⟩, -⟩ := C
  have := hy.2.2.2.2.1
  constructor
  · show mht zm + 1 ≤ R.frames
    omega
  · show 8 + (mnl zm + 11) + 31 * mht zm ≤ R.locals
    omega
set_option maxHeartbeats 8000000 in
theorem step_key (hSND : SNDf l b Lx xs Dg cy B0 f) (C : CX b Lx xs Dg cy B0 y p R s m args meth c) (hH : HR b B0 Lx xs Dg cy D mm z H) (hL : LR b B0 y L ls) (hS : va_S (AA B0) s.heap H locs) {i : Jvm.ClassFile.Instr} {len : Nat} (hdg : decode (mbc y) pc = .ok (i, len)) {zm : vMD} {c0 : vCF} {kf : vOU → vCF}
    {o : vOU} (hrun : run f zm c0 = some o) (hroom : cells + o.2.2.2.1 ≤ R.cells + z.1 ∧ slots + o.2.2.2.2 ≤ R.slots + z.2)
    (kk : KK l b Lx B0 xs Dg cy y p e R s m args below meth c cells slots Q z (kf o)) : ∀ (idx kd na : Nat) (vs rest : List Value), mOK (mow y) (idx, zm, kd, na) → gC y zm vs rest pc L D mm z = some (.inr (.inr (zm, c0, kf))) →
      (entOK zm vs = true ∧ mht zm < mht y ∧ c0 = (0, entL (mnl zm) vs, [], D, mm, z) ∧ rest.length ≤ 4 ∧
       ∀ (a : Array Value) (st0 : List Value), va_Run p l e R s m args below meth c H locs cells slots (o.2.2.2.1 - z.1) (o.2.2.2.2 - z.2) (F0 m pc ls st0) (rest.map (rvV b B0)) (qcZ b Lx B0 xs Dg cy zm o a) (AA B0) → W p l e R s m args below meth c H locs cells slots Q (F0 m pc ls st0)) := by
  have hrz := run_z _ _ _ _ hrun
  obtain ⟨⟨hx, hb, hr, hml⟩, ⟨hown, hts, hlocks, hini⟩, hKF, ⟨hfr, hlo⟩, -⟩ := id C
  intro idx kd na vs rest hm hg
  unfold gC at hg
  obtain ⟨h1, h2⟩ := ite_some hg
  simp only [Bool.and_eq_true, decide_eq_true_eq] at h1
  cases h2
  refine ⟨h1.2.2, h1.1, rfl, h1.2.1, fun a st0 hrn => call_go hrn hS (fun H1 locs1 e1 e2 => ?_)⟩
  dsimp only at hrz
  have hk2 := kk H1 locs1 ls (cells + (o.2.2.2.1 - z.1)) (slots + (o.2.2.2.2 - z.2)) e1 hL e2 (by dsimp only; omega) (by dsimp only; omega)
  dsimp only at hk2
  unfold ovz
  by_cases hn : (mrt zm).isNone = true
  · rw [if_pos hn] at hk2 ⊢
    exact hk2
  · rw [if_neg hn] at hk2 ⊢
    exact hk2
set_option maxHeartbeats 8000000 in
theorem step_virt (hSND : SNDf l b Lx xs Dg cy B0 f) (C : CX b Lx xs Dg cy B0 y p R s m args meth c) (hH : HR b B0 Lx xs Dg cy D mm z H) (hL : LR b B0 y L ls) (hS : va_S (AA B0) s.heap H locs) {i : Jvm.ClassFile.Instr} {len : Nat} (hdg : decode (mbc y) pc = .ok (i, len)) {zm : vMD} {c0 : vCF} {kf : vOU → vCF}
    {o : vOU} (hrun : run f zm c0 = some o) (hroom : cells + o.2.2.2.1 ≤ R.cells + z.1 ∧ slots + o.2.2.2.2 ≤ R.slots + z.2)
    (kk : KK l b Lx B0 xs Dg cy y p e R s m args below meth c cells slots Q z (kf o)) : ∀ (idx kd na : Nat) (hm : mOK (mow y) (idx, zm, kd, na)), gV y zm na pc L st D mm z = some (.inr (.inr (zm, c0, kf))) → ((kd = 0 ∧ i = .invokevirtual idx) ∨ ((kd = 2 ∨ kd = 6) ∧ i = .invokespecial idx)) → len = 3 → W p l e R s m args below meth c H locs cells slots Q (F0 m pc ls (st.map (rvV b B0))) := by
  have hrz := run_z _ _ _ _ hrun
  obtain ⟨⟨hx, hb, hr, hml⟩, ⟨hown, hts, hlocks, hini⟩, hKF, ⟨hfr, hlo⟩, -⟩ := id C
  have key := step_key (e := e) (below := below) hSND C hH hL hS hdg hrun hroom kk
  intro idx kd na hm hg hi hlen
  unfold gV at hg
  split at hg
  · rename_i a rest hst
    obtain ⟨h1, h2⟩ := ite_some hg
    simp only [Bool.and_eq_true, beq_iff_eq, decide_eq_true_eq] at h1
    obtain ⟨hent, hht, hc0, hlen4, go⟩ := key idx kd na _ _ hm h2
    rw [hc0] at hrun
    obtain ⟨hy, hlink, hdesc, hkind⟩ := hm
    dsimp only at hy hlink hdesc hkind
    have hM := met_of hSND hy hent hrun
    have hstk : st.map (rvV b B0) = (((st.take na).reverse).map (rvV b B0)).reverse ++ .ref (ad b B0 a) :: rest.map (rvV b B0) := by
      rw [List.map_reverse, List.reverse_reverse]
      show st.map (rvV b B0) = (st.take na).map (rvV b B0) ++ ((.ref a :: rest : List Value).map (rvV b B0))
      rw [← hst, ← List.map_append, List.take_append_drop]
    have hna : (((st.take na).reverse).map (rvV b B0)).length = na := by
      rw [List.length_map, List.length_reverse, List.length_take]
      omega
    have hsum : ((rest.map (rvV b B0)).map fun v => v.category).sum ≤ 8 := by
      have h3 := sum_cat (rest.map (rvV b B0))
      rw [List.length_map] at h3
      omega
    rw [hstk]
    have hmow : mow zm < 8 := by rcases hkind with h | h | h <;> first | exact h.2.1 | (rcases hi with ⟨q, -⟩ | ⟨q, -⟩ <;> omega)
    have hin := hH.in (a := a) (by omega)
    obtain ⟨cell, q1, q2, q3, -⟩ : t_OB (B0 + a) (Dg.1 (mow zm)) (NN (mow zm)) (Dg.2 (mow zm)) H (vv b B0 (D a) (mm a)) := by
      rcases hH.2.2.2 a hin.1 hin.2.1 with ⟨-, h⟩ | ⟨h, -, -⟩
      · rw [h1.1] at h
        exact h
      · omega
    have hcell : ∃ cellB : Cell, H[ad b B0 a]? = some cellB ∧ cellB.vm.isStatics = false ∧ s.vm.findClass (mym zm).cls = some cellB.cls := ⟨cell, by rw [hin.2.2]; exact q1, by rw [q3]; rfl, by rw [q2, hy.2.2.2.2.2]; exact (hKF.1.1 _ _ (nk_cl _ hmow)).2.1⟩
    have hfit : cells + (o.2.2.2.1 - z.1) ≤ R.cells ∧ slots + (o.2.2.2.2 - z.2) ≤ R.slots := by
      rw [hc0] at hrz
      dsimp only at hrz
      omega
    have hPat := pc_at C hH hS (.ref a :: (st.take na).reverse)
    rcases hi with ⟨hkd, hi⟩ | ⟨hkd, hi⟩
    · subst hi
      subst hkd
      rw [if_pos (by omega)] at hlink
      rcases hkind with h | h | h
      · have cb := callB_of (R := R) (Ts := BG) (own := RN (mow y)) (index := idx) (rm := rmZ zm (o.2.2.2.1 - z.1) (o.2.2.2.2 - z.2)) na hts (goodZ hy) rfl rfl rfl (hts _ hy.2.1) (hts _ hlink) ⟨hy.2.2.1.1, hy.2.2.1.2, hdesc⟩ (lk_room hy C hht)
        exact go _ _ (va_runV (C := (mym zm).cls) ⟨hx, hb, hml, hown, hts⟩ hM ⟨cb, hts _ h.2.2.1, hts _ h.2.2.2⟩ ⟨pc_blind, hcell, hPat⟩ rfl hna hL.2.1 rfl (lv_room hsum) (by rw [hlen] at hdg; exact hdg) hfit)
      · exact absurd h.1 (by omega)
      · exact absurd h.1 (by omega)
    · subst hi
      rcases hkind with h | h | h
      · exact absurd h.1 (by omega)
      · exact absurd h.1 (by omega)
      · obtain ⟨h3, -, hret, hnm, hins⟩ := h
        rcases h3 with h3 | h3
        · subst h3
          rw [if_pos (by omega)] at hlink
          have cb := callB_of (R := R) (Ts := BG) (own := RN (mow y)) (index := idx) (rm := rmZ zm (o.2.2.2.1 - z.1) (o.2.2.2.2 - z.2)) na hts (goodZ hy) rfl rfl rfl (hts _ hy.2.1) (hts _ hlink) ⟨hy.2.2.1.1, hy.2.2.1.2, hdesc⟩ (lk_room hy C hht)
          rw [hret] at cb
          exact go _ _ (va_runI ⟨hx, hb, hml, hown, hts⟩ hM ⟨cb, hnm, hts _ hins⟩ ⟨pc_blind, hPat⟩ rfl hna hL.2.1 rfl (lv_room hsum) (by rw [hlen] at hdg; exact hdg) hfit)
        · subst h3
          rw [if_neg (by omega)] at hlink
          have cb := va_cnB (R := R) (own := RN (mow y)) (index := idx) (rm := rmZ zm (o.2.2.2.1 - z.1) (o.2.2.2.2 - z.2)) na hts (goodZ hy) rfl rfl rfl (hKF.2.2.1 _ hlink) (hts _ hy.2.1) ⟨hy.2.2.1.1, hy.2.2.1.2, hdesc⟩ (lk_room hy C hht)
          rw [hret] at cb
          exact go _ _ (va_runIN ⟨hx, hb, hml, hown, hts⟩ hM ⟨cb, hnm, hts _ hins⟩ ⟨pc_blind, hPat⟩ rfl hna hL.2.1 rfl (lv_room hsum) (by rw [hlen] at hdg; exact hdg) hfit)
  · cases hg
set_option maxHeartbeats 8000000 in
theorem step_stat (hSND : SNDf l b Lx xs Dg cy B0 f) (C : CX b Lx xs Dg cy B0 y p R s m args meth c) (hH : HR b B0 Lx xs Dg cy D mm z H) (hL : LR b B0 y L ls) (hS : va_S (AA B0) s.heap H locs) {i : Jvm.ClassFile.Instr} {len : Nat} (hdg : decode (mbc y) pc = .ok (i, len)) {zm : vMD} {c0 : vCF} {kf : vOU → vCF}
    {o : vOU} (hrun : run f zm c0 = some o) (hroom : cells + o.2.2.2.1 ≤ R.cells + z.1 ∧ slots + o.2.2.2.2 ≤ R.slots + z.2)
    (kk : KK l b Lx B0 xs Dg cy y p e R s m args below meth c cells slots Q z (kf o)) : ∀ (idx kd na : Nat) (hm : mOK (mow y) (idx, zm, kd, na)), gS y zm na pc L st D mm z = some (.inr (.inr (zm, c0, kf))) → (kd = 1 ∨ kd = 5) → i = .invokestatic idx → len = 3 → W p l e R s m args below meth c H locs cells slots Q (F0 m pc ls (st.map (rvV b B0))) := by
  have hrz := run_z _ _ _ _ hrun
  obtain ⟨⟨hx, hb, hr, hml⟩, ⟨hown, hts, hlocks, hini⟩, hKF, ⟨hfr, hlo⟩, -⟩ := id C
  have key := step_key (e := e) (below := below) hSND C hH hL hS hdg hrun hroom kk
  intro idx kd na hm hg hkd hi hlen
  subst hi
  unfold gS at hg
  split at hg
  · rename_i hle
    obtain ⟨hent, hht, hc0, hlen4, go⟩ := key idx kd na _ _ hm hg
    rw [hc0] at hrun
    obtain ⟨hy, hlink, hdesc, hkind⟩ := hm
    dsimp only at hy hlink hdesc hkind
    have hM := met_of hSND hy hent hrun
    have hstk : st.map (rvV b B0) = (((st.take na).reverse).map (rvV b B0)).reverse ++ (st.drop na).map (rvV b B0) := by
      rw [List.map_reverse, List.reverse_reverse, ← List.map_append, List.take_append_drop]
    have hna : (((st.take na).reverse).map (rvV b B0)).length = na := by
      rw [List.length_map, List.length_reverse, List.length_take]
      omega
    have hsum : (((st.drop na).map (rvV b B0)).map fun v => v.category).sum ≤ 8 := by
      have h3 := sum_cat ((st.drop na).map (rvV b B0))
      rw [List.length_map] at h3
      omega
    rw [hstk]
    have hfit : cells + (o.2.2.2.1 - z.1) ≤ R.cells ∧ slots + (o.2.2.2.2 - z.2) ≤ R.slots := by
      rw [hc0] at hrz
      dsimp only at hrz
      omega
    have hPat := pc_at C hH hS ((st.take na).reverse)
    rcases hkind with h | h | h
    · exact absurd h.1 (by omega)
    · rcases hkd with hkd | hkd
      · subst hkd
        rw [if_pos (by omega)] at hlink
        have cb := callB_of (R := R) (Ts := BG) (own := RN (mow y)) (index := idx) (rm := rmZ zm (o.2.2.2.1 - z.1) (o.2.2.2.2 - z.2)) na hts (goodZ hy) rfl rfl rfl (hts _ hy.2.1) (hts _ hlink) ⟨hy.2.2.1.1, hy.2.2.1.2, hdesc⟩ (lk_room hy C hht)
        exact go _ _ (va_runS ⟨hx, hb, hml, hown, hts⟩ hM ⟨cb, hts _ h.2⟩ ⟨pc_blind, hPat⟩ rfl hna hL.2.1 rfl (lv_room hsum) (by rw [hlen] at hdg; exact hdg) hfit)
      · subst hkd
        rw [if_neg (by omega)] at hlink
        have cb := va_cnB (R := R) (own := RN (mow y)) (index := idx) (rm := rmZ zm (o.2.2.2.1 - z.1) (o.2.2.2.2 - z.2)) na hts (goodZ hy) rfl rfl rfl (hKF.2.2.1 _ hlink) (hts _ hy.2.1) ⟨hy.2.2.1.1, hy.2.2.1.2, hdesc⟩ (lk_room hy C hht)
        exact go _ _ (va_runSN ⟨hx, hb, hml, hown, hts⟩ hM ⟨cb, hts _ h.2, trivial⟩ ⟨pc_blind, hPat⟩ rfl hna hL.2.1 rfl (lv_room hsum) (by rw [hlen] at hdg; exact hdg) hfit)
    · exact absurd h.1 (by omega)
  · cases hg
set_option maxHeartbeats 8000000 in
theorem step_call (hSND : SNDf l b Lx xs Dg cy B0 f) (C : CX b Lx xs Dg cy B0 y p R s m args meth c) (hH : HR b B0 Lx xs Dg cy D mm z H) (hL : LR b B0 y L ls) (hS : va_S (AA B0) s.heap H locs) {i : Jvm.ClassFile.Instr} {len : Nat} (hdg : decode (mbc y) pc = .ok (i, len)) {zm : vMD} {c0 : vCF} {kf : vOU → vCF} (hq : nxi y i len pc L st D mm z = some (.inr (.inr (zm, c0, kf))))
    {o : vOU} (hrun : run f zm c0 = some o) (hroom : cells + o.2.2.2.1 ≤ R.cells + z.1 ∧ slots + o.2.2.2.2 ≤ R.slots + z.2)
    (kk : KK l b Lx B0 xs Dg cy y p e R s m args below meth c cells slots Q z (kf o)) : W p l e R s m args below meth c H locs cells slots Q (F0 m pc ls (st.map (rvV b B0))) := by
  have virt := step_virt (st := st) (e := e) (below := below) hSND C hH hL hS hdg hrun hroom kk
  have stat := step_stat (st := st) (e := e) (below := below) hSND C hH hL hS hdg hrun hroom kk
  clear hSND C hH hL hS hdg hrun hroom kk
  by_cases hinv : isInv i = false
  · exact (nc_nxi hinv _ hq).elim
  cases i <;> first
    | exact absurd rfl hinv
    | simp only [nxi] at hq
  case invokevirtual idx =>
    obtain ⟨h1, hq⟩ := ite_some hq
    split at hq
    · rename_i q hv
      obtain ⟨h2, hq⟩ := ite_some hq
      have hzm : q.1 = zm := by
        unfold gV at hq
        split at hq
        · obtain ⟨-, hq⟩ := ite_some hq
          unfold gC at hq
          obtain ⟨-, hq⟩ := ite_some hq
          cases hq
          rfl
        · cases hq
      obtain ⟨q1, q2, q3⟩ := q
      dsimp only at hzm hq h2
      subst hzm
      exact virt idx q2 q3 (lk_m hv) hq (Or.inl ⟨eq_of_beq h2, rfl⟩) (eq_of_beq h1)
    · cases hq
  case invokestatic idx =>
    obtain ⟨h1, hq⟩ := ite_some hq
    split at hq
    · split at hq
      · obtain ⟨-, hq⟩ := ite_some hq
        cases hq
      · cases hq
    · split at hq
      · rename_i q hv
        obtain ⟨h2, hq⟩ := ite_some hq
        simp only [Bool.or_eq_true, beq_iff_eq] at h2
        have hzm : q.1 = zm := by
          unfold gS at hq
          split at hq
          · unfold gC at hq
            obtain ⟨-, hq⟩ := ite_some hq
            cases hq
            rfl
          · cases hq
        obtain ⟨q1, q2, q3⟩ := q
        dsimp only at hzm hq h2
        subst hzm
        exact stat idx q2 q3 (lk_m hv) hq h2 rfl (eq_of_beq h1)
      · cases hq
  case invokespecial idx =>
    obtain ⟨h1, hq⟩ := ite_some hq
    split at hq
    · split at hq
      · obtain ⟨-, hq⟩ := ite_some hq
        cases hq
      · cases hq
    · split at hq
      · rename_i q hv
        obtain ⟨h2, hq⟩ := ite_some hq
        simp only [Bool.or_eq_true, beq_iff_eq] at h2
        have hzm : q.1 = zm := by
          unfold gV at hq
          split at hq
          · obtain ⟨-, hq⟩ := ite_some hq
            unfold gC at hq
            obtain ⟨-, hq⟩ := ite_some hq
            cases hq
            rfl
          · cases hq
        obtain ⟨q1, q2, q3⟩ := q
        dsimp only at hzm hq h2
        subst hzm
        exact virt idx q2 q3 (lk_m hv) hq (Or.inr ⟨h2, rfl⟩) (eq_of_beq h1)
      · cases hq
end ALL
/-! which instructions end -/
theorem ret_inv {y : vMD} {i : Jvm.ClassFile.Instr} {len pc : Nat} {L st : List Value} {D : vDD} {mm : vMM} {z : vZZ} {o : vOU} (hdg : decode (mbc y) pc = .ok (i, len)) (hi : i = .ireturn ∨ i = .return_) (h : nxi y i len pc L st D mm z = some (.inr (.inl o))) :
    RI y pc o.1 ∧ o.2.1 = D ∧ o.2.2.1 = mm ∧ o.2.2.2 = z ∧ st.map (rvV 0 0) = rst o.1 ∧ ∀ b B0, st.map (rvV b B0) = rst o.1 := by
  rcases hi with rfl | rfl
  · simp only [nxi] at h
    obtain ⟨h1, h⟩ := ite_some h
    rw [eq_of_beq h1] at hdg
    unfold gRet at h
    split at h
    · rename_i v ty hty _old
      obtain ⟨h2, h⟩ := ite_some h
      cases h
      exact ⟨Or.inl ⟨_, rfl, hdg, _, hty, eq_of_beq h2⟩, rfl, rfl, rfl, rfl, fun _ _ => rfl⟩
    · cases h
  · simp only [nxi] at h
    obtain ⟨h1, h⟩ := ite_some h
    rw [eq_of_beq h1] at hdg
    split at h
    · obtain ⟨h2, h⟩ := ite_some h
      cases h
      exact ⟨Or.inr ⟨rfl, hdg, by simpa using h2⟩, rfl, rfl, rfl, rfl, fun _ _ => rfl⟩
    · cases h
def nrP (r : Option vST) : Prop := ∀ q, r = some (.inr (.inl q)) → False
theorem nr_none : nrP none := fun _ h => by cases h
theorem nr_gO {pc : Nat} {L st : List Value} {D : vDD} {mm : vMM} {z : vZZ} : nrP (gO pc L st D mm z) := fun _ h => by cases h
theorem nr_ite {c : Bool} {r : Option vST} (h : nrP r) : nrP (if c = true then r else none) := by
  split
  · exact h
  · exact nr_none
theorem nr_gJ {t : Option Nat} {L st : List Value} {D : vDD} {mm : vMM} {z : vZZ} : nrP (gJ t L st D mm z) := by
  unfold gJ
  split
  · exact nr_gO
  · exact nr_none
theorem nr_gLd {L : List Value} {k pc : Nat} {st : List Value} {D : vDD} {mm : vMM} {z : vZZ} : nrP (gLd L k pc st D mm z) ∧ nrP (gLdR L k pc st D mm z) ∧ nrP (gLdL L k pc st D mm z) := by
  refine ⟨?_, ?_, ?_⟩
  · unfold gLd; split
    · exact nr_gO
    · exact nr_none
  · unfold gLdR; split
    · exact nr_gO
    · exact nr_none
  · unfold gLdL; split
    · exact nr_gO
    · exact nr_none
theorem nr_gSt {y : vMD} {L : List Value} {k pc : Nat} {st : List Value} {D : vDD} {mm : vMM} {z : vZZ} : nrP (gSt y L k pc st D mm z) ∧ nrP (gStR y L k pc st D mm z) ∧ nrP (gStL y L k pc st D mm z) := by
  refine ⟨?_, ?_, ?_⟩
  · unfold gSt; split
    · exact nr_ite nr_gO
    · exact nr_none
  · unfold gStR; split
    · exact nr_ite nr_gO
    · exact nr_none
  · unfold gStL; split
    · exact nr_ite nr_gO
    · exact nr_none
theorem nr_g2 {f : Int32 → Int32 → Int32} {f2 : Int64 → Int64 → Int64} {f3 : Int64 → Int32 → Int64} {pc : Nat} {L st : List Value} {D : vDD} {mm : vMM} {z : vZZ} : nrP (gI2 f pc L st D mm z) ∧ nrP (gL2 f2 pc L st D mm z) ∧ nrP (gLS f3 pc L st D mm z) := by
  refine ⟨?_, ?_, ?_⟩
  · unfold gI2; split
    · exact nr_gO
    · exact nr_none
  · unfold gL2; split
    · exact nr_gO
    · exact nr_none
  · unfold gLS; split
    · exact nr_gO
    · exact nr_none
theorem nr_gPut {y : vMD} {ci k pc : Nat} {L st : List Value} {D : vDD} {mm : vMM} {z : vZZ} : nrP (gPut y ci k pc L st D mm z) := by
  unfold gPut
  refine nr_ite ?_
  split
  · exact nr_ite nr_gO
  · exact nr_ite nr_gO
  · exact nr_none
theorem nr_gGet {ci k pc : Nat} {L st : List Value} {D : vDD} {mm : vMM} {z : vZZ} : nrP (gGet ci k pc L st D mm z) := by
  unfold gGet
  split
  · refine nr_ite ?_
    split
    · split
      · exact nr_gO
      · exact nr_none
    · exact nr_gO
  · exact nr_none
theorem nr_gC {y zm : vMD} {args rest : List Value} {pc : Nat} {L : List Value} {D : vDD} {mm : vMM} {z : vZZ} : nrP (gC y zm args rest pc L D mm z) := by
  unfold gC
  exact nr_ite (fun _ h => by cases h)
theorem nr_gV {y zm : vMD} {na pc : Nat} {L st : List Value} {D : vDD} {mm : vMM} {z : vZZ} : nrP (gV y zm na pc L st D mm z) := by
  unfold gV
  split
  · exact nr_ite nr_gC
  · exact nr_none
theorem nr_gS {y zm : vMD} {na pc : Nat} {L st : List Value} {D : vDD} {mm : vMM} {z : vZZ} : nrP (gS y zm na pc L st D mm z) := by
  unfold gS
  split
  · exact nr_gC
  · exact nr_none
theorem nr_nxi {y : vMD} {i : Jvm.ClassFile.Instr} {len pc : Nat} {L st : List Value} {D : vDD} {mm : vMM} {z : vZZ} (h : ¬ (i = .ireturn ∨ i = .return_)) : nrP (nxi y i len pc L st D mm z) := by
  unfold nxi
  split <;> (try exact nr_none) <;> (try (exact absurd (Or.inl rfl) h)) <;> (try (exact absurd (Or.inr rfl) h)) <;>
    repeat' (first
      | exact nr_none | exact nr_gO | exact nr_gJ | exact nr_gV | exact nr_gS | exact nr_gLd.1 | exact nr_gLd.2.1 | exact nr_gLd.2.2 | exact nr_gSt.1 | exact nr_gSt.2.1 | exact nr_gSt.2.2
      | exact (nr_g2 (f2 := fun x _ => x) (f3 := fun x _ => x)).1 | exact (nr_g2 (f := fun x _ => x) (f3 := fun x _ => x)).2.1 | exact (nr_g2 (f := fun x _ => x) (f2 := fun x _ => x)).2.2
      | exact nr_gPut | exact nr_gGet
      | split)
theorem snd_all {l : Launch} {b Lx B0 : Nat} {xs : Nat → Int32} {Dg : va_G} {cy : Nat → ClassId} : ∀ f : Nat, SNDf l b Lx xs Dg cy B0 f
  | 0 => fun _ _ _ h => by cases h
  | f + 1 => by
    have ih := snd_all (l := l) (b := b) (Lx := Lx) (B0 := B0) (xs := xs) (Dg := Dg) (cy := cy) f
    intro y c0 o hrun p e R s m args below meth c H locs cells slots Q ls hC hH hL hS hroom K
    obtain ⟨pc, L, st, D, mm, z⟩ := c0
    dsimp only at hH hL hroom K ⊢
    have hr0 := hrun
    simp only [run, bdy] at hrun
    cases hn : nxt y (pc, L, st, D, mm, z) with
    | none => rw [hn] at hrun; cases hrun
    | some q =>
      rw [hn] at hrun
      have hzq := nz_nxt hn
      unfold nxt at hn
      dsimp only at hn
      cases hdec : decode (mbc y) pc with
      | error _ => rw [hdec] at hn; cases hn
      | ok r =>
        obtain ⟨i, len⟩ := r
        rw [hdec] at hn
        dsimp only at hn
        rcases q with c' | o' | q
        · dsimp only at hrun
          have h2 := run_z f y c' o hrun
          refine step_go hC hH hL hS hdec hn ⟨?_, ?_⟩ ⟨?_, ?_⟩ ?_
          · have := hzq.1; omega
          · have := hzq.2; omega
          · have h3 : z.1 ≤ c'.2.2.2.2.2.1 := hzq.1; omega
          · have h3 : z.2 ≤ c'.2.2.2.2.2.2 := hzq.2; omega
          · intro H1 locs1 ls1 k1 n1 hH1 hL1 hS1 hk hn1
            have h3 : z.1 ≤ c'.2.2.2.2.2.1 := hzq.1
            have h4 : z.2 ≤ c'.2.2.2.2.2.2 := hzq.2
            exact ih y c' o hrun p e R s m args below meth c H1 locs1 k1 n1 Q ls1 hC hH1 hL1 hS1 ⟨by omega, by omega⟩ (fun pc' ls' H' locs' k2 n2 a1 a2 a3 a4 a5 => K pc' ls' H' locs' k2 n2 a1 a2 (by omega) (by omega) a5)
        · dsimp only at hrun
          cases hrun
          by_cases hi : i = .ireturn ∨ i = .return_
          · obtain ⟨h1, h2, h3, h4, -, h6⟩ := ret_inv hdec hi hn
            rw [h6 b B0]
            exact K pc ls H locs cells slots (by rw [h2, h3, h4]; exact hH) hS (by rw [h4]) (by rw [h4]) h1
          · exact (nr_nxi hi _ hn).elim
        · obtain ⟨zm, c1, kf⟩ := q
          dsimp only at hrun
          cases hr : run f zm c1 with
          | none => rw [hr] at hrun; cases hrun
          | some o1 =>
            rw [hr] at hrun
            have h1 := run_z f _ _ _ hr
            have h2 := run_z f _ _ _ hrun
            have h3 := hzq.2 o1
            have h4 : z.1 ≤ c1.2.2.2.2.2.1 ∧ z.2 ≤ c1.2.2.2.2.2.2 := hzq.1
            dsimp only at h3
            refine step_call ih hC hH hL hS hdec hn hr ⟨by omega, by omega⟩ ?_
            intro H1 locs1 ls1 k1 n1 hH1 hL1 hS1 hk hn1
            exact ih y (kf o1) o hrun p e R s m args below meth c H1 locs1 k1 n1 Q ls1 hC hH1 hL1 hS1 ⟨by omega, by omega⟩ (fun pc' ls' H' locs' k2 n2 a1 a2 a3 a4 a5 => K pc' ls' H' locs' k2 n2 a1 a2 (by omega) (by omega) a5)
end
section
/-! rows: an instruction, an equation of runs -/
section ROWS
variable {y zm : vMD} {pc : Nat} {L L' st rest : List Value} {D : vDD} {mm : vMM} {z : vZZ} {Q : Value → vDD → vMM → vZZ → Prop}
theorem R_mk {i : Jvm.ClassFile.Instr} {len pc' : Nat} {L' st' : List Value} {D' : vDD} {m' : vMM} {z' : vZZ} (hd : decode (mbc y) pc = .ok (i, len)) (h : nxi y i len pc L st D mm z = gO pc' L' st' D' m' z') : Runs y pc L st D mm z Q = Runs y pc' L' st' D' m' z' Q :=
  Runs_go (by unfold nxt; dsimp only; rw [hd]; exact h)
theorem R_if {i : Jvm.ClassFile.Instr} {len : Nat} {pc' : Nat} {L' st' : List Value} {D' : vDD} {m' : vMM} {z' : vZZ} {c : Bool} {P : Prop} (hP : c = true ↔ P) (hd : decode (mbc y) pc = .ok (i, len)) (h : nxi y i len pc L st D mm z = if c = true then gO pc' L' st' D' m' z' else none) : Runs y pc L st D mm z Q = (P ∧ Runs y pc' L' st' D' m' z' Q) := by
  by_cases hc : c = true
  · rw [if_pos hc] at h
    rw [R_mk hd h]
    exact propext ⟨fun h => ⟨hP.mp hc, h⟩, fun h => h.2⟩
  · rw [if_neg hc] at h
    rw [Runs_no (by unfold nxt; dsimp only; rw [hd]; exact h)]
    exact propext ⟨False.elim, fun h => hc (hP.mpr h.1)⟩
theorem R_iconst {n : Int} {v : Int32} (hd : decode (mbc y) pc = .ok (.iconst n, 1)) (hv : Int32.ofInt n = v) : Runs y pc L st D mm z Q = Runs y (pc + 1) L (.int v :: st) D mm z Q := R_mk hd (by rw [← hv]; rfl)
theorem R_bipush {n : Int} {v : Int32} (hd : decode (mbc y) pc = .ok (.bipush n, 2)) (hv : (Int8.ofInt n).toInt32 = v) : Runs y pc L st D mm z Q = Runs y (pc + 2) L (.int v :: st) D mm z Q := R_mk hd (by rw [← hv]; rfl)
theorem R_sipush {n : Int} {v : Int32} (hd : decode (mbc y) pc = .ok (.sipush n, 3)) (hv : (Int16.ofInt n).toInt32 = v) : Runs y pc L st D mm z Q = Runs y (pc + 3) L (.int v :: st) D mm z Q := R_mk hd (by rw [← hv]; rfl)
theorem R_lconst {n : Fin 2} {v : Int64} (hd : decode (mbc y) pc = .ok (.lconst n, 1)) (hv : Int64.ofNat (n : Nat) = v) : Runs y pc L st D mm z Q = Runs y (pc + 1) L (.long v :: st) D mm z Q := R_mk hd (by rw [← hv]; rfl)
theorem R_ldc {idx : Nat} {v : Int32} (hd : decode (mbc y) pc = .ok (.ldc idx, 2)) (hv : lk (cL (mow y)) idx = some v) : Runs y pc L st D mm z Q = Runs y (pc + 2) L (.int v :: st) D mm z Q := R_mk hd (by simp only [nxi, hv]; rfl)
theorem R_ldcw {idx : Nat} {v : Int32} (hd : decode (mbc y) pc = .ok (.ldc_w idx, 3)) (hv : lk (cL (mow y)) idx = some v) : Runs y pc L st D mm z Q = Runs y (pc + 3) L (.int v :: st) D mm z Q := R_mk hd (by simp only [nxi, hv]; rfl)
theorem R_ldc2 {idx : Nat} {v : Int64} (hd : decode (mbc y) pc = .ok (.ldc2_w idx, 3)) (hv : lk (lL (mow y)) idx = some v) : Runs y pc L st D mm z Q = Runs y (pc + 3) L (.long v :: st) D mm z Q := R_mk hd (by simp only [nxi, hv]; rfl)
theorem R_iload_n {k : Fin 4} {x : Int32} (hd : decode (mbc y) pc = .ok (.iload_n k, 1)) (h : L[(k : Nat)]? = some (.int x)) : Runs y pc L st D mm z Q = Runs y (pc + 1) L (.int x :: st) D mm z Q := R_mk hd (by simp only [nxi, gLd, h]; rfl)
theorem R_iload {k : Nat} {x : Int32} (hd : decode (mbc y) pc = .ok (.iload k, 2)) (h : L[k]? = some (.int x)) : Runs y pc L st D mm z Q = Runs y (pc + 2) L (.int x :: st) D mm z Q := R_mk hd (by simp only [nxi, gLd, h]; rfl)
theorem R_aload_n {k : Fin 4} {x : Nat} (hd : decode (mbc y) pc = .ok (.aload_n k, 1)) (h : L[(k : Nat)]? = some (.ref x)) : Runs y pc L st D mm z Q = Runs y (pc + 1) L (.ref x :: st) D mm z Q := R_mk hd (by simp only [nxi, gLdR, h]; rfl)
theorem R_aload {k x : Nat} (hd : decode (mbc y) pc = .ok (.aload k, 2)) (h : L[k]? = some (.ref x)) : Runs y pc L st D mm z Q = Runs y (pc + 2) L (.ref x :: st) D mm z Q := R_mk hd (by simp only [nxi, gLdR, h]; rfl)
theorem R_lload_n {k : Fin 4} {x : Int64} (hd : decode (mbc y) pc = .ok (.lload_n k, 1)) (h : L[(k : Nat)]? = some (.long x)) : Runs y pc L st D mm z Q = Runs y (pc + 1) L (.long x :: st) D mm z Q := R_mk hd (by simp only [nxi, gLdL, h]; rfl)
theorem R_lload {k : Nat} {x : Int64} (hd : decode (mbc y) pc = .ok (.lload k, 2)) (h : L[k]? = some (.long x)) : Runs y pc L st D mm z Q = Runs y (pc + 2) L (.long x :: st) D mm z Q := R_mk hd (by simp only [nxi, gLdL, h]; rfl)
theorem R_istore_n {k : Fin 4} {x : Int32} (hd : decode (mbc y) pc = .ok (.istore_n k, 1)) (ho : okS y L k = true) (h : L.set k (.int x) = L') : Runs y pc L (.int x :: st) D mm z Q = Runs y (pc + 1) L' st D mm z Q := R_mk hd (by simp only [nxi, gSt, ho, ← h]; rfl)
theorem R_istore {k : Nat} {x : Int32} (hd : decode (mbc y) pc = .ok (.istore k, 2)) (ho : okS y L k = true) (h : L.set k (.int x) = L') : Runs y pc L (.int x :: st) D mm z Q = Runs y (pc + 2) L' st D mm z Q := R_mk hd (by simp only [nxi, gSt, ho, ← h]; rfl)
theorem R_astore_n {k : Fin 4} {x : Nat} (hd : decode (mbc y) pc = .ok (.astore_n k, 1)) (ho : okS y L k = true) (h : L.set k (.ref x) = L') : Runs y pc L (.ref x :: st) D mm z Q = Runs y (pc + 1) L' st D mm z Q := R_mk hd (by simp only [nxi, gStR, ho, ← h]; rfl)
theorem R_astore {k x : Nat} (hd : decode (mbc y) pc = .ok (.astore k, 2)) (ho : okS y L k = true) (h : L.set k (.ref x) = L') : Runs y pc L (.ref x :: st) D mm z Q = Runs y (pc + 2) L' st D mm z Q := R_mk hd (by simp only [nxi, gStR, ho, ← h]; rfl)
theorem R_lstore_n {k : Fin 4} {x : Int64} (hd : decode (mbc y) pc = .ok (.lstore_n k, 1)) (ho : okS2 y L k = true) (h : (L.set k (.long x)).set (k + 1) vJ = L') : Runs y pc L (.long x :: st) D mm z Q = Runs y (pc + 1) L' st D mm z Q := R_mk hd (by simp only [nxi, gStL, ho, ← h]; rfl)
theorem R_lstore {k : Nat} {x : Int64} (hd : decode (mbc y) pc = .ok (.lstore k, 2)) (ho : okS2 y L k = true) (h : (L.set k (.long x)).set (k + 1) vJ = L') : Runs y pc L (.long x :: st) D mm z Q = Runs y (pc + 2) L' st D mm z Q := R_mk hd (by simp only [nxi, gStL, ho, ← h]; rfl)
theorem R_iinc {k : Nat} {n : Int} {x v : Int32} (hd : decode (mbc y) pc = .ok (.iinc k n, 3)) (hx : L[k]? = some (.int x)) (ho : okS y L k = true) (hv : Int32.ofInt n = v) (h : L.set k (.int (x + v)) = L') : Runs y pc L st D mm z Q = Runs y (pc + 3) L' st D mm z Q := R_mk hd (by simp only [nxi, hx, ho, ← h, ← hv]; rfl)
theorem R_iadd {x v : Int32} (hd : decode (mbc y) pc = .ok (.iadd, 1)) : Runs y pc L (.int v :: .int x :: st) D mm z Q = Runs y (pc + 1) L (.int (x + v) :: st) D mm z Q := R_mk hd rfl
theorem R_isub {x v : Int32} (hd : decode (mbc y) pc = .ok (.isub, 1)) : Runs y pc L (.int v :: .int x :: st) D mm z Q = Runs y (pc + 1) L (.int (x - v) :: st) D mm z Q := R_mk hd rfl
theorem R_imul {x v : Int32} (hd : decode (mbc y) pc = .ok (.imul, 1)) : Runs y pc L (.int v :: .int x :: st) D mm z Q = Runs y (pc + 1) L (.int (x * v) :: st) D mm z Q := R_mk hd rfl
theorem R_iand {x v : Int32} (hd : decode (mbc y) pc = .ok (.iand, 1)) : Runs y pc L (.int v :: .int x :: st) D mm z Q = Runs y (pc + 1) L (.int (x &&& v) :: st) D mm z Q := R_mk hd rfl
theorem R_ior {x v : Int32} (hd : decode (mbc y) pc = .ok (.ior, 1)) : Runs y pc L (.int v :: .int x :: st) D mm z Q = Runs y (pc + 1) L (.int (x ||| v) :: st) D mm z Q := R_mk hd rfl
theorem R_ixor {x v : Int32} (hd : decode (mbc y) pc = .ok (.ixor, 1)) : Runs y pc L (.int v :: .int x :: st) D mm z Q = Runs y (pc + 1) L (.int (x ^^^ v) :: st) D mm z Q := R_mk hd rfl
theorem R_ishl {x v : Int32} (hd : decode (mbc y) pc = .ok (.ishl, 1)) : Runs y pc L (.int v :: .int x :: st) D mm z Q = Runs y (pc + 1) L (.int (x <<< (v &&& 31)) :: st) D mm z Q := R_mk hd rfl
theorem R_ishr {x v : Int32} (hd : decode (mbc y) pc = .ok (.ishr, 1)) : Runs y pc L (.int v :: .int x :: st) D mm z Q = Runs y (pc + 1) L (.int (x >>> (v &&& 31)) :: st) D mm z Q := R_mk hd rfl
theorem R_iushr {x v : Int32} (hd : decode (mbc y) pc = .ok (.iushr, 1)) : Runs y pc L (.int v :: .int x :: st) D mm z Q = Runs y (pc + 1) L (.int (x.toUInt32 >>> (v.toUInt32 &&& Int32.toUInt32 31)).toInt32 :: st) D mm z Q := R_mk hd rfl
theorem R_land {x v : Int64} (hd : decode (mbc y) pc = .ok (.land, 1)) : Runs y pc L (.long v :: .long x :: st) D mm z Q = Runs y (pc + 1) L (.long (x &&& v) :: st) D mm z Q := R_mk hd rfl
theorem R_lor {x v : Int64} (hd : decode (mbc y) pc = .ok (.lor, 1)) : Runs y pc L (.long v :: .long x :: st) D mm z Q = Runs y (pc + 1) L (.long (x ||| v) :: st) D mm z Q := R_mk hd rfl
theorem R_lshl {x : Int64} {v : Int32} (hd : decode (mbc y) pc = .ok (.lshl, 1)) : Runs y pc L (.int v :: .long x :: st) D mm z Q = Runs y (pc + 1) L (.long (x <<< (v.toInt64 &&& 63)) :: st) D mm z Q := R_mk hd rfl
theorem R_lushr {x : Int64} {v : Int32} (hd : decode (mbc y) pc = .ok (.lushr, 1)) : Runs y pc L (.int v :: .long x :: st) D mm z Q = Runs y (pc + 1) L (.long (x.toUInt64 >>> (v.toInt64.toUInt64 &&& Int64.toUInt64 63)).toInt64 :: st) D mm z Q := R_mk hd rfl
theorem R_i2l {x : Int32} (hd : decode (mbc y) pc = .ok (.i2l, 1)) : Runs y pc L (.int x :: st) D mm z Q = Runs y (pc + 1) L (.long x.toInt64 :: st) D mm z Q := R_mk hd rfl
theorem R_l2i {x : Int64} (hd : decode (mbc y) pc = .ok (.l2i, 1)) : Runs y pc L (.long x :: st) D mm z Q = Runs y (pc + 1) L (.int x.toInt32 :: st) D mm z Q := R_mk hd rfl
theorem R_lcmp {x v : Int64} (hd : decode (mbc y) pc = .ok (.lcmp, 1)) : Runs y pc L (.long v :: .long x :: st) D mm z Q = Runs y (pc + 1) L (.int (lg_cmp x v) :: st) D mm z Q := R_mk hd rfl
theorem R_dupI {x : Int32} (hd : decode (mbc y) pc = .ok (.dup, 1)) : Runs y pc L (.int x :: st) D mm z Q = Runs y (pc + 1) L (.int x :: .int x :: st) D mm z Q := R_mk hd rfl
theorem R_dupR {x : Nat} (hd : decode (mbc y) pc = .ok (.dup, 1)) : Runs y pc L (.ref x :: st) D mm z Q = Runs y (pc + 1) L (.ref x :: .ref x :: st) D mm z Q := R_mk hd rfl
theorem R_dup2 {x : Int32} {a : Nat} (hd : decode (mbc y) pc = .ok (.dup2, 1)) : Runs y pc L (.int x :: .ref a :: st) D mm z Q = Runs y (pc + 1) L (.int x :: .ref a :: .int x :: .ref a :: st) D mm z Q := R_mk hd rfl
theorem R_popI {x : Int32} (hd : decode (mbc y) pc = .ok (.pop, 1)) : Runs y pc L (.int x :: st) D mm z Q = Runs y (pc + 1) L st D mm z Q := R_mk hd rfl
theorem R_popR {x : Nat} (hd : decode (mbc y) pc = .ok (.pop, 1)) : Runs y pc L (.ref x :: st) D mm z Q = Runs y (pc + 1) L st D mm z Q := R_mk hd rfl
theorem R_goto {off : Int} {t : Nat} (hd : decode (mbc y) pc = .ok (.goto off, 3)) (ht : jmp pc off = some t) : Runs y pc L st D mm z Q = Runs y t L st D mm z Q := R_mk hd (by simp only [nxi, ht]; rfl)
theorem cmpB_ne {P : Prop} {b : Bool} (h : b = true ↔ P) {A B : Prop} [Decidable P] : (if b = true then A else B) = (if P then A else B) := by
  by_cases hp : P
  · rw [if_pos hp, if_pos (h.mpr hp)]
  · rw [if_neg hp, if_neg (fun q => hp (h.mp q))]
theorem R_br {i : Jvm.ClassFile.Instr} {c : Bool} {t : Nat} {P : Prop} [Decidable P] (hP : c = true ↔ P) (hd : decode (mbc y) pc = .ok (i, 3)) (h : nxi y i 3 pc L rest D mm z = gO (if c = true then t else pc + 3) L st D mm z) : Runs y pc L rest D mm z Q = (if P then Runs y t L st D mm z Q else Runs y (pc + 3) L st D mm z Q) := by
  rw [R_mk hd h, ← cmpB_ne hP]
  split <;> rfl
theorem R_ifeq {off : Int} {t : Nat} {x : Int32} (hd : decode (mbc y) pc = .ok (.ifCond .eq off, 3)) (ht : jmp pc off = some t) : Runs y pc L (.int x :: st) D mm z Q = (if x = 0 then Runs y t L st D mm z Q else Runs y (pc + 3) L st D mm z Q) := R_br (c := cmpB .eq x 0) (by simp [cmpB]) hd (by simp only [nxi, ht]; rfl)
theorem R_ifne {off : Int} {t : Nat} {x : Int32} (hd : decode (mbc y) pc = .ok (.ifCond .ne off, 3)) (ht : jmp pc off = some t) : Runs y pc L (.int x :: st) D mm z Q = (if x = 0 then Runs y (pc + 3) L st D mm z Q else Runs y t L st D mm z Q) := by
  rw [R_br (c := cmpB .ne x 0) (P := ¬ x = 0) (t := t) (by simp [cmpB]) hd (by simp only [nxi, ht]; rfl)]
  by_cases h : x = 0 <;> simp [h]
theorem R_iflt {off : Int} {t : Nat} {x : Int32} (hd : decode (mbc y) pc = .ok (.ifCond .lt off, 3)) (ht : jmp pc off = some t) : Runs y pc L (.int x :: st) D mm z Q = (if x < 0 then Runs y t L st D mm z Q else Runs y (pc + 3) L st D mm z Q) := R_br (c := cmpB .lt x 0) (by simp only [cmpB, decide_eq_true_eq]) hd (by simp only [nxi, ht]; rfl)
theorem R_ifge {off : Int} {t : Nat} {x : Int32} (hd : decode (mbc y) pc = .ok (.ifCond .ge off, 3)) (ht : jmp pc off = some t) : Runs y pc L (.int x :: st) D mm z Q = (if 0 ≤ x then Runs y t L st D mm z Q else Runs y (pc + 3) L st D mm z Q) := R_br (c := cmpB .ge x 0) (by simp only [cmpB, decide_eq_true_eq]) hd (by simp only [nxi, ht]; rfl)
theorem R_ifgt {off : Int} {t : Nat} {x : Int32} (hd : decode (mbc y) pc = .ok (.ifCond .gt off, 3)) (ht : jmp pc off = some t) : Runs y pc L (.int x :: st) D mm z Q = (if 0 < x then Runs y t L st D mm z Q else Runs y (pc + 3) L st D mm z Q) := R_br (c := cmpB .gt x 0) (by simp only [cmpB, decide_eq_true_eq]) hd (by simp only [nxi, ht]; rfl)
theorem R_ifle {off : Int} {t : Nat} {x : Int32} (hd : decode (mbc y) pc = .ok (.ifCond .le off, 3)) (ht : jmp pc off = some t) : Runs y pc L (.int x :: st) D mm z Q = (if x ≤ 0 then Runs y t L st D mm z Q else Runs y (pc + 3) L st D mm z Q) := R_br (c := cmpB .le x 0) (by simp only [cmpB, decide_eq_true_eq]) hd (by simp only [nxi, ht]; rfl)
theorem R_iceq {off : Int} {t : Nat} {x v : Int32} (hd : decode (mbc y) pc = .ok (.if_icmp .eq off, 3)) (ht : jmp pc off = some t) : Runs y pc L (.int v :: .int x :: st) D mm z Q = (if x = v then Runs y t L st D mm z Q else Runs y (pc + 3) L st D mm z Q) := R_br (c := cmpB .eq x v) (by simp [cmpB]) hd (by simp only [nxi, ht]; rfl)
theorem R_icne {off : Int} {t : Nat} {x v : Int32} (hd : decode (mbc y) pc = .ok (.if_icmp .ne off, 3)) (ht : jmp pc off = some t) : Runs y pc L (.int v :: .int x :: st) D mm z Q = (if x = v then Runs y (pc + 3) L st D mm z Q else Runs y t L st D mm z Q) := by
  rw [R_br (c := cmpB .ne x v) (P := ¬ x = v) (t := t) (by simp [cmpB]) hd (by simp only [nxi, ht]; rfl)]
  by_cases h : x = v <;> simp [h]
theorem R_iclt {off : Int} {t : Nat} {x v : Int32} (hd : decode (mbc y) pc = .ok (.if_icmp .lt off, 3)) (ht : jmp pc off = some t) : Runs y pc L (.int v :: .int x :: st) D mm z Q = (if x < v then Runs y t L st D mm z Q else Runs y (pc + 3) L st D mm z Q) := R_br (c := cmpB .lt x v) (by simp only [cmpB, decide_eq_true_eq]) hd (by simp only [nxi, ht]; rfl)
theorem R_icge {off : Int} {t : Nat} {x v : Int32} (hd : decode (mbc y) pc = .ok (.if_icmp .ge off, 3)) (ht : jmp pc off = some t) : Runs y pc L (.int v :: .int x :: st) D mm z Q = (if v ≤ x then Runs y t L st D mm z Q else Runs y (pc + 3) L st D mm z Q) := R_br (c := cmpB .ge x v) (by simp only [cmpB, decide_eq_true_eq]) hd (by simp only [nxi, ht]; rfl)
theorem R_icgt {off : Int} {t : Nat} {x v : Int32} (hd : decode (mbc y) pc = .ok (.if_icmp .gt off, 3)) (ht : jmp pc off = some t) : Runs y pc L (.int v :: .int x :: st) D mm z Q = (if v < x then Runs y t L st D mm z Q else Runs y (pc + 3) L st D mm z Q) := R_br (c := cmpB .gt x v) (by simp only [cmpB, decide_eq_true_eq]) hd (by simp only [nxi, ht]; rfl)
theorem R_icle {off : Int} {t : Nat} {x v : Int32} (hd : decode (mbc y) pc = .ok (.if_icmp .le off, 3)) (ht : jmp pc off = some t) : Runs y pc L (.int v :: .int x :: st) D mm z Q = (if x ≤ v then Runs y t L st D mm z Q else Runs y (pc + 3) L st D mm z Q) := R_br (c := cmpB .le x v) (by simp only [cmpB, decide_eq_true_eq]) hd (by simp only [nxi, ht]; rfl)
theorem R_getI {idx a ci j : Nat} (hd : decode (mbc y) pc = .ok (.getfield idx, 3)) (hf : lk (fL (mow y)) idx = some (ci, j)) (hr : rT ci j = false) : Runs y pc L (.ref a :: st) D mm z Q = ((D a).1 = ci ∧ Runs y (pc + 3) L (.int (mm a j) :: st) D mm z Q) := R_if (c := (D a).1 == ci) (by simp) hd (by simp only [nxi, hf, gGet, hr]; rfl)
theorem R_getR {idx a ci j : Nat} (hd : decode (mbc y) pc = .ok (.getfield idx, 3)) (hf : lk (fL (mow y)) idx = some (ci, j)) (hr : rT ci j = true) : Runs y pc L (.ref a :: st) D mm z Q = ((D a).1 = ci ∧ match (D a).2.2 j with
    | some r => Runs y (pc + 3) L (.ref r :: st) D mm z Q
    | none => False) := by
  cases h : (D a).2.2 j with
  | some r => exact R_if (c := (D a).1 == ci) (by simp) hd (by simp only [nxi, hf, gGet, hr, h]; rfl)
  | none =>
    rw [Runs_no (by unfold nxt; dsimp only; rw [hd]; simp only [nxi, hf, gGet, hr, h]; split <;> first | rfl | (split <;> rfl))]
    simp
theorem R_putI {idx a ci j : Nat} {x : Int32} (hd : decode (mbc y) pc = .ok (.putfield idx, 3)) (hf : lk (fL (mow y)) idx = some (ci, j)) (hr : rT ci j = false) (ht : tyN ci j = .int) (hfin : (!(TN ci j).2.2.2 || ((mym y).name == "<init>" && (TN ci j).1 == RN (mow y))) = true) : Runs y pc L (.int x :: .ref a :: st) D mm z Q = ((D a).1 = ci ∧ Runs y (pc + 3) L st D (up2 mm a j x) z Q) := R_if (c := (D a).1 == ci && (!rT ci j && (fits (tyN ci j) (.int x) && narrow (tyN ci j) (.int x) == .int x))) (by rw [hr, ht]; simp [fits, narrow]) hd (by simp only [nxi, hf, gPut, hfin]; rfl)
theorem R_putZ {idx a ci j : Nat} {x : Int32} (hd : decode (mbc y) pc = .ok (.putfield idx, 3)) (hf : lk (fL (mow y)) idx = some (ci, j)) (hr : rT ci j = false) (ht : tyN ci j = .boolean) (hfin : (!(TN ci j).2.2.2 || ((mym y).name == "<init>" && (TN ci j).1 == RN (mow y))) = true) : Runs y pc L (.int x :: .ref a :: st) D mm z Q = (((D a).1 = ci ∧ (x = 0 ∨ x = 1)) ∧ Runs y (pc + 3) L st D (up2 mm a j x) z Q) := R_if (c := (D a).1 == ci && (!rT ci j && (fits (tyN ci j) (.int x) && narrow (tyN ci j) (.int x) == .int x))) (by
    rw [hr, ht]
    simp only [fits, Bool.and_eq_true, beq_iff_eq, Bool.not_false, Bool.or_eq_true, true_and]
    constructor
    · exact fun h => ⟨h.1, h.2.1⟩
    · intro h
      refine ⟨h.1, h.2, ?_⟩
      rcases h.2 with rfl | rfl <;> rfl) hd (by simp only [nxi, hf, gPut, hfin]; rfl)
theorem R_putR {idx a r ci j : Nat} (hd : decode (mbc y) pc = .ok (.putfield idx, 3)) (hf : lk (fL (mow y)) idx = some (ci, j)) (hr : rT ci j = true) (hfin : (!(TN ci j).2.2.2 || ((mym y).name == "<init>" && (TN ci j).1 == RN (mow y))) = true) : Runs y pc L (.ref r :: .ref a :: st) D mm z Q = ((D a).1 = ci ∧ Runs y (pc + 3) L st (upR D a j (some r)) mm z Q) := R_if (c := (D a).1 == ci && rT ci j) (by rw [hr]; simp) hd (by simp only [nxi, hf, gPut, hfin]; rfl)
theorem R_iald {a : Nat} {i : Int32} (hd : decode (mbc y) pc = .ok (.iaload, 1)) : Runs y pc L (.int i :: .ref a :: st) D mm z Q = ((((D a).1 = 8 ∨ (D a).1 = 20) ∧ inB i (D a).2.1 = true) ∧ Runs y (pc + 1) L (.int (mm a i.toNatClampNeg) :: st) D mm z Q) := R_if (c := ((D a).1 == 8 || (D a).1 == 20) && inB i (D a).2.1) (by simp) hd rfl
theorem R_iast {a : Nat} {i x : Int32} (hd : decode (mbc y) pc = .ok (.iastore, 1)) : Runs y pc L (.int x :: .int i :: .ref a :: st) D mm z Q = (((D a).1 = 8 ∧ inB i (D a).2.1 = true) ∧ Runs y (pc + 1) L st D (up2 mm a i.toNatClampNeg x) z Q) := R_if (c := (D a).1 == 8 && inB i (D a).2.1) (by simp) hd rfl
theorem R_bald {a : Nat} {i : Int32} (hd : decode (mbc y) pc = .ok (.baload, 1)) : Runs y pc L (.int i :: .ref a :: st) D mm z Q = (((D a).1 = 9 ∧ inB i (D a).2.1 = true) ∧ Runs y (pc + 1) L (.int (mm a i.toNatClampNeg) :: st) D mm z Q) := R_if (c := (D a).1 == 9 && inB i (D a).2.1) (by simp) hd rfl
theorem R_bast {a : Nat} {i x : Int32} (hd : decode (mbc y) pc = .ok (.bastore, 1)) : Runs y pc L (.int x :: .int i :: .ref a :: st) D mm z Q = (((D a).1 = 9 ∧ inB i (D a).2.1 = true ∧ (x = 0 ∨ x = 1)) ∧ Runs y (pc + 1) L st D (up2 mm a i.toNatClampNeg x) z Q) := R_if (c := (D a).1 == 9 && (inB i (D a).2.1 && fits .boolean (.int x))) (by simp [fits]) hd rfl
theorem R_aald {a : Nat} {i : Int32} (hd : decode (mbc y) pc = .ok (.aaload, 1)) : Runs y pc L (.int i :: .ref a :: st) D mm z Q = (((10 ≤ (D a).1 ∧ (D a).1 ≤ 12) ∧ inB i (D a).2.1 = true) ∧ match (D a).2.2 i.toNatClampNeg with
    | some r => Runs y (pc + 1) L (.ref r :: st) D mm z Q
    | none => False) := by
  cases h : (D a).2.2 i.toNatClampNeg with
  | some r => exact R_if (c := (decide (10 ≤ (D a).1) && decide ((D a).1 ≤ 12)) && inB i (D a).2.1) (by simp) hd (by simp only [nxi, h]; rfl)
  | none =>
    rw [Runs_no (by unfold nxt; dsimp only; rw [hd]; simp only [nxi, h]; split <;> first | rfl | (split <;> rfl))]
    simp
theorem R_aast {a r : Nat} {i : Int32} (hd : decode (mbc y) pc = .ok (.aastore, 1)) : Runs y pc L (.ref r :: .int i :: .ref a :: st) D mm z Q = ((((10 ≤ (D a).1 ∧ (D a).1 ≤ 12) ∧ inB i (D a).2.1 = true) ∧ (D r).1 = elK (D a).1) ∧ Runs y (pc + 1) L st (upR D a i.toNatClampNeg (some r)) mm z Q) := R_if (c := ((decide (10 ≤ (D a).1) && decide ((D a).1 ≤ 12)) && inB i (D a).2.1) && (D r).1 == elK (D a).1) (by simp) hd rfl
theorem R_alen {a : Nat} (hd : decode (mbc y) pc = .ok (.arraylength, 1)) : Runs y pc L (.ref a :: st) D mm z Q = ((D a).1 = 20 ∧ Runs y (pc + 1) L (.int (Int32.ofNat (D a).2.1) :: st) D mm z Q) := R_if (c := (D a).1 == 20) (by simp) hd rfl
theorem R_new {idx k : Nat} (hd : decode (mbc y) pc = .ok (.new idx, 3)) (hk : lk (kL (mow y)) idx = some k) : Runs y pc L st D mm z Q = Runs y (pc + 3) L (.ref z.1 :: st) (nwD D z.1 (k, 0, fun _ => none)) (nwM mm z.1) (z.1 + 1, z.2 + NN k) Q := R_mk hd (by simp only [nxi, hk]; rfl)
theorem R_newI {c : Int32} {n : Nat} (hd : decode (mbc y) pc = .ok (.newarray .int, 2)) (h0 : (!decide (c < 0) && decide (c.toNatClampNeg ≤ 4096)) = true) (hn : c.toNatClampNeg = n) : Runs y pc L (.int c :: st) D mm z Q = Runs y (pc + 2) L (.ref z.1 :: st) (nwD D z.1 (8, n, fun _ => none)) (nwM mm z.1) (z.1 + 1, z.2 + n) Q := R_mk hd (by simp only [nxi, h0, ← hn]; rfl)
theorem R_newZ {c : Int32} {n : Nat} (hd : decode (mbc y) pc = .ok (.newarray .boolean, 2)) (h0 : (!decide (c < 0) && decide (c.toNatClampNeg ≤ 4096)) = true) (hn : c.toNatClampNeg = n) : Runs y pc L (.int c :: st) D mm z Q = Runs y (pc + 2) L (.ref z.1 :: st) (nwD D z.1 (9, n, fun _ => none)) (nwM mm z.1) (z.1 + 1, z.2 + n) Q := R_mk hd (by simp only [nxi, h0, ← hn]; rfl)
theorem R_anew {c : Int32} {idx k n : Nat} (hd : decode (mbc y) pc = .ok (.anewarray idx, 3)) (hk : lk (kL (mow y)) idx = some k) (hk3 : (k == 0 || (k == 2 || k == 5)) = true) (h0 : (!decide (c < 0) && decide (c.toNatClampNeg ≤ 4096)) = true) (hn : c.toNatClampNeg = n) : Runs y pc L (.int c :: st) D mm z Q = Runs y (pc + 3) L (.ref z.1 :: st) (nwD D z.1 (arK k, n, fun _ => none)) (nwM mm z.1) (z.1 + 1, z.2 + n) Q := R_mk hd (by simp only [nxi, h0, hk, hk3, ← hn]; rfl)
theorem R_oinit {idx a : Nat} (hd : decode (mbc y) pc = .ok (.invokespecial idx, 3)) (ho : lk (oL (mow y)) idx = some ()) (hc : (decide (1 ≤ mht y) && decide (st.length ≤ 4)) = true) : Runs y pc L (.ref a :: st) D mm z Q = Runs y (pc + 3) L st D mm z Q := R_mk hd (by simp only [nxi, ho, hc]; rfl)
theorem R_min {idx : Nat} {x v : Int32} (hd : decode (mbc y) pc = .ok (.invokestatic idx, 3)) (ho : lk (pL (mow y)) idx = some ()) (hc : (decide (1 ≤ mht y) && decide (st.length ≤ 4)) = true) : Runs y pc L (.int v :: .int x :: st) D mm z Q = Runs y (pc + 3) L (.int (if v < x then v else x) :: st) D mm z Q := R_mk hd (by simp only [nxi, ho, hc]; rfl)
theorem R_vret (hd : decode (mbc y) pc = .ok (.return_, 1)) (hr : (mrt y).isNone = true) : Runs y pc L [] D mm z Q = Q vJ D mm z := Runs_end (by unfold nxt; dsimp only; rw [hd]; simp only [nxi, hr]; rfl)
theorem R_iret {v : Int32} (hd : decode (mbc y) pc = .ok (.ireturn, 1)) (hr : mrt y = some .int) : Runs y pc L [.int v] D mm z Q = Q (.int v) D mm z := Runs_end (by unfold nxt; dsimp only; rw [hd]; simp only [nxi, gRet, hr, narrow]; simp)
theorem R_zret {v : Int32} (hd : decode (mbc y) pc = .ok (.ireturn, 1)) (hr : mrt y = some .boolean) : Runs y pc L [.int v] D mm z Q = (narrow .boolean (.int v) = .int v ∧ Q (.int v) D mm z) := by
  by_cases h : narrow .boolean (.int v) = .int v
  · rw [Runs_end (v := .int v) (D' := D) (m' := mm) (z' := z) (by unfold nxt; dsimp only; rw [hd]; simp only [nxi, gRet, hr, h]; simp)]
    exact propext ⟨fun q => ⟨h, q⟩, fun q => q.2⟩
  · rw [Runs_no (by unfold nxt; dsimp only; rw [hd]; simp only [nxi, gRet, hr]; simp [h])]
    exact propext ⟨False.elim, fun q => h q.1⟩
theorem R_gC {i : Jvm.ClassFile.Instr} {args rest : List Value} {L0 : List Value} (hd : decode (mbc y) pc = .ok (i, 3)) (hx : nxi y i 3 pc L st D mm z = gC y zm args rest pc L D mm z) (hc : (decide (mht zm < mht y) && (decide (rest.length ≤ 4) && entOK zm args)) = true) (hL : entL (mnl zm) args = L0) (st' : Value → List Value) (hs : ∀ v, (if (mrt zm).isNone then rest else v :: rest) = st' v) :
    Runs y pc L st D mm z Q = Runs zm 0 L0 [] D mm z (fun v D1 m1 z1 => Runs y (pc + 3) L (st' v) D1 m1 z1 Q) := by
  rw [Runs_call (y := y) (zm := zm) (pc' := 0) (L' := []) (L0 := L0) (st0 := []) (D0 := D) (m0 := mm) (z0 := z) (k := fun o => (pc + 3, L, st' o.1, o.2.1, o.2.2.1, o.2.2.2)) (by
    unfold nxt; dsimp only; rw [hd]; dsimp only; rw [hx]; unfold gC; rw [if_pos hc, hL]
    refine congrArg (fun k => some (Sum.inr (Sum.inr (zm, (0, L0, [], D, mm, z), k)))) ?_
    funext o
    rw [hs])]
theorem R_callS {idx na kd : Nat} {args rest : List Value} {L0 : List Value} (hd : decode (mbc y) pc = .ok (.invokestatic idx, 3)) (hp : lk (pL (mow y)) idx = none) (hm : lk (mL (mow y)) idx = some (zm, kd, na)) (hk : (kd == 1 || kd == 5) = true) (hn : na ≤ st.length) (hst : (st.take na).reverse = args) (hsr : st.drop na = rest) (hc : (decide (mht zm < mht y) && (decide (rest.length ≤ 4) && entOK zm args)) = true) (hL : entL (mnl zm) args = L0) (st' : Value → List Value) (hs : ∀ v, (if (mrt zm).isNone then rest else v :: rest) = st' v) :
    Runs y pc L st D mm z Q = Runs zm 0 L0 [] D mm z (fun v D1 m1 z1 => Runs y (pc + 3) L (st' v) D1 m1 z1 Q) :=
  R_gC hd (by simp only [nxi, hp, hm, hk, gS, hst, hsr]; rw [if_pos hn]; rfl) hc hL st' hs
theorem R_callV {i : Jvm.ClassFile.Instr} {idx na kd a : Nat} {args rest : List Value} {L0 : List Value} (hd : decode (mbc y) pc = .ok (i, 3)) (hi : (i = .invokevirtual idx ∧ kd = 0) ∨ (i = .invokespecial idx ∧ lk (oL (mow y)) idx = none ∧ (kd == 2 || kd == 6) = true)) (hm : lk (mL (mow y)) idx = some (zm, kd, na)) (hn : na ≤ st.length) (hst : (.ref a :: (st.take na).reverse) = args) (hsr : st.drop na = .ref a :: rest) (hc : (decide (mht zm < mht y) && (decide (rest.length ≤ 4) && entOK zm args)) = true) (hL : entL (mnl zm) args = L0) (st' : Value → List Value) (hs : ∀ v, (if (mrt zm).isNone then rest else v :: rest) = st' v) :
    Runs y pc L st D mm z Q = ((D a).1 = mow zm ∧ Runs zm 0 L0 [] D mm z (fun v D1 m1 z1 => Runs y (pc + 3) L (st' v) D1 m1 z1 Q)) := by
  have hg : nxi y i 3 pc L st D mm z = gV y zm na pc L st D mm z := by
    rcases hi with ⟨rfl, rfl⟩ | ⟨rfl, h1, h2⟩
    · simp only [nxi, hm]
      rfl
    · simp only [nxi, hm, h1, h2]
      rfl
  by_cases h : (D a).1 = mow zm
  · have hx : nxi y i 3 pc L st D mm z = gC y zm args rest pc L D mm z := by
      rw [hg]
      unfold gV
      rw [hsr]
      dsimp only
      rw [if_pos (by simp [h, hn]), hst]
    rw [R_gC hd hx hc hL st' hs]
    exact propext ⟨fun q => ⟨h, q⟩, fun q => q.2⟩
  · rw [Runs_no (by
      unfold nxt; dsimp only; rw [hd]; dsimp only; rw [hg]; unfold gV; rw [hsr]; dsimp only
      rw [if_neg (by simp [h])])]
    exact propext ⟨False.elim, fun q => h q.1⟩
theorem R_swD {dflt lo hi : Int} {offs : Array Int} {len t : Nat} {x : Int32} (hd : decode (mbc y) pc = .ok (.tableswitch dflt lo hi offs, len)) (ht : jmp pc dflt = some t) (h : x.toInt < lo ∨ hi < x.toInt) : Runs y pc L (.int x :: st) D mm z Q = Runs y t L st D mm z Q :=
  R_mk hd (by
    simp only [nxi]
    rw [if_pos (by rcases h with q | q <;> simp [q]), ht]
    rfl)
theorem R_swL {dflt : Int} {ps : Array (Int × Int)} {len t : Nat} {x : Int32} (hd : decode (mbc y) pc = .ok (.lookupswitch dflt ps, len)) (hs : (ps.toList.zip (ps.toList.drop 1)).all (fun (a, next) => a.1 < next.1) = true) (ht : jmp pc (Op.lookupswitch.offset ps.toList dflt x.toInt) = some t) : Runs y pc L (.int x :: st) D mm z Q = Runs y t L st D mm z Q :=
  R_mk hd (by
    simp only [nxi]
    rw [if_pos hs, ht]
    rfl)
end ROWS
end
section
-- X0_init
theorem sX0_init_0  {x : Nat} {st : List Value} {D : vDD} {mm : vMM} {z : vZZ} {Q : Value → vDD → vMM → vZZ → Prop} : Runs MX0_init 0 [.ref x] st D mm z Q = Runs MX0_init 1 [.ref x] (.ref x :: st) D mm z Q := R_aload_n (by decide +kernel) rfl
theorem sX0_init_1 {a0 : Value} {a : Nat} {D : vDD} {mm : vMM} {z : vZZ} {Q : Value → vDD → vMM → vZZ → Prop} : Runs MX0_init 1 [a0] [.ref a] D mm z Q = Runs MX0_init 4 [a0] [] D mm z Q := R_oinit (by decide +kernel) rfl rfl
theorem sX0_init_4 {a0 : Value} {D : vDD} {mm : vMM} {z : vZZ} {Q : Value → vDD → vMM → vZZ → Prop} : Runs MX0_init 4 [a0] [] D mm z Q = Q vJ D mm z := R_vret (by decide +kernel) rfl
-- X0_start
theorem sX0_start_0 {a1 a2 : Value} {x : Nat} {st : List Value} {D : vDD} {mm : vMM} {z : vZZ} {Q : Value → vDD → vMM → vZZ → Prop} : Runs MX0_start 0 [.ref x, a1, a2] st D mm z Q = Runs MX0_start 1 [.ref x, a1, a2] (.ref x :: st) D mm z Q := R_aload_n (by decide +kernel) rfl
theorem sX0_start_1 {a0 a2 : Value} {x : Int32} {st : List Value} {D : vDD} {mm : vMM} {z : vZZ} {Q : Value → vDD → vMM → vZZ → Prop} : Runs MX0_start 1 [a0, .int x, a2] st D mm z Q = Runs MX0_start 2 [a0, .int x, a2] (.int x :: st) D mm z Q := R_iload_n (by decide +kernel) rfl
theorem sX0_start_2 {a0 a1 a2 : Value} {st : List Value} {a : Nat} {x : Int32} {D : vDD} {mm : vMM} {z : vZZ} {Q : Value → vDD → vMM → vZZ → Prop} : Runs MX0_start 2 [a0, a1, a2] (.int x :: .ref a :: st) D mm z Q = ((D a).1 = 0 ∧ Runs MX0_start 5 [a0, a1, a2] st D (up2 mm a 0 x) z Q) := R_putI (by decide +kernel) rfl rfl rfl (by decide +kernel)
theorem sX0_start_5 {a1 a2 : Value} {x : Nat} {st : List Value} {D : vDD} {mm : vMM} {z : vZZ} {Q : Value → vDD → vMM → vZZ → Prop} : Runs MX0_start 5 [.ref x, a1, a2] st D mm z Q = Runs MX0_start 6 [.ref x, a1, a2] (.ref x :: st) D mm z Q := R_aload_n (by decide +kernel) rfl
theorem sX0_start_6 {a0 a1 : Value} {x : Int32} {st : List Value} {D : vDD} {mm : vMM} {z : vZZ} {Q : Value → vDD → vMM → vZZ → Prop} : Runs MX0_start 6 [a0, a1, .int x] st D mm z Q = Runs MX0_start 7 [a0, a1, .int x] (.int x :: st) D mm z Q := R_iload_n (by decide +kernel) rfl
theorem sX0_start_7 {a0 a1 a2 : Value} {st : List Value} {a : Nat} {x : Int32} {D : vDD} {mm : vMM} {z : vZZ} {Q : Value → vDD → vMM → vZZ → Prop} : Runs MX0_start 7 [a0, a1, a2] (.int x :: .ref a :: st) D mm z Q = ((D a).1 = 0 ∧ Runs MX0_start 10 [a0, a1, a2] st D (up2 mm a 1 x) z Q) := R_putI (by decide +kernel) rfl rfl rfl (by decide +kernel)
theorem sX0_start_10 {a1 a2 : Value} {x : Nat} {st : List Value} {D : vDD} {mm : vMM} {z : vZZ} {Q : Value → vDD → vMM → vZZ → Prop} : Runs MX0_start 10 [.ref x, a1, a2] st D mm z Q = Runs MX0_start 11 [.ref x, a1, a2] (.ref x :: st) D mm z Q := R_aload_n (by decide +kernel) rfl
theorem sX0_start_11 {a0 a1 a2 : Value} {st : List Value} {D : vDD} {mm : vMM} {z : vZZ} {Q : Value → vDD → vMM → vZZ → Prop} : Runs MX0_start 11 [a0, a1, a2] st D mm z Q = Runs MX0_start 12 [a0, a1, a2] (.int 1 :: st) D mm z Q := R_iconst (by decide +kernel) (by decide +kernel)
theorem sX0_start_12 {a0 a1 a2 : Value} {st : List Value} {a : Nat} {x : Int32} {D : vDD} {mm : vMM} {z : vZZ} {Q : Value → vDD → vMM → vZZ → Prop} : Runs MX0_start 12 [a0, a1, a2] (.int x :: .ref a :: st) D mm z Q = (((D a).1 = 0 ∧ (x = 0 ∨ x = 1)) ∧ Runs MX0_start 15 [a0, a1, a2] st D (up2 mm a 2 x) z Q) := R_putZ (by decide +kernel) rfl rfl rfl (by decide +kernel)
theorem sX0_start_15 {a1 a2 : Value} {x : Nat} {st : List Value} {D : vDD} {mm : vMM} {z : vZZ} {Q : Value → vDD → vMM → vZZ → Prop} : Runs MX0_start 15 [.ref x, a1, a2] st D mm z Q = Runs MX0_start 16 [.ref x, a1, a2] (.ref x :: st) D mm z Q := R_aload_n (by decide +kernel) rfl
theorem sX0_start_16 {a0 a1 a2 : Value} {st : List Value} {D : vDD} {mm : vMM} {z : vZZ} {Q : Value → vDD → vMM → vZZ → Prop} : Runs MX0_start 16 [a0, a1, a2] st D mm z Q = Runs MX0_start 17 [a0, a1, a2] (.int 0 :: st) D mm z Q := R_iconst (by decide +kernel) (by decide +kernel)
theorem sX0_start_17 {a0 a1 a2 : Value} {st : List Value} {a : Nat} {x : Int32} {D : vDD} {mm : vMM} {z : vZZ} {Q : Value → vDD → vMM → vZZ → Prop} : Runs MX0_start 17 [a0, a1, a2] (.int x :: .ref a :: st) D mm z Q = ((D a).1 = 0 ∧ Runs MX0_start 20 [a0, a1, a2] st D (up2 mm a 5 x) z Q) := R_putI (by decide +kernel) rfl rfl rfl (by decide +kernel)
theorem sX0_start_20 {a1 a2 : Value} {x : Nat} {st : List Value} {D : vDD} {mm : vMM} {z : vZZ} {Q : Value → vDD → vMM → vZZ → Prop} : Runs MX0_start 20 [.ref x, a1, a2] st D mm z Q = Runs MX0_start 21 [.ref x, a1, a2] (.ref x :: st) D mm z Q := R_aload_n (by decide +kernel) rfl
theorem sX0_start_21 {a0 a1 a2 : Value} {a : Nat} {D : vDD} {mm : vMM} {z : vZZ} {Q : Value → vDD → vMM → vZZ → Prop} : Runs MX0_start 21 [a0, a1, a2] [.ref a] D mm z Q = ((D a).1 = 0 ∧ Runs MX0_becomeFree 0 [.ref a] [] D mm z (fun v D mm z => Runs MX0_start 24 [a0, a1, a2] [] D mm z Q)) := R_callV (i := .invokevirtual 25) (by decide +kernel) (Or.inl ⟨rfl, rfl⟩) rfl (by simp) rfl rfl rfl rfl (fun v => []) (fun _ => rfl)
theorem sX0_start_24 {a0 a1 a2 : Value} {D : vDD} {mm : vMM} {z : vZZ} {Q : Value → vDD → vMM → vZZ → Prop} : Runs MX0_start 24 [a0, a1, a2] [] D mm z Q = Q vJ D mm z := R_vret (by decide +kernel) rfl
-- X0_becomeFree
theorem sX0_becomeFree_0  {x : Nat} {st : List Value} {D : vDD} {mm : vMM} {z : vZZ} {Q : Value → vDD → vMM → vZZ → Prop} : Runs MX0_becomeFree 0 [.ref x] st D mm z Q = Runs MX0_becomeFree 1 [.ref x] (.ref x :: st) D mm z Q := R_aload_n (by decide +kernel) rfl
theorem sX0_becomeFree_1 {a0 : Value} {st : List Value} {D : vDD} {mm : vMM} {z : vZZ} {Q : Value → vDD → vMM → vZZ → Prop} : Runs MX0_becomeFree 1 [a0] st D mm z Q = Runs MX0_becomeFree 3 [a0] (.int (-6) :: st) D mm z Q := R_bipush (by decide +kernel) (by decide +kernel)
theorem sX0_becomeFree_3 {a0 : Value} {st : List Value} {a : Nat} {x : Int32} {D : vDD} {mm : vMM} {z : vZZ} {Q : Value → vDD → vMM → vZZ → Prop} : Runs MX0_becomeFree 3 [a0] (.int x :: .ref a :: st) D mm z Q = ((D a).1 = 0 ∧ Runs MX0_becomeFree 6 [a0] st D (up2 mm a 3 x) z Q) := R_putI (by decide +kernel) rfl rfl rfl (by decide +kernel)
theorem sX0_becomeFree_6  {x : Nat} {st : List Value} {D : vDD} {mm : vMM} {z : vZZ} {Q : Value → vDD → vMM → vZZ → Prop} : Runs MX0_becomeFree 6 [.ref x] st D mm z Q = Runs MX0_becomeFree 7 [.ref x] (.ref x :: st) D mm z Q := R_aload_n (by decide +kernel) rfl
theorem sX0_becomeFree_7 {a0 : Value} {st : List Value} {D : vDD} {mm : vMM} {z : vZZ} {Q : Value → vDD → vMM → vZZ → Prop} : Runs MX0_becomeFree 7 [a0] st D mm z Q = Runs MX0_becomeFree 8 [a0] (.int 0 :: st) D mm z Q := R_iconst (by decide +kernel) (by decide +kernel)
theorem sX0_becomeFree_8 {a0 : Value} {st : List Value} {a : Nat} {x : Int32} {D : vDD} {mm : vMM} {z : vZZ} {Q : Value → vDD → vMM → vZZ → Prop} : Runs MX0_becomeFree 8 [a0] (.int x :: .ref a :: st) D mm z Q = ((D a).1 = 0 ∧ Runs MX0_becomeFree 11 [a0] st D (up2 mm a 4 x) z Q) := R_putI (by decide +kernel) rfl rfl rfl (by decide +kernel)
theorem sX0_becomeFree_11 {a0 : Value} {D : vDD} {mm : vMM} {z : vZZ} {Q : Value → vDD → vMM → vZZ → Prop} : Runs MX0_becomeFree 11 [a0] [] D mm z Q = Q vJ D mm z := R_vret (by decide +kernel) rfl
-- X0_canTakeMore
theorem sX0_canTakeMore_0  {x : Nat} {st : List Value} {D : vDD} {mm : vMM} {z : vZZ} {Q : Value → vDD → vMM → vZZ → Prop} : Runs MX0_canTakeMore 0 [.ref x] st D mm z Q = Runs MX0_canTakeMore 1 [.ref x] (.ref x :: st) D mm z Q := R_aload_n (by decide +kernel) rfl
theorem sX0_canTakeMore_1 {a0 : Value} {st : List Value} {a : Nat} {D : vDD} {mm : vMM} {z : vZZ} {Q : Value → vDD → vMM → vZZ → Prop} : Runs MX0_canTakeMore 1 [a0] (.ref a :: st) D mm z Q = ((D a).1 = 0 ∧ Runs MX0_canTakeMore 4 [a0] (.int (mm a 2) :: st) D mm z Q) := R_getI (by decide +kernel) rfl rfl
theorem sX0_canTakeMore_4 {a0 : Value} {st : List Value} {x : Int32} {D : vDD} {mm : vMM} {z : vZZ} {Q : Value → vDD → vMM → vZZ → Prop} : Runs MX0_canTakeMore 4 [a0] (.int x :: st) D mm z Q = (if x = 0 then Runs MX0_canTakeMore 20 [a0] st D mm z Q else Runs MX0_canTakeMore 7 [a0] st D mm z Q) := R_ifeq (by decide +kernel) (by decide +kernel)
theorem sX0_canTakeMore_7  {x : Nat} {st : List Value} {D : vDD} {mm : vMM} {z : vZZ} {Q : Value → vDD → vMM → vZZ → Prop} : Runs MX0_canTakeMore 7 [.ref x] st D mm z Q = Runs MX0_canTakeMore 8 [.ref x] (.ref x :: st) D mm z Q := R_aload_n (by decide +kernel) rfl
theorem sX0_canTakeMore_8 {a0 : Value} {st : List Value} {a : Nat} {D : vDD} {mm : vMM} {z : vZZ} {Q : Value → vDD → vMM → vZZ → Prop} : Runs MX0_canTakeMore 8 [a0] (.ref a :: st) D mm z Q = ((D a).1 = 0 ∧ Runs MX0_canTakeMore 11 [a0] (.int (mm a 3) :: st) D mm z Q) := R_getI (by decide +kernel) rfl rfl
theorem sX0_canTakeMore_11 {a0 : Value} {st : List Value} {D : vDD} {mm : vMM} {z : vZZ} {Q : Value → vDD → vMM → vZZ → Prop} : Runs MX0_canTakeMore 11 [a0] st D mm z Q = Runs MX0_canTakeMore 13 [a0] (.int (-6) :: st) D mm z Q := R_bipush (by decide +kernel) (by decide +kernel)
theorem sX0_canTakeMore_13 {a0 : Value} {st : List Value} {x v : Int32} {D : vDD} {mm : vMM} {z : vZZ} {Q : Value → vDD → vMM → vZZ → Prop} : Runs MX0_canTakeMore 13 [a0] (.int v :: .int x :: st) D mm z Q = (if x = v then Runs MX0_canTakeMore 16 [a0] st D mm z Q else Runs MX0_canTakeMore 20 [a0] st D mm z Q) := R_icne (by decide +kernel) (by decide +kernel)
theorem sX0_canTakeMore_16 {a0 : Value} {st : List Value} {D : vDD} {mm : vMM} {z : vZZ} {Q : Value → vDD → vMM → vZZ → Prop} : Runs MX0_canTakeMore 16 [a0] st D mm z Q = Runs MX0_canTakeMore 17 [a0] (.int 1 :: st) D mm z Q := R_iconst (by decide +kernel) (by decide +kernel)
theorem sX0_canTakeMore_17 {a0 : Value} {st : List Value} {D : vDD} {mm : vMM} {z : vZZ} {Q : Value → vDD → vMM → vZZ → Prop} : Runs MX0_canTakeMore 17 [a0] st D mm z Q = Runs MX0_canTakeMore 21 [a0] st D mm z Q := R_goto (by decide +kernel) (by decide +kernel)
theorem sX0_canTakeMore_20 {a0 : Value} {st : List Value} {D : vDD} {mm : vMM} {z : vZZ} {Q : Value → vDD → vMM → vZZ → Prop} : Runs MX0_canTakeMore 20 [a0] st D mm z Q = Runs MX0_canTakeMore 21 [a0] (.int 0 :: st) D mm z Q := R_iconst (by decide +kernel) (by decide +kernel)
theorem sX0_canTakeMore_21 {a0 : Value} {v : Int32} {D : vDD} {mm : vMM} {z : vZZ} {Q : Value → vDD → vMM → vZZ → Prop} : Runs MX0_canTakeMore 21 [a0] [.int v] D mm z Q = (narrow .boolean (.int v) = .int v ∧ Q (.int v) D mm z) := R_zret (by decide +kernel) rfl
-- X0_copyFrom
theorem sX0_copyFrom_0 {a1 : Value} {x : Nat} {st : List Value} {D : vDD} {mm : vMM} {z : vZZ} {Q : Value → vDD → vMM → vZZ → Prop} : Runs MX0_copyFrom 0 [.ref x, a1] st D mm z Q = Runs MX0_copyFrom 1 [.ref x, a1] (.ref x :: st) D mm z Q := R_aload_n (by decide +kernel) rfl
theorem sX0_copyFrom_1 {a0 : Value} {x : Nat} {st : List Value} {D : vDD} {mm : vMM} {z : vZZ} {Q : Value → vDD → vMM → vZZ → Prop} : Runs MX0_copyFrom 1 [a0, .ref x] st D mm z Q = Runs MX0_copyFrom 2 [a0, .ref x] (.ref x :: st) D mm z Q := R_aload_n (by decide +kernel) rfl
theorem sX0_copyFrom_2 {a0 a1 : Value} {st : List Value} {a : Nat} {D : vDD} {mm : vMM} {z : vZZ} {Q : Value → vDD → vMM → vZZ → Prop} : Runs MX0_copyFrom 2 [a0, a1] (.ref a :: st) D mm z Q = ((D a).1 = 0 ∧ Runs MX0_copyFrom 5 [a0, a1] (.int (mm a 0) :: st) D mm z Q) := R_getI (by decide +kernel) rfl rfl
theorem sX0_copyFrom_5 {a0 a1 : Value} {st : List Value} {a : Nat} {x : Int32} {D : vDD} {mm : vMM} {z : vZZ} {Q : Value → vDD → vMM → vZZ → Prop} : Runs MX0_copyFrom 5 [a0, a1] (.int x :: .ref a :: st) D mm z Q = ((D a).1 = 0 ∧ Runs MX0_copyFrom 8 [a0, a1] st D (up2 mm a 0 x) z Q) := R_putI (by decide +kernel) rfl rfl rfl (by decide +kernel)
theorem sX0_copyFrom_8 {a1 : Value} {x : Nat} {st : List Value} {D : vDD} {mm : vMM} {z : vZZ} {Q : Value → vDD → vMM → vZZ → Prop} : Runs MX0_copyFrom 8 [.ref x, a1] st D mm z Q = Runs MX0_copyFrom 9 [.ref x, a1] (.ref x :: st) D mm z Q := R_aload_n (by decide +kernel) rfl
theorem sX0_copyFrom_9 {a0 : Value} {x : Nat} {st : List Value} {D : vDD} {mm : vMM} {z : vZZ} {Q : Value → vDD → vMM → vZZ → Prop} : Runs MX0_copyFrom 9 [a0, .ref x] st D mm z Q = Runs MX0_copyFrom 10 [a0, .ref x] (.ref x :: st) D mm z Q := R_aload_n (by decide +kernel) rfl
theorem sX0_copyFrom_10 {a0 a1 : Value} {st : List Value} {a : Nat} {D : vDD} {mm : vMM} {z : vZZ} {Q : Value → vDD → vMM → vZZ → Prop} : Runs MX0_copyFrom 10 [a0, a1] (.ref a :: st) D mm z Q = ((D a).1 = 0 ∧ Runs MX0_copyFrom 13 [a0, a1] (.int (mm a 1) :: st) D mm z Q) := R_getI (by decide +kernel) rfl rfl
theorem sX0_copyFrom_13 {a0 a1 : Value} {st : List Value} {a : Nat} {x : Int32} {D : vDD} {mm : vMM} {z : vZZ} {Q : Value → vDD → vMM → vZZ → Prop} : Runs MX0_copyFrom 13 [a0, a1] (.int x :: .ref a :: st) D mm z Q = ((D a).1 = 0 ∧ Runs MX0_copyFrom 16 [a0, a1] st D (up2 mm a 1 x) z Q) := R_putI (by decide +kernel) rfl rfl rfl (by decide +kernel)
theorem sX0_copyFrom_16 {a1 : Value} {x : Nat} {st : List Value} {D : vDD} {mm : vMM} {z : vZZ} {Q : Value → vDD → vMM → vZZ → Prop} : Runs MX0_copyFrom 16 [.ref x, a1] st D mm z Q = Runs MX0_copyFrom 17 [.ref x, a1] (.ref x :: st) D mm z Q := R_aload_n (by decide +kernel) rfl
theorem sX0_copyFrom_17 {a0 : Value} {x : Nat} {st : List Value} {D : vDD} {mm : vMM} {z : vZZ} {Q : Value → vDD → vMM → vZZ → Prop} : Runs MX0_copyFrom 17 [a0, .ref x] st D mm z Q = Runs MX0_copyFrom 18 [a0, .ref x] (.ref x :: st) D mm z Q := R_aload_n (by decide +kernel) rfl
theorem sX0_copyFrom_18 {a0 a1 : Value} {st : List Value} {a : Nat} {D : vDD} {mm : vMM} {z : vZZ} {Q : Value → vDD → vMM → vZZ → Prop} : Runs MX0_copyFrom 18 [a0, a1] (.ref a :: st) D mm z Q = ((D a).1 = 0 ∧ Runs MX0_copyFrom 21 [a0, a1] (.int (mm a 2) :: st) D mm z Q) := R_getI (by decide +kernel) rfl rfl
theorem sX0_copyFrom_21 {a0 a1 : Value} {st : List Value} {a : Nat} {x : Int32} {D : vDD} {mm : vMM} {z : vZZ} {Q : Value → vDD → vMM → vZZ → Prop} : Runs MX0_copyFrom 21 [a0, a1] (.int x :: .ref a :: st) D mm z Q = (((D a).1 = 0 ∧ (x = 0 ∨ x = 1)) ∧ Runs MX0_copyFrom 24 [a0, a1] st D (up2 mm a 2 x) z Q) := R_putZ (by decide +kernel) rfl rfl rfl (by decide +kernel)
theorem sX0_copyFrom_24 {a1 : Value} {x : Nat} {st : List Value} {D : vDD} {mm : vMM} {z : vZZ} {Q : Value → vDD → vMM → vZZ → Prop} : Runs MX0_copyFrom 24 [.ref x, a1] st D mm z Q = Runs MX0_copyFrom 25 [.ref x, a1] (.ref x :: st) D mm z Q := R_aload_n (by decide +kernel) rfl
theorem sX0_copyFrom_25 {a0 : Value} {x : Nat} {st : List Value} {D : vDD} {mm : vMM} {z : vZZ} {Q : Value → vDD → vMM → vZZ → Prop} : Runs MX0_copyFrom 25 [a0, .ref x] st D mm z Q = Runs MX0_copyFrom 26 [a0, .ref x] (.ref x :: st) D mm z Q := R_aload_n (by decide +kernel) rfl
theorem sX0_copyFrom_26 {a0 a1 : Value} {st : List Value} {a : Nat} {D : vDD} {mm : vMM} {z : vZZ} {Q : Value → vDD → vMM → vZZ → Prop} : Runs MX0_copyFrom 26 [a0, a1] (.ref a :: st) D mm z Q = ((D a).1 = 0 ∧ Runs MX0_copyFrom 29 [a0, a1] (.int (mm a 3) :: st) D mm z Q) := R_getI (by decide +kernel) rfl rfl
theorem sX0_copyFrom_29 {a0 a1 : Value} {st : List Value} {a : Nat} {x : Int32} {D : vDD} {mm : vMM} {z : vZZ} {Q : Value → vDD → vMM → vZZ → Prop} : Runs MX0_copyFrom 29 [a0, a1] (.int x :: .ref a :: st) D mm z Q = ((D a).1 = 0 ∧ Runs MX0_copyFrom 32 [a0, a1] st D (up2 mm a 3 x) z Q) := R_putI (by decide +kernel) rfl rfl rfl (by decide +kernel)
theorem sX0_copyFrom_32 {a1 : Value} {x : Nat} {st : List Value} {D : vDD} {mm : vMM} {z : vZZ} {Q : Value → vDD → vMM → vZZ → Prop} : Runs MX0_copyFrom 32 [.ref x, a1] st D mm z Q = Runs MX0_copyFrom 33 [.ref x, a1] (.ref x :: st) D mm z Q := R_aload_n (by decide +kernel) rfl
theorem sX0_copyFrom_33 {a0 : Value} {x : Nat} {st : List Value} {D : vDD} {mm : vMM} {z : vZZ} {Q : Value → vDD → vMM → vZZ → Prop} : Runs MX0_copyFrom 33 [a0, .ref x] st D mm z Q = Runs MX0_copyFrom 34 [a0, .ref x] (.ref x :: st) D mm z Q := R_aload_n (by decide +kernel) rfl
theorem sX0_copyFrom_34 {a0 a1 : Value} {st : List Value} {a : Nat} {D : vDD} {mm : vMM} {z : vZZ} {Q : Value → vDD → vMM → vZZ → Prop} : Runs MX0_copyFrom 34 [a0, a1] (.ref a :: st) D mm z Q = ((D a).1 = 0 ∧ Runs MX0_copyFrom 37 [a0, a1] (.int (mm a 4) :: st) D mm z Q) := R_getI (by decide +kernel) rfl rfl
theorem sX0_copyFrom_37 {a0 a1 : Value} {st : List Value} {a : Nat} {x : Int32} {D : vDD} {mm : vMM} {z : vZZ} {Q : Value → vDD → vMM → vZZ → Prop} : Runs MX0_copyFrom 37 [a0, a1] (.int x :: .ref a :: st) D mm z Q = ((D a).1 = 0 ∧ Runs MX0_copyFrom 40 [a0, a1] st D (up2 mm a 4 x) z Q) := R_putI (by decide +kernel) rfl rfl rfl (by decide +kernel)
theorem sX0_copyFrom_40 {a1 : Value} {x : Nat} {st : List Value} {D : vDD} {mm : vMM} {z : vZZ} {Q : Value → vDD → vMM → vZZ → Prop} : Runs MX0_copyFrom 40 [.ref x, a1] st D mm z Q = Runs MX0_copyFrom 41 [.ref x, a1] (.ref x :: st) D mm z Q := R_aload_n (by decide +kernel) rfl
theorem sX0_copyFrom_41 {a0 : Value} {x : Nat} {st : List Value} {D : vDD} {mm : vMM} {z : vZZ} {Q : Value → vDD → vMM → vZZ → Prop} : Runs MX0_copyFrom 41 [a0, .ref x] st D mm z Q = Runs MX0_copyFrom 42 [a0, .ref x] (.ref x :: st) D mm z Q := R_aload_n (by decide +kernel) rfl
theorem sX0_copyFrom_42 {a0 a1 : Value} {st : List Value} {a : Nat} {D : vDD} {mm : vMM} {z : vZZ} {Q : Value → vDD → vMM → vZZ → Prop} : Runs MX0_copyFrom 42 [a0, a1] (.ref a :: st) D mm z Q = ((D a).1 = 0 ∧ Runs MX0_copyFrom 45 [a0, a1] (.int (mm a 5) :: st) D mm z Q) := R_getI (by decide +kernel) rfl rfl
theorem sX0_copyFrom_45 {a0 a1 : Value} {st : List Value} {a : Nat} {x : Int32} {D : vDD} {mm : vMM} {z : vZZ} {Q : Value → vDD → vMM → vZZ → Prop} : Runs MX0_copyFrom 45 [a0, a1] (.int x :: .ref a :: st) D mm z Q = ((D a).1 = 0 ∧ Runs MX0_copyFrom 48 [a0, a1] st D (up2 mm a 5 x) z Q) := R_putI (by decide +kernel) rfl rfl rfl (by decide +kernel)
theorem sX0_copyFrom_48 {a0 a1 : Value} {D : vDD} {mm : vMM} {z : vZZ} {Q : Value → vDD → vMM → vZZ → Prop} : Runs MX0_copyFrom 48 [a0, a1] [] D mm z Q = Q vJ D mm z := R_vret (by decide +kernel) rfl
-- X1_init
theorem sX1_init_0 {a1 : Value} {x : Nat} {st : List Value} {D : vDD} {mm : vMM} {z : vZZ} {Q : Value → vDD → vMM → vZZ → Prop} : Runs MX1_init 0 [.ref x, a1] st D mm z Q = Runs MX1_init 1 [.ref x, a1] (.ref x :: st) D mm z Q := R_aload_n (by decide +kernel) rfl
theorem sX1_init_1 {a0 a1 : Value} {a : Nat} {D : vDD} {mm : vMM} {z : vZZ} {Q : Value → vDD → vMM → vZZ → Prop} : Runs MX1_init 1 [a0, a1] [.ref a] D mm z Q = Runs MX1_init 4 [a0, a1] [] D mm z Q := R_oinit (by decide +kernel) rfl rfl
theorem sX1_init_4 {a1 : Value} {x : Nat} {st : List Value} {D : vDD} {mm : vMM} {z : vZZ} {Q : Value → vDD → vMM → vZZ → Prop} : Runs MX1_init 4 [.ref x, a1] st D mm z Q = Runs MX1_init 5 [.ref x, a1] (.ref x :: st) D mm z Q := R_aload_n (by decide +kernel) rfl
theorem sX1_init_5 {a0 a1 : Value} {st : List Value} {D : vDD} {mm : vMM} {z : vZZ} {Q : Value → vDD → vMM → vZZ → Prop} : Runs MX1_init 5 [a0, a1] st D mm z Q = Runs MX1_init 7 [a0, a1] (.int 6 :: st) D mm z Q := R_bipush (by decide +kernel) (by decide +kernel)
theorem sX1_init_7 {a0 a1 : Value} {st : List Value} {D : vDD} {mm : vMM} {z : vZZ} {Q : Value → vDD → vMM → vZZ → Prop} : Runs MX1_init 7 [a0, a1] (.int 6 :: st) D mm z Q = Runs MX1_init 10 [a0, a1] (.ref z.1 :: st) (nwD D z.1 (11, 6, fun _ => none)) (nwM mm z.1) (z.1 + 1, z.2 + 6) Q := R_anew (by decide +kernel) rfl (by decide +kernel) (by decide +kernel) (by decide +kernel)
theorem sX1_init_10 {a0 a1 : Value} {st : List Value} {a r : Nat} {D : vDD} {mm : vMM} {z : vZZ} {Q : Value → vDD → vMM → vZZ → Prop} : Runs MX1_init 10 [a0, a1] (.ref r :: .ref a :: st) D mm z Q = ((D a).1 = 1 ∧ Runs MX1_init 13 [a0, a1] st (upR D a 0 (some r)) mm z Q) := R_putR (by decide +kernel) rfl rfl (by decide +kernel)
theorem sX1_init_13 {a0 a1 : Value} {st : List Value} {D : vDD} {mm : vMM} {z : vZZ} {Q : Value → vDD → vMM → vZZ → Prop} : Runs MX1_init 13 [a0, a1] st D mm z Q = Runs MX1_init 14 [a0, a1] (.int 0 :: st) D mm z Q := R_iconst (by decide +kernel) (by decide +kernel)
theorem sX1_init_14 {a0 a1 : Value} {st : List Value} {x : Int32} {D : vDD} {mm : vMM} {z : vZZ} {Q : Value → vDD → vMM → vZZ → Prop} : Runs MX1_init 14 [a0, a1] (.int x :: st) D mm z Q = Runs MX1_init 15 [a0, .int x] st D mm z Q := R_istore_n (by decide +kernel) rfl rfl
theorem sX1_init_15 {a0 : Value} {x : Int32} {st : List Value} {D : vDD} {mm : vMM} {z : vZZ} {Q : Value → vDD → vMM → vZZ → Prop} : Runs MX1_init 15 [a0, .int x] st D mm z Q = Runs MX1_init 16 [a0, .int x] (.int x :: st) D mm z Q := R_iload_n (by decide +kernel) rfl
theorem sX1_init_16 {a0 a1 : Value} {st : List Value} {D : vDD} {mm : vMM} {z : vZZ} {Q : Value → vDD → vMM → vZZ → Prop} : Runs MX1_init 16 [a0, a1] st D mm z Q = Runs MX1_init 18 [a0, a1] (.int 6 :: st) D mm z Q := R_bipush (by decide +kernel) (by decide +kernel)
theorem sX1_init_18 {a0 a1 : Value} {st : List Value} {x v : Int32} {D : vDD} {mm : vMM} {z : vZZ} {Q : Value → vDD → vMM → vZZ → Prop} : Runs MX1_init 18 [a0, a1] (.int v :: .int x :: st) D mm z Q = (if v ≤ x then Runs MX1_init 40 [a0, a1] st D mm z Q else Runs MX1_init 21 [a0, a1] st D mm z Q) := R_icge (by decide +kernel) (by decide +kernel)
theorem sX1_init_21 {a1 : Value} {x : Nat} {st : List Value} {D : vDD} {mm : vMM} {z : vZZ} {Q : Value → vDD → vMM → vZZ → Prop} : Runs MX1_init 21 [.ref x, a1] st D mm z Q = Runs MX1_init 22 [.ref x, a1] (.ref x :: st) D mm z Q := R_aload_n (by decide +kernel) rfl
theorem sX1_init_22 {a0 a1 : Value} {st : List Value} {a : Nat} {D : vDD} {mm : vMM} {z : vZZ} {Q : Value → vDD → vMM → vZZ → Prop} : Runs MX1_init 22 [a0, a1] (.ref a :: st) D mm z Q = ((D a).1 = 1 ∧ match (D a).2.2 0 with
    | some r => Runs MX1_init 25 [a0, a1] (.ref r :: st) D mm z Q
    | none => False) := R_getR (by decide +kernel) rfl rfl
theorem sX1_init_25 {a0 : Value} {x : Int32} {st : List Value} {D : vDD} {mm : vMM} {z : vZZ} {Q : Value → vDD → vMM → vZZ → Prop} : Runs MX1_init 25 [a0, .int x] st D mm z Q = Runs MX1_init 26 [a0, .int x] (.int x :: st) D mm z Q := R_iload_n (by decide +kernel) rfl
theorem sX1_init_26 {a0 a1 : Value} {st : List Value} {D : vDD} {mm : vMM} {z : vZZ} {Q : Value → vDD → vMM → vZZ → Prop} : Runs MX1_init 26 [a0, a1] st D mm z Q = Runs MX1_init 29 [a0, a1] (.ref z.1 :: st) (nwD D z.1 (2, 0, fun _ => none)) (nwM mm z.1) (z.1 + 1, z.2 + 9) Q := R_new (by decide +kernel) rfl
theorem sX1_init_29 {a0 a1 : Value} {st : List Value} {x : Nat} {D : vDD} {mm : vMM} {z : vZZ} {Q : Value → vDD → vMM → vZZ → Prop} : Runs MX1_init 29 [a0, a1] (.ref x :: st) D mm z Q = Runs MX1_init 30 [a0, a1] (.ref x :: .ref x :: st) D mm z Q := R_dupR (by decide +kernel)
theorem sX1_init_30 {a0 a1 : Value} {a : Nat} {q0 q1 q2 : Value} {D : vDD} {mm : vMM} {z : vZZ} {Q : Value → vDD → vMM → vZZ → Prop} : Runs MX1_init 30 [a0, a1] [.ref a, q0, q1, q2] D mm z Q = ((D a).1 = 2 ∧ Runs MX2_init 0 [.ref a, vJ] [] D mm z (fun v D mm z => Runs MX1_init 33 [a0, a1] [q0, q1, q2] D mm z Q)) := R_callV (i := .invokespecial 17) (by decide +kernel) (Or.inr ⟨rfl, rfl, rfl⟩) rfl (by simp) rfl rfl rfl rfl (fun v => [q0, q1, q2]) (fun _ => rfl)
theorem sX1_init_33 {a0 a1 : Value} {st : List Value} {a r : Nat} {i : Int32} {D : vDD} {mm : vMM} {z : vZZ} {Q : Value → vDD → vMM → vZZ → Prop} : Runs MX1_init 33 [a0, a1] (.ref r :: .int i :: .ref a :: st) D mm z Q = ((((10 ≤ (D a).1 ∧ (D a).1 ≤ 12) ∧ inB i (D a).2.1 = true) ∧ (D r).1 = elK (D a).1) ∧ Runs MX1_init 34 [a0, a1] st (upR D a i.toNatClampNeg (some r)) mm z Q) := R_aast (by decide +kernel)
theorem sX1_init_34 {a0 : Value} {x : Int32} {st : List Value} {D : vDD} {mm : vMM} {z : vZZ} {Q : Value → vDD → vMM → vZZ → Prop} : Runs MX1_init 34 [a0, .int x] st D mm z Q = Runs MX1_init 37 [a0, .int (x + 1)] st D mm z Q := R_iinc (v := 1) (by decide +kernel) rfl rfl (by decide +kernel) rfl
theorem sX1_init_37 {a0 a1 : Value} {st : List Value} {D : vDD} {mm : vMM} {z : vZZ} {Q : Value → vDD → vMM → vZZ → Prop} : Runs MX1_init 37 [a0, a1] st D mm z Q = Runs MX1_init 15 [a0, a1] st D mm z Q := R_goto (by decide +kernel) (by decide +kernel)
theorem sX1_init_40 {a0 a1 : Value} {D : vDD} {mm : vMM} {z : vZZ} {Q : Value → vDD → vMM → vZZ → Prop} : Runs MX1_init 40 [a0, a1] [] D mm z Q = Q vJ D mm z := R_vret (by decide +kernel) rfl
-- X1_keep
theorem sX1_keep_0 {a1 : Value} {x : Nat} {st : List Value} {D : vDD} {mm : vMM} {z : vZZ} {Q : Value → vDD → vMM → vZZ → Prop} : Runs MX1_keep 0 [.ref x, a1] st D mm z Q = Runs MX1_keep 1 [.ref x, a1] (.ref x :: st) D mm z Q := R_aload_n (by decide +kernel) rfl
theorem sX1_keep_1 {a0 a1 : Value} {st : List Value} {a : Nat} {D : vDD} {mm : vMM} {z : vZZ} {Q : Value → vDD → vMM → vZZ → Prop} : Runs MX1_keep 1 [a0, a1] (.ref a :: st) D mm z Q = ((D a).1 = 1 ∧ Runs MX1_keep 4 [a0, a1] (.int (mm a 1) :: st) D mm z Q) := R_getI (by decide +kernel) rfl rfl
theorem sX1_keep_4 {a0 a1 : Value} {st : List Value} {D : vDD} {mm : vMM} {z : vZZ} {Q : Value → vDD → vMM → vZZ → Prop} : Runs MX1_keep 4 [a0, a1] st D mm z Q = Runs MX1_keep 6 [a0, a1] (.int 6 :: st) D mm z Q := R_bipush (by decide +kernel) (by decide +kernel)
theorem sX1_keep_6 {a0 a1 : Value} {st : List Value} {x v : Int32} {D : vDD} {mm : vMM} {z : vZZ} {Q : Value → vDD → vMM → vZZ → Prop} : Runs MX1_keep 6 [a0, a1] (.int v :: .int x :: st) D mm z Q = (if x < v then Runs MX1_keep 13 [a0, a1] st D mm z Q else Runs MX1_keep 9 [a0, a1] st D mm z Q) := R_iclt (by decide +kernel) (by decide +kernel)
theorem sX1_keep_9 {a1 : Value} {x : Nat} {st : List Value} {D : vDD} {mm : vMM} {z : vZZ} {Q : Value → vDD → vMM → vZZ → Prop} : Runs MX1_keep 9 [.ref x, a1] st D mm z Q = Runs MX1_keep 10 [.ref x, a1] (.ref x :: st) D mm z Q := R_aload_n (by decide +kernel) rfl
theorem sX1_keep_10 {a0 a1 : Value} {a : Nat} {D : vDD} {mm : vMM} {z : vZZ} {Q : Value → vDD → vMM → vZZ → Prop} : Runs MX1_keep 10 [a0, a1] [.ref a] D mm z Q = ((D a).1 = 1 ∧ Runs MX1_dropOldest 0 [.ref a, vJ, vJ] [] D mm z (fun v D mm z => Runs MX1_keep 13 [a0, a1] [] D mm z Q)) := R_callV (i := .invokevirtual 22) (by decide +kernel) (Or.inl ⟨rfl, rfl⟩) rfl (by simp) rfl rfl rfl rfl (fun v => []) (fun _ => rfl)
theorem sX1_keep_13 {a1 : Value} {x : Nat} {st : List Value} {D : vDD} {mm : vMM} {z : vZZ} {Q : Value → vDD → vMM → vZZ → Prop} : Runs MX1_keep 13 [.ref x, a1] st D mm z Q = Runs MX1_keep 14 [.ref x, a1] (.ref x :: st) D mm z Q := R_aload_n (by decide +kernel) rfl
theorem sX1_keep_14 {a0 a1 : Value} {st : List Value} {a : Nat} {D : vDD} {mm : vMM} {z : vZZ} {Q : Value → vDD → vMM → vZZ → Prop} : Runs MX1_keep 14 [a0, a1] (.ref a :: st) D mm z Q = ((D a).1 = 1 ∧ match (D a).2.2 0 with
    | some r => Runs MX1_keep 17 [a0, a1] (.ref r :: st) D mm z Q
    | none => False) := R_getR (by decide +kernel) rfl rfl
theorem sX1_keep_17 {a1 : Value} {x : Nat} {st : List Value} {D : vDD} {mm : vMM} {z : vZZ} {Q : Value → vDD → vMM → vZZ → Prop} : Runs MX1_keep 17 [.ref x, a1] st D mm z Q = Runs MX1_keep 18 [.ref x, a1] (.ref x :: st) D mm z Q := R_aload_n (by decide +kernel) rfl
theorem sX1_keep_18 {a0 a1 : Value} {st : List Value} {a : Nat} {D : vDD} {mm : vMM} {z : vZZ} {Q : Value → vDD → vMM → vZZ → Prop} : Runs MX1_keep 18 [a0, a1] (.ref a :: st) D mm z Q = ((D a).1 = 1 ∧ Runs MX1_keep 21 [a0, a1] (.int (mm a 1) :: st) D mm z Q) := R_getI (by decide +kernel) rfl rfl
theorem sX1_keep_21 {a0 a1 : Value} {st : List Value} {a : Nat} {i : Int32} {D : vDD} {mm : vMM} {z : vZZ} {Q : Value → vDD → vMM → vZZ → Prop} : Runs MX1_keep 21 [a0, a1] (.int i :: .ref a :: st) D mm z Q = (((10 ≤ (D a).1 ∧ (D a).1 ≤ 12) ∧ inB i (D a).2.1 = true) ∧ match (D a).2.2 i.toNatClampNeg with
    | some r => Runs MX1_keep 22 [a0, a1] (.ref r :: st) D mm z Q
    | none => False) := R_aald (by decide +kernel)
theorem sX1_keep_22 {a0 : Value} {x : Nat} {st : List Value} {D : vDD} {mm : vMM} {z : vZZ} {Q : Value → vDD → vMM → vZZ → Prop} : Runs MX1_keep 22 [a0, .ref x] st D mm z Q = Runs MX1_keep 23 [a0, .ref x] (.ref x :: st) D mm z Q := R_aload_n (by decide +kernel) rfl
theorem sX1_keep_23 {a0 a1 : Value} {a : Nat} {x0 : Nat} {D : vDD} {mm : vMM} {z : vZZ} {Q : Value → vDD → vMM → vZZ → Prop} : Runs MX1_keep 23 [a0, a1] [.ref x0, .ref a] D mm z Q = ((D a).1 = 2 ∧ Runs MX2_copyFrom 0 [.ref a, .ref x0, vJ] [] D mm z (fun v D mm z => Runs MX1_keep 26 [a0, a1] [] D mm z Q)) := R_callV (i := .invokevirtual 25) (by decide +kernel) (Or.inl ⟨rfl, rfl⟩) rfl (by simp) rfl rfl rfl rfl (fun v => []) (fun _ => rfl)
theorem sX1_keep_26 {a1 : Value} {x : Nat} {st : List Value} {D : vDD} {mm : vMM} {z : vZZ} {Q : Value → vDD → vMM → vZZ → Prop} : Runs MX1_keep 26 [.ref x, a1] st D mm z Q = Runs MX1_keep 27 [.ref x, a1] (.ref x :: st) D mm z Q := R_aload_n (by decide +kernel) rfl
theorem sX1_keep_27 {a0 a1 : Value} {st : List Value} {x : Nat} {D : vDD} {mm : vMM} {z : vZZ} {Q : Value → vDD → vMM → vZZ → Prop} : Runs MX1_keep 27 [a0, a1] (.ref x :: st) D mm z Q = Runs MX1_keep 28 [a0, a1] (.ref x :: .ref x :: st) D mm z Q := R_dupR (by decide +kernel)
theorem sX1_keep_28 {a0 a1 : Value} {st : List Value} {a : Nat} {D : vDD} {mm : vMM} {z : vZZ} {Q : Value → vDD → vMM → vZZ → Prop} : Runs MX1_keep 28 [a0, a1] (.ref a :: st) D mm z Q = ((D a).1 = 1 ∧ Runs MX1_keep 31 [a0, a1] (.int (mm a 1) :: st) D mm z Q) := R_getI (by decide +kernel) rfl rfl
theorem sX1_keep_31 {a0 a1 : Value} {st : List Value} {D : vDD} {mm : vMM} {z : vZZ} {Q : Value → vDD → vMM → vZZ → Prop} : Runs MX1_keep 31 [a0, a1] st D mm z Q = Runs MX1_keep 32 [a0, a1] (.int 1 :: st) D mm z Q := R_iconst (by decide +kernel) (by decide +kernel)
theorem sX1_keep_32 {a0 a1 : Value} {st : List Value} {x v : Int32} {D : vDD} {mm : vMM} {z : vZZ} {Q : Value → vDD → vMM → vZZ → Prop} : Runs MX1_keep 32 [a0, a1] (.int v :: .int x :: st) D mm z Q = Runs MX1_keep 33 [a0, a1] (.int (x + v) :: st) D mm z Q := R_iadd (by decide +kernel)
theorem sX1_keep_33 {a0 a1 : Value} {st : List Value} {a : Nat} {x : Int32} {D : vDD} {mm : vMM} {z : vZZ} {Q : Value → vDD → vMM → vZZ → Prop} : Runs MX1_keep 33 [a0, a1] (.int x :: .ref a :: st) D mm z Q = ((D a).1 = 1 ∧ Runs MX1_keep 36 [a0, a1] st D (up2 mm a 1 x) z Q) := R_putI (by decide +kernel) rfl rfl rfl (by decide +kernel)
theorem sX1_keep_36 {a0 a1 : Value} {D : vDD} {mm : vMM} {z : vZZ} {Q : Value → vDD → vMM → vZZ → Prop} : Runs MX1_keep 36 [a0, a1] [] D mm z Q = Q vJ D mm z := R_vret (by decide +kernel) rfl
-- X1_dropOldest
theorem sX1_dropOldest_0 {a1 a2 : Value} {x : Nat} {st : List Value} {D : vDD} {mm : vMM} {z : vZZ} {Q : Value → vDD → vMM → vZZ → Prop} : Runs MX1_dropOldest 0 [.ref x, a1, a2] st D mm z Q = Runs MX1_dropOldest 1 [.ref x, a1, a2] (.ref x :: st) D mm z Q := R_aload_n (by decide +kernel) rfl
theorem sX1_dropOldest_1 {a0 a1 a2 : Value} {st : List Value} {a : Nat} {D : vDD} {mm : vMM} {z : vZZ} {Q : Value → vDD → vMM → vZZ → Prop} : Runs MX1_dropOldest 1 [a0, a1, a2] (.ref a :: st) D mm z Q = ((D a).1 = 1 ∧ match (D a).2.2 0 with
    | some r => Runs MX1_dropOldest 4 [a0, a1, a2] (.ref r :: st) D mm z Q
    | none => False) := R_getR (by decide +kernel) rfl rfl
theorem sX1_dropOldest_4 {a0 a1 a2 : Value} {st : List Value} {D : vDD} {mm : vMM} {z : vZZ} {Q : Value → vDD → vMM → vZZ → Prop} : Runs MX1_dropOldest 4 [a0, a1, a2] st D mm z Q = Runs MX1_dropOldest 5 [a0, a1, a2] (.int 0 :: st) D mm z Q := R_iconst (by decide +kernel) (by decide +kernel)
theorem sX1_dropOldest_5 {a0 a1 a2 : Value} {st : List Value} {a : Nat} {i : Int32} {D : vDD} {mm : vMM} {z : vZZ} {Q : Value → vDD → vMM → vZZ → Prop} : Runs MX1_dropOldest 5 [a0, a1, a2] (.int i :: .ref a :: st) D mm z Q = (((10 ≤ (D a).1 ∧ (D a).1 ≤ 12) ∧ inB i (D a).2.1 = true) ∧ match (D a).2.2 i.toNatClampNeg with
    | some r => Runs MX1_dropOldest 6 [a0, a1, a2] (.ref r :: st) D mm z Q
    | none => False) := R_aald (by decide +kernel)
theorem sX1_dropOldest_6 {a0 a1 a2 : Value} {st : List Value} {x : Nat} {D : vDD} {mm : vMM} {z : vZZ} {Q : Value → vDD → vMM → vZZ → Prop} : Runs MX1_dropOldest 6 [a0, a1, a2] (.ref x :: st) D mm z Q = Runs MX1_dropOldest 7 [a0, .ref x, a2] st D mm z Q := R_astore_n (by decide +kernel) rfl rfl
theorem sX1_dropOldest_7 {a0 a1 a2 : Value} {st : List Value} {D : vDD} {mm : vMM} {z : vZZ} {Q : Value → vDD → vMM → vZZ → Prop} : Runs MX1_dropOldest 7 [a0, a1, a2] st D mm z Q = Runs MX1_dropOldest 8 [a0, a1, a2] (.int 1 :: st) D mm z Q := R_iconst (by decide +kernel) (by decide +kernel)
theorem sX1_dropOldest_8 {a0 a1 a2 : Value} {st : List Value} {x : Int32} {D : vDD} {mm : vMM} {z : vZZ} {Q : Value → vDD → vMM → vZZ → Prop} : Runs MX1_dropOldest 8 [a0, a1, a2] (.int x :: st) D mm z Q = Runs MX1_dropOldest 9 [a0, a1, .int x] st D mm z Q := R_istore_n (by decide +kernel) rfl rfl
theorem sX1_dropOldest_9 {a0 a1 : Value} {x : Int32} {st : List Value} {D : vDD} {mm : vMM} {z : vZZ} {Q : Value → vDD → vMM → vZZ → Prop} : Runs MX1_dropOldest 9 [a0, a1, .int x] st D mm z Q = Runs MX1_dropOldest 10 [a0, a1, .int x] (.int x :: st) D mm z Q := R_iload_n (by decide +kernel) rfl
theorem sX1_dropOldest_10 {a0 a1 a2 : Value} {st : List Value} {D : vDD} {mm : vMM} {z : vZZ} {Q : Value → vDD → vMM → vZZ → Prop} : Runs MX1_dropOldest 10 [a0, a1, a2] st D mm z Q = Runs MX1_dropOldest 12 [a0, a1, a2] (.int 6 :: st) D mm z Q := R_bipush (by decide +kernel) (by decide +kernel)
theorem sX1_dropOldest_12 {a0 a1 a2 : Value} {st : List Value} {x v : Int32} {D : vDD} {mm : vMM} {z : vZZ} {Q : Value → vDD → vMM → vZZ → Prop} : Runs MX1_dropOldest 12 [a0, a1, a2] (.int v :: .int x :: st) D mm z Q = (if v ≤ x then Runs MX1_dropOldest 35 [a0, a1, a2] st D mm z Q else Runs MX1_dropOldest 15 [a0, a1, a2] st D mm z Q) := R_icge (by decide +kernel) (by decide +kernel)
theorem sX1_dropOldest_15 {a1 a2 : Value} {x : Nat} {st : List Value} {D : vDD} {mm : vMM} {z : vZZ} {Q : Value → vDD → vMM → vZZ → Prop} : Runs MX1_dropOldest 15 [.ref x, a1, a2] st D mm z Q = Runs MX1_dropOldest 16 [.ref x, a1, a2] (.ref x :: st) D mm z Q := R_aload_n (by decide +kernel) rfl
theorem sX1_dropOldest_16 {a0 a1 a2 : Value} {st : List Value} {a : Nat} {D : vDD} {mm : vMM} {z : vZZ} {Q : Value → vDD → vMM → vZZ → Prop} : Runs MX1_dropOldest 16 [a0, a1, a2] (.ref a :: st) D mm z Q = ((D a).1 = 1 ∧ match (D a).2.2 0 with
    | some r => Runs MX1_dropOldest 19 [a0, a1, a2] (.ref r :: st) D mm z Q
    | none => False) := R_getR (by decide +kernel) rfl rfl
theorem sX1_dropOldest_19 {a0 a1 : Value} {x : Int32} {st : List Value} {D : vDD} {mm : vMM} {z : vZZ} {Q : Value → vDD → vMM → vZZ → Prop} : Runs MX1_dropOldest 19 [a0, a1, .int x] st D mm z Q = Runs MX1_dropOldest 20 [a0, a1, .int x] (.int x :: st) D mm z Q := R_iload_n (by decide +kernel) rfl
theorem sX1_dropOldest_20 {a0 a1 a2 : Value} {st : List Value} {D : vDD} {mm : vMM} {z : vZZ} {Q : Value → vDD → vMM → vZZ → Prop} : Runs MX1_dropOldest 20 [a0, a1, a2] st D mm z Q = Runs MX1_dropOldest 21 [a0, a1, a2] (.int 1 :: st) D mm z Q := R_iconst (by decide +kernel) (by decide +kernel)
theorem sX1_dropOldest_21 {a0 a1 a2 : Value} {st : List Value} {x v : Int32} {D : vDD} {mm : vMM} {z : vZZ} {Q : Value → vDD → vMM → vZZ → Prop} : Runs MX1_dropOldest 21 [a0, a1, a2] (.int v :: .int x :: st) D mm z Q = Runs MX1_dropOldest 22 [a0, a1, a2] (.int (x - v) :: st) D mm z Q := R_isub (by decide +kernel)
theorem sX1_dropOldest_22 {a1 a2 : Value} {x : Nat} {st : List Value} {D : vDD} {mm : vMM} {z : vZZ} {Q : Value → vDD → vMM → vZZ → Prop} : Runs MX1_dropOldest 22 [.ref x, a1, a2] st D mm z Q = Runs MX1_dropOldest 23 [.ref x, a1, a2] (.ref x :: st) D mm z Q := R_aload_n (by decide +kernel) rfl
theorem sX1_dropOldest_23 {a0 a1 a2 : Value} {st : List Value} {a : Nat} {D : vDD} {mm : vMM} {z : vZZ} {Q : Value → vDD → vMM → vZZ → Prop} : Runs MX1_dropOldest 23 [a0, a1, a2] (.ref a :: st) D mm z Q = ((D a).1 = 1 ∧ match (D a).2.2 0 with
    | some r => Runs MX1_dropOldest 26 [a0, a1, a2] (.ref r :: st) D mm z Q
    | none => False) := R_getR (by decide +kernel) rfl rfl
theorem sX1_dropOldest_26 {a0 a1 : Value} {x : Int32} {st : List Value} {D : vDD} {mm : vMM} {z : vZZ} {Q : Value → vDD → vMM → vZZ → Prop} : Runs MX1_dropOldest 26 [a0, a1, .int x] st D mm z Q = Runs MX1_dropOldest 27 [a0, a1, .int x] (.int x :: st) D mm z Q := R_iload_n (by decide +kernel) rfl
theorem sX1_dropOldest_27 {a0 a1 a2 : Value} {st : List Value} {a : Nat} {i : Int32} {D : vDD} {mm : vMM} {z : vZZ} {Q : Value → vDD → vMM → vZZ → Prop} : Runs MX1_dropOldest 27 [a0, a1, a2] (.int i :: .ref a :: st) D mm z Q = (((10 ≤ (D a).1 ∧ (D a).1 ≤ 12) ∧ inB i (D a).2.1 = true) ∧ match (D a).2.2 i.toNatClampNeg with
    | some r => Runs MX1_dropOldest 28 [a0, a1, a2] (.ref r :: st) D mm z Q
    | none => False) := R_aald (by decide +kernel)
theorem sX1_dropOldest_28 {a0 a1 a2 : Value} {st : List Value} {a r : Nat} {i : Int32} {D : vDD} {mm : vMM} {z : vZZ} {Q : Value → vDD → vMM → vZZ → Prop} : Runs MX1_dropOldest 28 [a0, a1, a2] (.ref r :: .int i :: .ref a :: st) D mm z Q = ((((10 ≤ (D a).1 ∧ (D a).1 ≤ 12) ∧ inB i (D a).2.1 = true) ∧ (D r).1 = elK (D a).1) ∧ Runs MX1_dropOldest 29 [a0, a1, a2] st (upR D a i.toNatClampNeg (some r)) mm z Q) := R_aast (by decide +kernel)
theorem sX1_dropOldest_29 {a0 a1 : Value} {x : Int32} {st : List Value} {D : vDD} {mm : vMM} {z : vZZ} {Q : Value → vDD → vMM → vZZ → Prop} : Runs MX1_dropOldest 29 [a0, a1, .int x] st D mm z Q = Runs MX1_dropOldest 32 [a0, a1, .int (x + 1)] st D mm z Q := R_iinc (v := 1) (by decide +kernel) rfl rfl (by decide +kernel) rfl
theorem sX1_dropOldest_32 {a0 a1 a2 : Value} {st : List Value} {D : vDD} {mm : vMM} {z : vZZ} {Q : Value → vDD → vMM → vZZ → Prop} : Runs MX1_dropOldest 32 [a0, a1, a2] st D mm z Q = Runs MX1_dropOldest 9 [a0, a1, a2] st D mm z Q := R_goto (by decide +kernel) (by decide +kernel)
theorem sX1_dropOldest_35 {a1 a2 : Value} {x : Nat} {st : List Value} {D : vDD} {mm : vMM} {z : vZZ} {Q : Value → vDD → vMM → vZZ → Prop} : Runs MX1_dropOldest 35 [.ref x, a1, a2] st D mm z Q = Runs MX1_dropOldest 36 [.ref x, a1, a2] (.ref x :: st) D mm z Q := R_aload_n (by decide +kernel) rfl
theorem sX1_dropOldest_36 {a0 a1 a2 : Value} {st : List Value} {a : Nat} {D : vDD} {mm : vMM} {z : vZZ} {Q : Value → vDD → vMM → vZZ → Prop} : Runs MX1_dropOldest 36 [a0, a1, a2] (.ref a :: st) D mm z Q = ((D a).1 = 1 ∧ match (D a).2.2 0 with
    | some r => Runs MX1_dropOldest 39 [a0, a1, a2] (.ref r :: st) D mm z Q
    | none => False) := R_getR (by decide +kernel) rfl rfl
theorem sX1_dropOldest_39 {a0 a1 a2 : Value} {st : List Value} {D : vDD} {mm : vMM} {z : vZZ} {Q : Value → vDD → vMM → vZZ → Prop} : Runs MX1_dropOldest 39 [a0, a1, a2] st D mm z Q = Runs MX1_dropOldest 40 [a0, a1, a2] (.int 5 :: st) D mm z Q := R_iconst (by decide +kernel) (by decide +kernel)
theorem sX1_dropOldest_40 {a0 a2 : Value} {x : Nat} {st : List Value} {D : vDD} {mm : vMM} {z : vZZ} {Q : Value → vDD → vMM → vZZ → Prop} : Runs MX1_dropOldest 40 [a0, .ref x, a2] st D mm z Q = Runs MX1_dropOldest 41 [a0, .ref x, a2] (.ref x :: st) D mm z Q := R_aload_n (by decide +kernel) rfl
theorem sX1_dropOldest_41 {a0 a1 a2 : Value} {st : List Value} {a r : Nat} {i : Int32} {D : vDD} {mm : vMM} {z : vZZ} {Q : Value → vDD → vMM → vZZ → Prop} : Runs MX1_dropOldest 41 [a0, a1, a2] (.ref r :: .int i :: .ref a :: st) D mm z Q = ((((10 ≤ (D a).1 ∧ (D a).1 ≤ 12) ∧ inB i (D a).2.1 = true) ∧ (D r).1 = elK (D a).1) ∧ Runs MX1_dropOldest 42 [a0, a1, a2] st (upR D a i.toNatClampNeg (some r)) mm z Q) := R_aast (by decide +kernel)
theorem sX1_dropOldest_42 {a1 a2 : Value} {x : Nat} {st : List Value} {D : vDD} {mm : vMM} {z : vZZ} {Q : Value → vDD → vMM → vZZ → Prop} : Runs MX1_dropOldest 42 [.ref x, a1, a2] st D mm z Q = Runs MX1_dropOldest 43 [.ref x, a1, a2] (.ref x :: st) D mm z Q := R_aload_n (by decide +kernel) rfl
theorem sX1_dropOldest_43 {a0 a1 a2 : Value} {st : List Value} {D : vDD} {mm : vMM} {z : vZZ} {Q : Value → vDD → vMM → vZZ → Prop} : Runs MX1_dropOldest 43 [a0, a1, a2] st D mm z Q = Runs MX1_dropOldest 44 [a0, a1, a2] (.int 5 :: st) D mm z Q := R_iconst (by decide +kernel) (by decide +kernel)
theorem sX1_dropOldest_44 {a0 a1 a2 : Value} {st : List Value} {a : Nat} {x : Int32} {D : vDD} {mm : vMM} {z : vZZ} {Q : Value → vDD → vMM → vZZ → Prop} : Runs MX1_dropOldest 44 [a0, a1, a2] (.int x :: .ref a :: st) D mm z Q = ((D a).1 = 1 ∧ Runs MX1_dropOldest 47 [a0, a1, a2] st D (up2 mm a 1 x) z Q) := R_putI (by decide +kernel) rfl rfl rfl (by decide +kernel)
theorem sX1_dropOldest_47 {a0 a1 a2 : Value} {D : vDD} {mm : vMM} {z : vZZ} {Q : Value → vDD → vMM → vZZ → Prop} : Runs MX1_dropOldest 47 [a0, a1, a2] [] D mm z Q = Q vJ D mm z := R_vret (by decide +kernel) rfl
-- X1_takeBack
theorem sX1_takeBack_0 {a1 : Value} {x : Nat} {st : List Value} {D : vDD} {mm : vMM} {z : vZZ} {Q : Value → vDD → vMM → vZZ → Prop} : Runs MX1_takeBack 0 [.ref x, a1] st D mm z Q = Runs MX1_takeBack 1 [.ref x, a1] (.ref x :: st) D mm z Q := R_aload_n (by decide +kernel) rfl
theorem sX1_takeBack_1 {a0 a1 : Value} {st : List Value} {a : Nat} {D : vDD} {mm : vMM} {z : vZZ} {Q : Value → vDD → vMM → vZZ → Prop} : Runs MX1_takeBack 1 [a0, a1] (.ref a :: st) D mm z Q = ((D a).1 = 1 ∧ Runs MX1_takeBack 4 [a0, a1] (.int (mm a 1) :: st) D mm z Q) := R_getI (by decide +kernel) rfl rfl
theorem sX1_takeBack_4 {a0 a1 : Value} {st : List Value} {x : Int32} {D : vDD} {mm : vMM} {z : vZZ} {Q : Value → vDD → vMM → vZZ → Prop} : Runs MX1_takeBack 4 [a0, a1] (.int x :: st) D mm z Q = (if x ≤ 0 then Runs MX1_takeBack 30 [a0, a1] st D mm z Q else Runs MX1_takeBack 7 [a0, a1] st D mm z Q) := R_ifle (by decide +kernel) (by decide +kernel)
theorem sX1_takeBack_7 {a1 : Value} {x : Nat} {st : List Value} {D : vDD} {mm : vMM} {z : vZZ} {Q : Value → vDD → vMM → vZZ → Prop} : Runs MX1_takeBack 7 [.ref x, a1] st D mm z Q = Runs MX1_takeBack 8 [.ref x, a1] (.ref x :: st) D mm z Q := R_aload_n (by decide +kernel) rfl
theorem sX1_takeBack_8 {a0 a1 : Value} {st : List Value} {x : Nat} {D : vDD} {mm : vMM} {z : vZZ} {Q : Value → vDD → vMM → vZZ → Prop} : Runs MX1_takeBack 8 [a0, a1] (.ref x :: st) D mm z Q = Runs MX1_takeBack 9 [a0, a1] (.ref x :: .ref x :: st) D mm z Q := R_dupR (by decide +kernel)
theorem sX1_takeBack_9 {a0 a1 : Value} {st : List Value} {a : Nat} {D : vDD} {mm : vMM} {z : vZZ} {Q : Value → vDD → vMM → vZZ → Prop} : Runs MX1_takeBack 9 [a0, a1] (.ref a :: st) D mm z Q = ((D a).1 = 1 ∧ Runs MX1_takeBack 12 [a0, a1] (.int (mm a 1) :: st) D mm z Q) := R_getI (by decide +kernel) rfl rfl
theorem sX1_takeBack_12 {a0 a1 : Value} {st : List Value} {D : vDD} {mm : vMM} {z : vZZ} {Q : Value → vDD → vMM → vZZ → Prop} : Runs MX1_takeBack 12 [a0, a1] st D mm z Q = Runs MX1_takeBack 13 [a0, a1] (.int 1 :: st) D mm z Q := R_iconst (by decide +kernel) (by decide +kernel)
theorem sX1_takeBack_13 {a0 a1 : Value} {st : List Value} {x v : Int32} {D : vDD} {mm : vMM} {z : vZZ} {Q : Value → vDD → vMM → vZZ → Prop} : Runs MX1_takeBack 13 [a0, a1] (.int v :: .int x :: st) D mm z Q = Runs MX1_takeBack 14 [a0, a1] (.int (x - v) :: st) D mm z Q := R_isub (by decide +kernel)
theorem sX1_takeBack_14 {a0 a1 : Value} {st : List Value} {a : Nat} {x : Int32} {D : vDD} {mm : vMM} {z : vZZ} {Q : Value → vDD → vMM → vZZ → Prop} : Runs MX1_takeBack 14 [a0, a1] (.int x :: .ref a :: st) D mm z Q = ((D a).1 = 1 ∧ Runs MX1_takeBack 17 [a0, a1] st D (up2 mm a 1 x) z Q) := R_putI (by decide +kernel) rfl rfl rfl (by decide +kernel)
theorem sX1_takeBack_17 {a0 : Value} {x : Nat} {st : List Value} {D : vDD} {mm : vMM} {z : vZZ} {Q : Value → vDD → vMM → vZZ → Prop} : Runs MX1_takeBack 17 [a0, .ref x] st D mm z Q = Runs MX1_takeBack 18 [a0, .ref x] (.ref x :: st) D mm z Q := R_aload_n (by decide +kernel) rfl
theorem sX1_takeBack_18 {a1 : Value} {x : Nat} {st : List Value} {D : vDD} {mm : vMM} {z : vZZ} {Q : Value → vDD → vMM → vZZ → Prop} : Runs MX1_takeBack 18 [.ref x, a1] st D mm z Q = Runs MX1_takeBack 19 [.ref x, a1] (.ref x :: st) D mm z Q := R_aload_n (by decide +kernel) rfl
theorem sX1_takeBack_19 {a0 a1 : Value} {st : List Value} {a : Nat} {D : vDD} {mm : vMM} {z : vZZ} {Q : Value → vDD → vMM → vZZ → Prop} : Runs MX1_takeBack 19 [a0, a1] (.ref a :: st) D mm z Q = ((D a).1 = 1 ∧ match (D a).2.2 0 with
    | some r => Runs MX1_takeBack 22 [a0, a1] (.ref r :: st) D mm z Q
    | none => False) := R_getR (by decide +kernel) rfl rfl
theorem sX1_takeBack_22 {a1 : Value} {x : Nat} {st : List Value} {D : vDD} {mm : vMM} {z : vZZ} {Q : Value → vDD → vMM → vZZ → Prop} : Runs MX1_takeBack 22 [.ref x, a1] st D mm z Q = Runs MX1_takeBack 23 [.ref x, a1] (.ref x :: st) D mm z Q := R_aload_n (by decide +kernel) rfl
theorem sX1_takeBack_23 {a0 a1 : Value} {st : List Value} {a : Nat} {D : vDD} {mm : vMM} {z : vZZ} {Q : Value → vDD → vMM → vZZ → Prop} : Runs MX1_takeBack 23 [a0, a1] (.ref a :: st) D mm z Q = ((D a).1 = 1 ∧ Runs MX1_takeBack 26 [a0, a1] (.int (mm a 1) :: st) D mm z Q) := R_getI (by decide +kernel) rfl rfl
theorem sX1_takeBack_26 {a0 a1 : Value} {st : List Value} {a : Nat} {i : Int32} {D : vDD} {mm : vMM} {z : vZZ} {Q : Value → vDD → vMM → vZZ → Prop} : Runs MX1_takeBack 26 [a0, a1] (.int i :: .ref a :: st) D mm z Q = (((10 ≤ (D a).1 ∧ (D a).1 ≤ 12) ∧ inB i (D a).2.1 = true) ∧ match (D a).2.2 i.toNatClampNeg with
    | some r => Runs MX1_takeBack 27 [a0, a1] (.ref r :: st) D mm z Q
    | none => False) := R_aald (by decide +kernel)
theorem sX1_takeBack_27 {a0 a1 : Value} {a : Nat} {x0 : Nat} {D : vDD} {mm : vMM} {z : vZZ} {Q : Value → vDD → vMM → vZZ → Prop} : Runs MX1_takeBack 27 [a0, a1] [.ref x0, .ref a] D mm z Q = ((D a).1 = 2 ∧ Runs MX2_copyFrom 0 [.ref a, .ref x0, vJ] [] D mm z (fun v D mm z => Runs MX1_takeBack 30 [a0, a1] [] D mm z Q)) := R_callV (i := .invokevirtual 25) (by decide +kernel) (Or.inl ⟨rfl, rfl⟩) rfl (by simp) rfl rfl rfl rfl (fun v => []) (fun _ => rfl)
theorem sX1_takeBack_30 {a0 a1 : Value} {D : vDD} {mm : vMM} {z : vZZ} {Q : Value → vDD → vMM → vZZ → Prop} : Runs MX1_takeBack 30 [a0, a1] [] D mm z Q = Q vJ D mm z := R_vret (by decide +kernel) rfl
-- X5_init
theorem sX5_init_0  {x : Nat} {st : List Value} {D : vDD} {mm : vMM} {z : vZZ} {Q : Value → vDD → vMM → vZZ → Prop} : Runs MX5_init 0 [.ref x] st D mm z Q = Runs MX5_init 1 [.ref x] (.ref x :: st) D mm z Q := R_aload_n (by decide +kernel) rfl
theorem sX5_init_1 {a0 : Value} {a : Nat} {D : vDD} {mm : vMM} {z : vZZ} {Q : Value → vDD → vMM → vZZ → Prop} : Runs MX5_init 1 [a0] [.ref a] D mm z Q = Runs MX5_init 4 [a0] [] D mm z Q := R_oinit (by decide +kernel) rfl rfl
theorem sX5_init_4  {x : Nat} {st : List Value} {D : vDD} {mm : vMM} {z : vZZ} {Q : Value → vDD → vMM → vZZ → Prop} : Runs MX5_init 4 [.ref x] st D mm z Q = Runs MX5_init 5 [.ref x] (.ref x :: st) D mm z Q := R_aload_n (by decide +kernel) rfl
theorem sX5_init_5 {a0 : Value} {st : List Value} {D : vDD} {mm : vMM} {z : vZZ} {Q : Value → vDD → vMM → vZZ → Prop} : Runs MX5_init 5 [a0] st D mm z Q = Runs MX5_init 6 [a0] (.int 4 :: st) D mm z Q := R_iconst (by decide +kernel) (by decide +kernel)
theorem sX5_init_6 {a0 : Value} {st : List Value} {D : vDD} {mm : vMM} {z : vZZ} {Q : Value → vDD → vMM → vZZ → Prop} : Runs MX5_init 6 [a0] (.int 4 :: st) D mm z Q = Runs MX5_init 8 [a0] (.ref z.1 :: st) (nwD D z.1 (8, 4, fun _ => none)) (nwM mm z.1) (z.1 + 1, z.2 + 4) Q := R_newI (by decide +kernel) (by decide +kernel) (by decide +kernel)
theorem sX5_init_8 {a0 : Value} {st : List Value} {a r : Nat} {D : vDD} {mm : vMM} {z : vZZ} {Q : Value → vDD → vMM → vZZ → Prop} : Runs MX5_init 8 [a0] (.ref r :: .ref a :: st) D mm z Q = ((D a).1 = 5 ∧ Runs MX5_init 11 [a0] st (upR D a 0 (some r)) mm z Q) := R_putR (by decide +kernel) rfl rfl (by decide +kernel)
theorem sX5_init_11  {x : Nat} {st : List Value} {D : vDD} {mm : vMM} {z : vZZ} {Q : Value → vDD → vMM → vZZ → Prop} : Runs MX5_init 11 [.ref x] st D mm z Q = Runs MX5_init 12 [.ref x] (.ref x :: st) D mm z Q := R_aload_n (by decide +kernel) rfl
theorem sX5_init_12 {a0 : Value} {st : List Value} {D : vDD} {mm : vMM} {z : vZZ} {Q : Value → vDD → vMM → vZZ → Prop} : Runs MX5_init 12 [a0] st D mm z Q = Runs MX5_init 13 [a0] (.int 4 :: st) D mm z Q := R_iconst (by decide +kernel) (by decide +kernel)
theorem sX5_init_13 {a0 : Value} {st : List Value} {D : vDD} {mm : vMM} {z : vZZ} {Q : Value → vDD → vMM → vZZ → Prop} : Runs MX5_init 13 [a0] (.int 4 :: st) D mm z Q = Runs MX5_init 15 [a0] (.ref z.1 :: st) (nwD D z.1 (8, 4, fun _ => none)) (nwM mm z.1) (z.1 + 1, z.2 + 4) Q := R_newI (by decide +kernel) (by decide +kernel) (by decide +kernel)
theorem sX5_init_15 {a0 : Value} {st : List Value} {a r : Nat} {D : vDD} {mm : vMM} {z : vZZ} {Q : Value → vDD → vMM → vZZ → Prop} : Runs MX5_init 15 [a0] (.ref r :: .ref a :: st) D mm z Q = ((D a).1 = 5 ∧ Runs MX5_init 18 [a0] st (upR D a 1 (some r)) mm z Q) := R_putR (by decide +kernel) rfl rfl (by decide +kernel)
theorem sX5_init_18  {x : Nat} {st : List Value} {D : vDD} {mm : vMM} {z : vZZ} {Q : Value → vDD → vMM → vZZ → Prop} : Runs MX5_init 18 [.ref x] st D mm z Q = Runs MX5_init 19 [.ref x] (.ref x :: st) D mm z Q := R_aload_n (by decide +kernel) rfl
theorem sX5_init_19 {a0 : Value} {st : List Value} {D : vDD} {mm : vMM} {z : vZZ} {Q : Value → vDD → vMM → vZZ → Prop} : Runs MX5_init 19 [a0] st D mm z Q = Runs MX5_init 20 [a0] (.int 4 :: st) D mm z Q := R_iconst (by decide +kernel) (by decide +kernel)
theorem sX5_init_20 {a0 : Value} {st : List Value} {D : vDD} {mm : vMM} {z : vZZ} {Q : Value → vDD → vMM → vZZ → Prop} : Runs MX5_init 20 [a0] (.int 4 :: st) D mm z Q = Runs MX5_init 22 [a0] (.ref z.1 :: st) (nwD D z.1 (8, 4, fun _ => none)) (nwM mm z.1) (z.1 + 1, z.2 + 4) Q := R_newI (by decide +kernel) (by decide +kernel) (by decide +kernel)
theorem sX5_init_22 {a0 : Value} {st : List Value} {a r : Nat} {D : vDD} {mm : vMM} {z : vZZ} {Q : Value → vDD → vMM → vZZ → Prop} : Runs MX5_init 22 [a0] (.ref r :: .ref a :: st) D mm z Q = ((D a).1 = 5 ∧ Runs MX5_init 25 [a0] st (upR D a 2 (some r)) mm z Q) := R_putR (by decide +kernel) rfl rfl (by decide +kernel)
theorem sX5_init_25 {a0 : Value} {D : vDD} {mm : vMM} {z : vZZ} {Q : Value → vDD → vMM → vZZ → Prop} : Runs MX5_init 25 [a0] [] D mm z Q = Q vJ D mm z := R_vret (by decide +kernel) rfl
-- X5_start
theorem sX5_start_0  {x : Nat} {st : List Value} {D : vDD} {mm : vMM} {z : vZZ} {Q : Value → vDD → vMM → vZZ → Prop} : Runs MX5_start 0 [.ref x] st D mm z Q = Runs MX5_start 1 [.ref x] (.ref x :: st) D mm z Q := R_aload_n (by decide +kernel) rfl
theorem sX5_start_1 {a0 : Value} {st : List Value} {D : vDD} {mm : vMM} {z : vZZ} {Q : Value → vDD → vMM → vZZ → Prop} : Runs MX5_start 1 [a0] st D mm z Q = Runs MX5_start 2 [a0] (.int 0 :: st) D mm z Q := R_iconst (by decide +kernel) (by decide +kernel)
theorem sX5_start_2 {a0 : Value} {st : List Value} {a : Nat} {x : Int32} {D : vDD} {mm : vMM} {z : vZZ} {Q : Value → vDD → vMM → vZZ → Prop} : Runs MX5_start 2 [a0] (.int x :: .ref a :: st) D mm z Q = ((D a).1 = 5 ∧ Runs MX5_start 5 [a0] st D (up2 mm a 3 x) z Q) := R_putI (by decide +kernel) rfl rfl rfl (by decide +kernel)
theorem sX5_start_5  {x : Nat} {st : List Value} {D : vDD} {mm : vMM} {z : vZZ} {Q : Value → vDD → vMM → vZZ → Prop} : Runs MX5_start 5 [.ref x] st D mm z Q = Runs MX5_start 6 [.ref x] (.ref x :: st) D mm z Q := R_aload_n (by decide +kernel) rfl
theorem sX5_start_6 {a0 : Value} {st : List Value} {D : vDD} {mm : vMM} {z : vZZ} {Q : Value → vDD → vMM → vZZ → Prop} : Runs MX5_start 6 [a0] st D mm z Q = Runs MX5_start 7 [a0] (.int 0 :: st) D mm z Q := R_iconst (by decide +kernel) (by decide +kernel)
theorem sX5_start_7 {a0 : Value} {st : List Value} {a : Nat} {x : Int32} {D : vDD} {mm : vMM} {z : vZZ} {Q : Value → vDD → vMM → vZZ → Prop} : Runs MX5_start 7 [a0] (.int x :: .ref a :: st) D mm z Q = ((D a).1 = 5 ∧ Runs MX5_start 10 [a0] st D (up2 mm a 4 x) z Q) := R_putI (by decide +kernel) rfl rfl rfl (by decide +kernel)
theorem sX5_start_10  {x : Nat} {st : List Value} {D : vDD} {mm : vMM} {z : vZZ} {Q : Value → vDD → vMM → vZZ → Prop} : Runs MX5_start 10 [.ref x] st D mm z Q = Runs MX5_start 11 [.ref x] (.ref x :: st) D mm z Q := R_aload_n (by decide +kernel) rfl
theorem sX5_start_11 {a0 : Value} {st : List Value} {D : vDD} {mm : vMM} {z : vZZ} {Q : Value → vDD → vMM → vZZ → Prop} : Runs MX5_start 11 [a0] st D mm z Q = Runs MX5_start 12 [a0] (.int 0 :: st) D mm z Q := R_iconst (by decide +kernel) (by decide +kernel)
theorem sX5_start_12 {a0 : Value} {st : List Value} {a : Nat} {x : Int32} {D : vDD} {mm : vMM} {z : vZZ} {Q : Value → vDD → vMM → vZZ → Prop} : Runs MX5_start 12 [a0] (.int x :: .ref a :: st) D mm z Q = ((D a).1 = 5 ∧ Runs MX5_start 15 [a0] st D (up2 mm a 7 x) z Q) := R_putI (by decide +kernel) rfl rfl rfl (by decide +kernel)
theorem sX5_start_15  {x : Nat} {st : List Value} {D : vDD} {mm : vMM} {z : vZZ} {Q : Value → vDD → vMM → vZZ → Prop} : Runs MX5_start 15 [.ref x] st D mm z Q = Runs MX5_start 16 [.ref x] (.ref x :: st) D mm z Q := R_aload_n (by decide +kernel) rfl
theorem sX5_start_16 {a0 : Value} {st : List Value} {D : vDD} {mm : vMM} {z : vZZ} {Q : Value → vDD → vMM → vZZ → Prop} : Runs MX5_start 16 [a0] st D mm z Q = Runs MX5_start 17 [a0] (.int 0 :: st) D mm z Q := R_iconst (by decide +kernel) (by decide +kernel)
theorem sX5_start_17 {a0 : Value} {st : List Value} {a : Nat} {x : Int32} {D : vDD} {mm : vMM} {z : vZZ} {Q : Value → vDD → vMM → vZZ → Prop} : Runs MX5_start 17 [a0] (.int x :: .ref a :: st) D mm z Q = ((D a).1 = 5 ∧ Runs MX5_start 20 [a0] st D (up2 mm a 8 x) z Q) := R_putI (by decide +kernel) rfl rfl rfl (by decide +kernel)
theorem sX5_start_20  {x : Nat} {st : List Value} {D : vDD} {mm : vMM} {z : vZZ} {Q : Value → vDD → vMM → vZZ → Prop} : Runs MX5_start 20 [.ref x] st D mm z Q = Runs MX5_start 21 [.ref x] (.ref x :: st) D mm z Q := R_aload_n (by decide +kernel) rfl
theorem sX5_start_21 {a0 : Value} {a : Nat} {D : vDD} {mm : vMM} {z : vZZ} {Q : Value → vDD → vMM → vZZ → Prop} : Runs MX5_start 21 [a0] [.ref a] D mm z Q = ((D a).1 = 5 ∧ Runs MX5_becomeWaiting 0 [.ref a] [] D mm z (fun v D mm z => Runs MX5_start 24 [a0] [] D mm z Q)) := R_callV (i := .invokevirtual 34) (by decide +kernel) (Or.inl ⟨rfl, rfl⟩) rfl (by simp) rfl rfl rfl rfl (fun v => []) (fun _ => rfl)
theorem sX5_start_24 {a0 : Value} {D : vDD} {mm : vMM} {z : vZZ} {Q : Value → vDD → vMM → vZZ → Prop} : Runs MX5_start 24 [a0] [] D mm z Q = Q vJ D mm z := R_vret (by decide +kernel) rfl
-- X5_becomeWaiting
theorem sX5_becomeWaiting_0  {x : Nat} {st : List Value} {D : vDD} {mm : vMM} {z : vZZ} {Q : Value → vDD → vMM → vZZ → Prop} : Runs MX5_becomeWaiting 0 [.ref x] st D mm z Q = Runs MX5_becomeWaiting 1 [.ref x] (.ref x :: st) D mm z Q := R_aload_n (by decide +kernel) rfl
theorem sX5_becomeWaiting_1 {a0 : Value} {st : List Value} {D : vDD} {mm : vMM} {z : vZZ} {Q : Value → vDD → vMM → vZZ → Prop} : Runs MX5_becomeWaiting 1 [a0] st D mm z Q = Runs MX5_becomeWaiting 2 [a0] (.int 0 :: st) D mm z Q := R_iconst (by decide +kernel) (by decide +kernel)
theorem sX5_becomeWaiting_2 {a0 : Value} {st : List Value} {a : Nat} {x : Int32} {D : vDD} {mm : vMM} {z : vZZ} {Q : Value → vDD → vMM → vZZ → Prop} : Runs MX5_becomeWaiting 2 [a0] (.int x :: .ref a :: st) D mm z Q = ((D a).1 = 5 ∧ Runs MX5_becomeWaiting 5 [a0] st D (up2 mm a 5 x) z Q) := R_putI (by decide +kernel) rfl rfl rfl (by decide +kernel)
theorem sX5_becomeWaiting_5  {x : Nat} {st : List Value} {D : vDD} {mm : vMM} {z : vZZ} {Q : Value → vDD → vMM → vZZ → Prop} : Runs MX5_becomeWaiting 5 [.ref x] st D mm z Q = Runs MX5_becomeWaiting 6 [.ref x] (.ref x :: st) D mm z Q := R_aload_n (by decide +kernel) rfl
theorem sX5_becomeWaiting_6 {a0 : Value} {st : List Value} {D : vDD} {mm : vMM} {z : vZZ} {Q : Value → vDD → vMM → vZZ → Prop} : Runs MX5_becomeWaiting 6 [a0] st D mm z Q = Runs MX5_becomeWaiting 7 [a0] (.int 0 :: st) D mm z Q := R_iconst (by decide +kernel) (by decide +kernel)
theorem sX5_becomeWaiting_7 {a0 : Value} {st : List Value} {a : Nat} {x : Int32} {D : vDD} {mm : vMM} {z : vZZ} {Q : Value → vDD → vMM → vZZ → Prop} : Runs MX5_becomeWaiting 7 [a0] (.int x :: .ref a :: st) D mm z Q = ((D a).1 = 5 ∧ Runs MX5_becomeWaiting 10 [a0] st D (up2 mm a 6 x) z Q) := R_putI (by decide +kernel) rfl rfl rfl (by decide +kernel)
theorem sX5_becomeWaiting_10 {a0 : Value} {D : vDD} {mm : vMM} {z : vZZ} {Q : Value → vDD → vMM → vZZ → Prop} : Runs MX5_becomeWaiting 10 [a0] [] D mm z Q = Q vJ D mm z := R_vret (by decide +kernel) rfl
-- X5_leaveQueue
theorem sX5_leaveQueue_0 {a1 : Value} {x : Nat} {st : List Value} {D : vDD} {mm : vMM} {z : vZZ} {Q : Value → vDD → vMM → vZZ → Prop} : Runs MX5_leaveQueue 0 [.ref x, a1] st D mm z Q = Runs MX5_leaveQueue 1 [.ref x, a1] (.ref x :: st) D mm z Q := R_aload_n (by decide +kernel) rfl
theorem sX5_leaveQueue_1 {a0 : Value} {x : Int32} {st : List Value} {D : vDD} {mm : vMM} {z : vZZ} {Q : Value → vDD → vMM → vZZ → Prop} : Runs MX5_leaveQueue 1 [a0, .int x] st D mm z Q = Runs MX5_leaveQueue 2 [a0, .int x] (.int x :: st) D mm z Q := R_iload_n (by decide +kernel) rfl
theorem sX5_leaveQueue_2 {a0 a1 : Value} {st : List Value} {a : Nat} {x : Int32} {D : vDD} {mm : vMM} {z : vZZ} {Q : Value → vDD → vMM → vZZ → Prop} : Runs MX5_leaveQueue 2 [a0, a1] (.int x :: .ref a :: st) D mm z Q = ((D a).1 = 5 ∧ Runs MX5_leaveQueue 5 [a0, a1] st D (up2 mm a 5 x) z Q) := R_putI (by decide +kernel) rfl rfl rfl (by decide +kernel)
theorem sX5_leaveQueue_5 {a1 : Value} {x : Nat} {st : List Value} {D : vDD} {mm : vMM} {z : vZZ} {Q : Value → vDD → vMM → vZZ → Prop} : Runs MX5_leaveQueue 5 [.ref x, a1] st D mm z Q = Runs MX5_leaveQueue 6 [.ref x, a1] (.ref x :: st) D mm z Q := R_aload_n (by decide +kernel) rfl
theorem sX5_leaveQueue_6 {a0 a1 : Value} {st : List Value} {D : vDD} {mm : vMM} {z : vZZ} {Q : Value → vDD → vMM → vZZ → Prop} : Runs MX5_leaveQueue 6 [a0, a1] st D mm z Q = Runs MX5_leaveQueue 7 [a0, a1] (.int 0 :: st) D mm z Q := R_iconst (by decide +kernel) (by decide +kernel)
theorem sX5_leaveQueue_7 {a0 a1 : Value} {st : List Value} {a : Nat} {x : Int32} {D : vDD} {mm : vMM} {z : vZZ} {Q : Value → vDD → vMM → vZZ → Prop} : Runs MX5_leaveQueue 7 [a0, a1] (.int x :: .ref a :: st) D mm z Q = ((D a).1 = 5 ∧ Runs MX5_leaveQueue 10 [a0, a1] st D (up2 mm a 6 x) z Q) := R_putI (by decide +kernel) rfl rfl rfl (by decide +kernel)
theorem sX5_leaveQueue_10 {a0 a1 : Value} {D : vDD} {mm : vMM} {z : vZZ} {Q : Value → vDD → vMM → vZZ → Prop} : Runs MX5_leaveQueue 10 [a0, a1] [] D mm z Q = Q vJ D mm z := R_vret (by decide +kernel) rfl
-- X5_hasStep
theorem sX5_hasStep_0 {a0 : Value} {x : Int32} {st : List Value} {D : vDD} {mm : vMM} {z : vZZ} {Q : Value → vDD → vMM → vZZ → Prop} : Runs MX5_hasStep 0 [a0, .int x] st D mm z Q = Runs MX5_hasStep 1 [a0, .int x] (.int x :: st) D mm z Q := R_iload_n (by decide +kernel) rfl
theorem sX5_hasStep_1 {a0 a1 : Value} {st : List Value} {x : Int32} {D : vDD} {mm : vMM} {z : vZZ} {Q : Value → vDD → vMM → vZZ → Prop} : Runs MX5_hasStep 1 [a0, a1] (.int x :: st) D mm z Q = (if x < 0 then Runs MX5_hasStep 21 [a0, a1] st D mm z Q else Runs MX5_hasStep 4 [a0, a1] st D mm z Q) := R_iflt (by decide +kernel) (by decide +kernel)
theorem sX5_hasStep_4 {a0 : Value} {x : Int32} {st : List Value} {D : vDD} {mm : vMM} {z : vZZ} {Q : Value → vDD → vMM → vZZ → Prop} : Runs MX5_hasStep 4 [a0, .int x] st D mm z Q = Runs MX5_hasStep 5 [a0, .int x] (.int x :: st) D mm z Q := R_iload_n (by decide +kernel) rfl
theorem sX5_hasStep_5 {a1 : Value} {x : Nat} {st : List Value} {D : vDD} {mm : vMM} {z : vZZ} {Q : Value → vDD → vMM → vZZ → Prop} : Runs MX5_hasStep 5 [.ref x, a1] st D mm z Q = Runs MX5_hasStep 6 [.ref x, a1] (.ref x :: st) D mm z Q := R_aload_n (by decide +kernel) rfl
theorem sX5_hasStep_6 {a0 a1 : Value} {st : List Value} {a : Nat} {D : vDD} {mm : vMM} {z : vZZ} {Q : Value → vDD → vMM → vZZ → Prop} : Runs MX5_hasStep 6 [a0, a1] (.ref a :: st) D mm z Q = ((D a).1 = 5 ∧ Runs MX5_hasStep 9 [a0, a1] (.int (mm a 3) :: st) D mm z Q) := R_getI (by decide +kernel) rfl rfl
theorem sX5_hasStep_9 {a0 a1 : Value} {st : List Value} {x v : Int32} {D : vDD} {mm : vMM} {z : vZZ} {Q : Value → vDD → vMM → vZZ → Prop} : Runs MX5_hasStep 9 [a0, a1] (.int v :: .int x :: st) D mm z Q = (if v ≤ x then Runs MX5_hasStep 21 [a0, a1] st D mm z Q else Runs MX5_hasStep 12 [a0, a1] st D mm z Q) := R_icge (by decide +kernel) (by decide +kernel)
theorem sX5_hasStep_12 {a0 : Value} {x : Int32} {st : List Value} {D : vDD} {mm : vMM} {z : vZZ} {Q : Value → vDD → vMM → vZZ → Prop} : Runs MX5_hasStep 12 [a0, .int x] st D mm z Q = Runs MX5_hasStep 13 [a0, .int x] (.int x :: st) D mm z Q := R_iload_n (by decide +kernel) rfl
theorem sX5_hasStep_13 {a0 a1 : Value} {st : List Value} {D : vDD} {mm : vMM} {z : vZZ} {Q : Value → vDD → vMM → vZZ → Prop} : Runs MX5_hasStep 13 [a0, a1] st D mm z Q = Runs MX5_hasStep 14 [a0, a1] (.int 4 :: st) D mm z Q := R_iconst (by decide +kernel) (by decide +kernel)
theorem sX5_hasStep_14 {a0 a1 : Value} {st : List Value} {x v : Int32} {D : vDD} {mm : vMM} {z : vZZ} {Q : Value → vDD → vMM → vZZ → Prop} : Runs MX5_hasStep 14 [a0, a1] (.int v :: .int x :: st) D mm z Q = (if v ≤ x then Runs MX5_hasStep 21 [a0, a1] st D mm z Q else Runs MX5_hasStep 17 [a0, a1] st D mm z Q) := R_icge (by decide +kernel) (by decide +kernel)
theorem sX5_hasStep_17 {a0 a1 : Value} {st : List Value} {D : vDD} {mm : vMM} {z : vZZ} {Q : Value → vDD → vMM → vZZ → Prop} : Runs MX5_hasStep 17 [a0, a1] st D mm z Q = Runs MX5_hasStep 18 [a0, a1] (.int 1 :: st) D mm z Q := R_iconst (by decide +kernel) (by decide +kernel)
theorem sX5_hasStep_18 {a0 a1 : Value} {st : List Value} {D : vDD} {mm : vMM} {z : vZZ} {Q : Value → vDD → vMM → vZZ → Prop} : Runs MX5_hasStep 18 [a0, a1] st D mm z Q = Runs MX5_hasStep 22 [a0, a1] st D mm z Q := R_goto (by decide +kernel) (by decide +kernel)
theorem sX5_hasStep_21 {a0 a1 : Value} {st : List Value} {D : vDD} {mm : vMM} {z : vZZ} {Q : Value → vDD → vMM → vZZ → Prop} : Runs MX5_hasStep 21 [a0, a1] st D mm z Q = Runs MX5_hasStep 22 [a0, a1] (.int 0 :: st) D mm z Q := R_iconst (by decide +kernel) (by decide +kernel)
theorem sX5_hasStep_22 {a0 a1 : Value} {v : Int32} {D : vDD} {mm : vMM} {z : vZZ} {Q : Value → vDD → vMM → vZZ → Prop} : Runs MX5_hasStep 22 [a0, a1] [.int v] D mm z Q = (narrow .boolean (.int v) = .int v ∧ Q (.int v) D mm z) := R_zret (by decide +kernel) rfl
-- X5_addStep
theorem sX5_addStep_0 {a1 : Value} {x : Nat} {st : List Value} {D : vDD} {mm : vMM} {z : vZZ} {Q : Value → vDD → vMM → vZZ → Prop} : Runs MX5_addStep 0 [.ref x, a1] st D mm z Q = Runs MX5_addStep 1 [.ref x, a1] (.ref x :: st) D mm z Q := R_aload_n (by decide +kernel) rfl
theorem sX5_addStep_1 {a0 a1 : Value} {st : List Value} {a : Nat} {D : vDD} {mm : vMM} {z : vZZ} {Q : Value → vDD → vMM → vZZ → Prop} : Runs MX5_addStep 1 [a0, a1] (.ref a :: st) D mm z Q = ((D a).1 = 5 ∧ Runs MX5_addStep 4 [a0, a1] (.int (mm a 3) :: st) D mm z Q) := R_getI (by decide +kernel) rfl rfl
theorem sX5_addStep_4 {a0 a1 : Value} {st : List Value} {D : vDD} {mm : vMM} {z : vZZ} {Q : Value → vDD → vMM → vZZ → Prop} : Runs MX5_addStep 4 [a0, a1] st D mm z Q = Runs MX5_addStep 5 [a0, a1] (.int 4 :: st) D mm z Q := R_iconst (by decide +kernel) (by decide +kernel)
theorem sX5_addStep_5 {a0 a1 : Value} {st : List Value} {x v : Int32} {D : vDD} {mm : vMM} {z : vZZ} {Q : Value → vDD → vMM → vZZ → Prop} : Runs MX5_addStep 5 [a0, a1] (.int v :: .int x :: st) D mm z Q = (if v ≤ x then Runs MX5_addStep 49 [a0, a1] st D mm z Q else Runs MX5_addStep 8 [a0, a1] st D mm z Q) := R_icge (by decide +kernel) (by decide +kernel)
theorem sX5_addStep_8 {a1 : Value} {x : Nat} {st : List Value} {D : vDD} {mm : vMM} {z : vZZ} {Q : Value → vDD → vMM → vZZ → Prop} : Runs MX5_addStep 8 [.ref x, a1] st D mm z Q = Runs MX5_addStep 9 [.ref x, a1] (.ref x :: st) D mm z Q := R_aload_n (by decide +kernel) rfl
theorem sX5_addStep_9 {a0 a1 : Value} {st : List Value} {a : Nat} {D : vDD} {mm : vMM} {z : vZZ} {Q : Value → vDD → vMM → vZZ → Prop} : Runs MX5_addStep 9 [a0, a1] (.ref a :: st) D mm z Q = ((D a).1 = 5 ∧ match (D a).2.2 0 with
    | some r => Runs MX5_addStep 12 [a0, a1] (.ref r :: st) D mm z Q
    | none => False) := R_getR (by decide +kernel) rfl rfl
theorem sX5_addStep_12 {a1 : Value} {x : Nat} {st : List Value} {D : vDD} {mm : vMM} {z : vZZ} {Q : Value → vDD → vMM → vZZ → Prop} : Runs MX5_addStep 12 [.ref x, a1] st D mm z Q = Runs MX5_addStep 13 [.ref x, a1] (.ref x :: st) D mm z Q := R_aload_n (by decide +kernel) rfl
theorem sX5_addStep_13 {a0 a1 : Value} {st : List Value} {a : Nat} {D : vDD} {mm : vMM} {z : vZZ} {Q : Value → vDD → vMM → vZZ → Prop} : Runs MX5_addStep 13 [a0, a1] (.ref a :: st) D mm z Q = ((D a).1 = 5 ∧ Runs MX5_addStep 16 [a0, a1] (.int (mm a 3) :: st) D mm z Q) := R_getI (by decide +kernel) rfl rfl
theorem sX5_addStep_16 {a0 : Value} {x : Int32} {st : List Value} {D : vDD} {mm : vMM} {z : vZZ} {Q : Value → vDD → vMM → vZZ → Prop} : Runs MX5_addStep 16 [a0, .int x] st D mm z Q = Runs MX5_addStep 17 [a0, .int x] (.int x :: st) D mm z Q := R_iload_n (by decide +kernel) rfl
theorem sX5_addStep_17 {a0 a1 : Value} {st : List Value} {a : Nat} {i x : Int32} {D : vDD} {mm : vMM} {z : vZZ} {Q : Value → vDD → vMM → vZZ → Prop} : Runs MX5_addStep 17 [a0, a1] (.int x :: .int i :: .ref a :: st) D mm z Q = (((D a).1 = 8 ∧ inB i (D a).2.1 = true) ∧ Runs MX5_addStep 18 [a0, a1] st D (up2 mm a i.toNatClampNeg x) z Q) := R_iast (by decide +kernel)
theorem sX5_addStep_18 {a1 : Value} {x : Nat} {st : List Value} {D : vDD} {mm : vMM} {z : vZZ} {Q : Value → vDD → vMM → vZZ → Prop} : Runs MX5_addStep 18 [.ref x, a1] st D mm z Q = Runs MX5_addStep 19 [.ref x, a1] (.ref x :: st) D mm z Q := R_aload_n (by decide +kernel) rfl
theorem sX5_addStep_19 {a0 a1 : Value} {st : List Value} {a : Nat} {D : vDD} {mm : vMM} {z : vZZ} {Q : Value → vDD → vMM → vZZ → Prop} : Runs MX5_addStep 19 [a0, a1] (.ref a :: st) D mm z Q = ((D a).1 = 5 ∧ match (D a).2.2 1 with
    | some r => Runs MX5_addStep 22 [a0, a1] (.ref r :: st) D mm z Q
    | none => False) := R_getR (by decide +kernel) rfl rfl
theorem sX5_addStep_22 {a1 : Value} {x : Nat} {st : List Value} {D : vDD} {mm : vMM} {z : vZZ} {Q : Value → vDD → vMM → vZZ → Prop} : Runs MX5_addStep 22 [.ref x, a1] st D mm z Q = Runs MX5_addStep 23 [.ref x, a1] (.ref x :: st) D mm z Q := R_aload_n (by decide +kernel) rfl
theorem sX5_addStep_23 {a0 a1 : Value} {st : List Value} {a : Nat} {D : vDD} {mm : vMM} {z : vZZ} {Q : Value → vDD → vMM → vZZ → Prop} : Runs MX5_addStep 23 [a0, a1] (.ref a :: st) D mm z Q = ((D a).1 = 5 ∧ Runs MX5_addStep 26 [a0, a1] (.int (mm a 3) :: st) D mm z Q) := R_getI (by decide +kernel) rfl rfl
theorem sX5_addStep_26 {a0 a1 : Value} {st : List Value} {D : vDD} {mm : vMM} {z : vZZ} {Q : Value → vDD → vMM → vZZ → Prop} : Runs MX5_addStep 26 [a0, a1] st D mm z Q = Runs MX5_addStep 27 [a0, a1] (.int 1 :: st) D mm z Q := R_iconst (by decide +kernel) (by decide +kernel)
theorem sX5_addStep_27 {a0 a1 : Value} {st : List Value} {a : Nat} {i x : Int32} {D : vDD} {mm : vMM} {z : vZZ} {Q : Value → vDD → vMM → vZZ → Prop} : Runs MX5_addStep 27 [a0, a1] (.int x :: .int i :: .ref a :: st) D mm z Q = (((D a).1 = 8 ∧ inB i (D a).2.1 = true) ∧ Runs MX5_addStep 28 [a0, a1] st D (up2 mm a i.toNatClampNeg x) z Q) := R_iast (by decide +kernel)
theorem sX5_addStep_28 {a1 : Value} {x : Nat} {st : List Value} {D : vDD} {mm : vMM} {z : vZZ} {Q : Value → vDD → vMM → vZZ → Prop} : Runs MX5_addStep 28 [.ref x, a1] st D mm z Q = Runs MX5_addStep 29 [.ref x, a1] (.ref x :: st) D mm z Q := R_aload_n (by decide +kernel) rfl
theorem sX5_addStep_29 {a0 a1 : Value} {st : List Value} {a : Nat} {D : vDD} {mm : vMM} {z : vZZ} {Q : Value → vDD → vMM → vZZ → Prop} : Runs MX5_addStep 29 [a0, a1] (.ref a :: st) D mm z Q = ((D a).1 = 5 ∧ match (D a).2.2 2 with
    | some r => Runs MX5_addStep 32 [a0, a1] (.ref r :: st) D mm z Q
    | none => False) := R_getR (by decide +kernel) rfl rfl
theorem sX5_addStep_32 {a1 : Value} {x : Nat} {st : List Value} {D : vDD} {mm : vMM} {z : vZZ} {Q : Value → vDD → vMM → vZZ → Prop} : Runs MX5_addStep 32 [.ref x, a1] st D mm z Q = Runs MX5_addStep 33 [.ref x, a1] (.ref x :: st) D mm z Q := R_aload_n (by decide +kernel) rfl
theorem sX5_addStep_33 {a0 a1 : Value} {st : List Value} {a : Nat} {D : vDD} {mm : vMM} {z : vZZ} {Q : Value → vDD → vMM → vZZ → Prop} : Runs MX5_addStep 33 [a0, a1] (.ref a :: st) D mm z Q = ((D a).1 = 5 ∧ Runs MX5_addStep 36 [a0, a1] (.int (mm a 3) :: st) D mm z Q) := R_getI (by decide +kernel) rfl rfl
theorem sX5_addStep_36 {a0 a1 : Value} {st : List Value} {D : vDD} {mm : vMM} {z : vZZ} {Q : Value → vDD → vMM → vZZ → Prop} : Runs MX5_addStep 36 [a0, a1] st D mm z Q = Runs MX5_addStep 38 [a0, a1] (.int (-6) :: st) D mm z Q := R_bipush (by decide +kernel) (by decide +kernel)
theorem sX5_addStep_38 {a0 a1 : Value} {st : List Value} {a : Nat} {i x : Int32} {D : vDD} {mm : vMM} {z : vZZ} {Q : Value → vDD → vMM → vZZ → Prop} : Runs MX5_addStep 38 [a0, a1] (.int x :: .int i :: .ref a :: st) D mm z Q = (((D a).1 = 8 ∧ inB i (D a).2.1 = true) ∧ Runs MX5_addStep 39 [a0, a1] st D (up2 mm a i.toNatClampNeg x) z Q) := R_iast (by decide +kernel)
theorem sX5_addStep_39 {a1 : Value} {x : Nat} {st : List Value} {D : vDD} {mm : vMM} {z : vZZ} {Q : Value → vDD → vMM → vZZ → Prop} : Runs MX5_addStep 39 [.ref x, a1] st D mm z Q = Runs MX5_addStep 40 [.ref x, a1] (.ref x :: st) D mm z Q := R_aload_n (by decide +kernel) rfl
theorem sX5_addStep_40 {a0 a1 : Value} {st : List Value} {x : Nat} {D : vDD} {mm : vMM} {z : vZZ} {Q : Value → vDD → vMM → vZZ → Prop} : Runs MX5_addStep 40 [a0, a1] (.ref x :: st) D mm z Q = Runs MX5_addStep 41 [a0, a1] (.ref x :: .ref x :: st) D mm z Q := R_dupR (by decide +kernel)
theorem sX5_addStep_41 {a0 a1 : Value} {st : List Value} {a : Nat} {D : vDD} {mm : vMM} {z : vZZ} {Q : Value → vDD → vMM → vZZ → Prop} : Runs MX5_addStep 41 [a0, a1] (.ref a :: st) D mm z Q = ((D a).1 = 5 ∧ Runs MX5_addStep 44 [a0, a1] (.int (mm a 3) :: st) D mm z Q) := R_getI (by decide +kernel) rfl rfl
theorem sX5_addStep_44 {a0 a1 : Value} {st : List Value} {D : vDD} {mm : vMM} {z : vZZ} {Q : Value → vDD → vMM → vZZ → Prop} : Runs MX5_addStep 44 [a0, a1] st D mm z Q = Runs MX5_addStep 45 [a0, a1] (.int 1 :: st) D mm z Q := R_iconst (by decide +kernel) (by decide +kernel)
theorem sX5_addStep_45 {a0 a1 : Value} {st : List Value} {x v : Int32} {D : vDD} {mm : vMM} {z : vZZ} {Q : Value → vDD → vMM → vZZ → Prop} : Runs MX5_addStep 45 [a0, a1] (.int v :: .int x :: st) D mm z Q = Runs MX5_addStep 46 [a0, a1] (.int (x + v) :: st) D mm z Q := R_iadd (by decide +kernel)
theorem sX5_addStep_46 {a0 a1 : Value} {st : List Value} {a : Nat} {x : Int32} {D : vDD} {mm : vMM} {z : vZZ} {Q : Value → vDD → vMM → vZZ → Prop} : Runs MX5_addStep 46 [a0, a1] (.int x :: .ref a :: st) D mm z Q = ((D a).1 = 5 ∧ Runs MX5_addStep 49 [a0, a1] st D (up2 mm a 3 x) z Q) := R_putI (by decide +kernel) rfl rfl rfl (by decide +kernel)
theorem sX5_addStep_49 {a0 a1 : Value} {D : vDD} {mm : vMM} {z : vZZ} {Q : Value → vDD → vMM → vZZ → Prop} : Runs MX5_addStep 49 [a0, a1] [] D mm z Q = Q vJ D mm z := R_vret (by decide +kernel) rfl
-- X5_setLastWork
theorem sX5_setLastWork_0 {a1 : Value} {x : Nat} {st : List Value} {D : vDD} {mm : vMM} {z : vZZ} {Q : Value → vDD → vMM → vZZ → Prop} : Runs MX5_setLastWork 0 [.ref x, a1] st D mm z Q = Runs MX5_setLastWork 1 [.ref x, a1] (.ref x :: st) D mm z Q := R_aload_n (by decide +kernel) rfl
theorem sX5_setLastWork_1 {a1 : Value} {x : Nat} {st : List Value} {D : vDD} {mm : vMM} {z : vZZ} {Q : Value → vDD → vMM → vZZ → Prop} : Runs MX5_setLastWork 1 [.ref x, a1] st D mm z Q = Runs MX5_setLastWork 2 [.ref x, a1] (.ref x :: st) D mm z Q := R_aload_n (by decide +kernel) rfl
theorem sX5_setLastWork_2 {a0 a1 : Value} {st : List Value} {a : Nat} {D : vDD} {mm : vMM} {z : vZZ} {Q : Value → vDD → vMM → vZZ → Prop} : Runs MX5_setLastWork 2 [a0, a1] (.ref a :: st) D mm z Q = ((D a).1 = 5 ∧ Runs MX5_setLastWork 5 [a0, a1] (.int (mm a 3) :: st) D mm z Q) := R_getI (by decide +kernel) rfl rfl
theorem sX5_setLastWork_5 {a0 a1 : Value} {st : List Value} {D : vDD} {mm : vMM} {z : vZZ} {Q : Value → vDD → vMM → vZZ → Prop} : Runs MX5_setLastWork 5 [a0, a1] st D mm z Q = Runs MX5_setLastWork 6 [a0, a1] (.int 1 :: st) D mm z Q := R_iconst (by decide +kernel) (by decide +kernel)
theorem sX5_setLastWork_6 {a0 a1 : Value} {st : List Value} {x v : Int32} {D : vDD} {mm : vMM} {z : vZZ} {Q : Value → vDD → vMM → vZZ → Prop} : Runs MX5_setLastWork 6 [a0, a1] (.int v :: .int x :: st) D mm z Q = Runs MX5_setLastWork 7 [a0, a1] (.int (x - v) :: st) D mm z Q := R_isub (by decide +kernel)
theorem sX5_setLastWork_7 {a0 a1 : Value} {a : Nat} {x0 : Int32} {D : vDD} {mm : vMM} {z : vZZ} {Q : Value → vDD → vMM → vZZ → Prop} : Runs MX5_setLastWork 7 [a0, a1] [.int x0, .ref a] D mm z Q = ((D a).1 = 5 ∧ Runs MX5_hasStep 0 [.ref a, .int x0] [] D mm z (fun v D mm z => Runs MX5_setLastWork 10 [a0, a1] [v] D mm z Q)) := R_callV (i := .invokevirtual 43) (by decide +kernel) (Or.inl ⟨rfl, rfl⟩) rfl (by simp) rfl rfl rfl rfl (fun v => [v]) (fun _ => rfl)
theorem sX5_setLastWork_10 {a0 a1 : Value} {st : List Value} {x : Int32} {D : vDD} {mm : vMM} {z : vZZ} {Q : Value → vDD → vMM → vZZ → Prop} : Runs MX5_setLastWork 10 [a0, a1] (.int x :: st) D mm z Q = (if x = 0 then Runs MX5_setLastWork 25 [a0, a1] st D mm z Q else Runs MX5_setLastWork 13 [a0, a1] st D mm z Q) := R_ifeq (by decide +kernel) (by decide +kernel)
theorem sX5_setLastWork_13 {a1 : Value} {x : Nat} {st : List Value} {D : vDD} {mm : vMM} {z : vZZ} {Q : Value → vDD → vMM → vZZ → Prop} : Runs MX5_setLastWork 13 [.ref x, a1] st D mm z Q = Runs MX5_setLastWork 14 [.ref x, a1] (.ref x :: st) D mm z Q := R_aload_n (by decide +kernel) rfl
theorem sX5_setLastWork_14 {a0 a1 : Value} {st : List Value} {a : Nat} {D : vDD} {mm : vMM} {z : vZZ} {Q : Value → vDD → vMM → vZZ → Prop} : Runs MX5_setLastWork 14 [a0, a1] (.ref a :: st) D mm z Q = ((D a).1 = 5 ∧ match (D a).2.2 1 with
    | some r => Runs MX5_setLastWork 17 [a0, a1] (.ref r :: st) D mm z Q
    | none => False) := R_getR (by decide +kernel) rfl rfl
theorem sX5_setLastWork_17 {a1 : Value} {x : Nat} {st : List Value} {D : vDD} {mm : vMM} {z : vZZ} {Q : Value → vDD → vMM → vZZ → Prop} : Runs MX5_setLastWork 17 [.ref x, a1] st D mm z Q = Runs MX5_setLastWork 18 [.ref x, a1] (.ref x :: st) D mm z Q := R_aload_n (by decide +kernel) rfl
theorem sX5_setLastWork_18 {a0 a1 : Value} {st : List Value} {a : Nat} {D : vDD} {mm : vMM} {z : vZZ} {Q : Value → vDD → vMM → vZZ → Prop} : Runs MX5_setLastWork 18 [a0, a1] (.ref a :: st) D mm z Q = ((D a).1 = 5 ∧ Runs MX5_setLastWork 21 [a0, a1] (.int (mm a 3) :: st) D mm z Q) := R_getI (by decide +kernel) rfl rfl
theorem sX5_setLastWork_21 {a0 a1 : Value} {st : List Value} {D : vDD} {mm : vMM} {z : vZZ} {Q : Value → vDD → vMM → vZZ → Prop} : Runs MX5_setLastWork 21 [a0, a1] st D mm z Q = Runs MX5_setLastWork 22 [a0, a1] (.int 1 :: st) D mm z Q := R_iconst (by decide +kernel) (by decide +kernel)
theorem sX5_setLastWork_22 {a0 a1 : Value} {st : List Value} {x v : Int32} {D : vDD} {mm : vMM} {z : vZZ} {Q : Value → vDD → vMM → vZZ → Prop} : Runs MX5_setLastWork 22 [a0, a1] (.int v :: .int x :: st) D mm z Q = Runs MX5_setLastWork 23 [a0, a1] (.int (x - v) :: st) D mm z Q := R_isub (by decide +kernel)
theorem sX5_setLastWork_23 {a0 : Value} {x : Int32} {st : List Value} {D : vDD} {mm : vMM} {z : vZZ} {Q : Value → vDD → vMM → vZZ → Prop} : Runs MX5_setLastWork 23 [a0, .int x] st D mm z Q = Runs MX5_setLastWork 24 [a0, .int x] (.int x :: st) D mm z Q := R_iload_n (by decide +kernel) rfl
theorem sX5_setLastWork_24 {a0 a1 : Value} {st : List Value} {a : Nat} {i x : Int32} {D : vDD} {mm : vMM} {z : vZZ} {Q : Value → vDD → vMM → vZZ → Prop} : Runs MX5_setLastWork 24 [a0, a1] (.int x :: .int i :: .ref a :: st) D mm z Q = (((D a).1 = 8 ∧ inB i (D a).2.1 = true) ∧ Runs MX5_setLastWork 25 [a0, a1] st D (up2 mm a i.toNatClampNeg x) z Q) := R_iast (by decide +kernel)
theorem sX5_setLastWork_25 {a0 a1 : Value} {D : vDD} {mm : vMM} {z : vZZ} {Q : Value → vDD → vMM → vZZ → Prop} : Runs MX5_setLastWork 25 [a0, a1] [] D mm z Q = Q vJ D mm z := R_vret (by decide +kernel) rfl
-- X5_setLastPart
theorem sX5_setLastPart_0 {a1 : Value} {x : Nat} {st : List Value} {D : vDD} {mm : vMM} {z : vZZ} {Q : Value → vDD → vMM → vZZ → Prop} : Runs MX5_setLastPart 0 [.ref x, a1] st D mm z Q = Runs MX5_setLastPart 1 [.ref x, a1] (.ref x :: st) D mm z Q := R_aload_n (by decide +kernel) rfl
theorem sX5_setLastPart_1 {a1 : Value} {x : Nat} {st : List Value} {D : vDD} {mm : vMM} {z : vZZ} {Q : Value → vDD → vMM → vZZ → Prop} : Runs MX5_setLastPart 1 [.ref x, a1] st D mm z Q = Runs MX5_setLastPart 2 [.ref x, a1] (.ref x :: st) D mm z Q := R_aload_n (by decide +kernel) rfl
theorem sX5_setLastPart_2 {a0 a1 : Value} {st : List Value} {a : Nat} {D : vDD} {mm : vMM} {z : vZZ} {Q : Value → vDD → vMM → vZZ → Prop} : Runs MX5_setLastPart 2 [a0, a1] (.ref a :: st) D mm z Q = ((D a).1 = 5 ∧ Runs MX5_setLastPart 5 [a0, a1] (.int (mm a 3) :: st) D mm z Q) := R_getI (by decide +kernel) rfl rfl
theorem sX5_setLastPart_5 {a0 a1 : Value} {st : List Value} {D : vDD} {mm : vMM} {z : vZZ} {Q : Value → vDD → vMM → vZZ → Prop} : Runs MX5_setLastPart 5 [a0, a1] st D mm z Q = Runs MX5_setLastPart 6 [a0, a1] (.int 1 :: st) D mm z Q := R_iconst (by decide +kernel) (by decide +kernel)
theorem sX5_setLastPart_6 {a0 a1 : Value} {st : List Value} {x v : Int32} {D : vDD} {mm : vMM} {z : vZZ} {Q : Value → vDD → vMM → vZZ → Prop} : Runs MX5_setLastPart 6 [a0, a1] (.int v :: .int x :: st) D mm z Q = Runs MX5_setLastPart 7 [a0, a1] (.int (x - v) :: st) D mm z Q := R_isub (by decide +kernel)
theorem sX5_setLastPart_7 {a0 a1 : Value} {a : Nat} {x0 : Int32} {D : vDD} {mm : vMM} {z : vZZ} {Q : Value → vDD → vMM → vZZ → Prop} : Runs MX5_setLastPart 7 [a0, a1] [.int x0, .ref a] D mm z Q = ((D a).1 = 5 ∧ Runs MX5_hasStep 0 [.ref a, .int x0] [] D mm z (fun v D mm z => Runs MX5_setLastPart 10 [a0, a1] [v] D mm z Q)) := R_callV (i := .invokevirtual 43) (by decide +kernel) (Or.inl ⟨rfl, rfl⟩) rfl (by simp) rfl rfl rfl rfl (fun v => [v]) (fun _ => rfl)
theorem sX5_setLastPart_10 {a0 a1 : Value} {st : List Value} {x : Int32} {D : vDD} {mm : vMM} {z : vZZ} {Q : Value → vDD → vMM → vZZ → Prop} : Runs MX5_setLastPart 10 [a0, a1] (.int x :: st) D mm z Q = (if x = 0 then Runs MX5_setLastPart 25 [a0, a1] st D mm z Q else Runs MX5_setLastPart 13 [a0, a1] st D mm z Q) := R_ifeq (by decide +kernel) (by decide +kernel)
theorem sX5_setLastPart_13 {a1 : Value} {x : Nat} {st : List Value} {D : vDD} {mm : vMM} {z : vZZ} {Q : Value → vDD → vMM → vZZ → Prop} : Runs MX5_setLastPart 13 [.ref x, a1] st D mm z Q = Runs MX5_setLastPart 14 [.ref x, a1] (.ref x :: st) D mm z Q := R_aload_n (by decide +kernel) rfl
theorem sX5_setLastPart_14 {a0 a1 : Value} {st : List Value} {a : Nat} {D : vDD} {mm : vMM} {z : vZZ} {Q : Value → vDD → vMM → vZZ → Prop} : Runs MX5_setLastPart 14 [a0, a1] (.ref a :: st) D mm z Q = ((D a).1 = 5 ∧ match (D a).2.2 2 with
    | some r => Runs MX5_setLastPart 17 [a0, a1] (.ref r :: st) D mm z Q
    | none => False) := R_getR (by decide +kernel) rfl rfl
theorem sX5_setLastPart_17 {a1 : Value} {x : Nat} {st : List Value} {D : vDD} {mm : vMM} {z : vZZ} {Q : Value → vDD → vMM → vZZ → Prop} : Runs MX5_setLastPart 17 [.ref x, a1] st D mm z Q = Runs MX5_setLastPart 18 [.ref x, a1] (.ref x :: st) D mm z Q := R_aload_n (by decide +kernel) rfl
theorem sX5_setLastPart_18 {a0 a1 : Value} {st : List Value} {a : Nat} {D : vDD} {mm : vMM} {z : vZZ} {Q : Value → vDD → vMM → vZZ → Prop} : Runs MX5_setLastPart 18 [a0, a1] (.ref a :: st) D mm z Q = ((D a).1 = 5 ∧ Runs MX5_setLastPart 21 [a0, a1] (.int (mm a 3) :: st) D mm z Q) := R_getI (by decide +kernel) rfl rfl
theorem sX5_setLastPart_21 {a0 a1 : Value} {st : List Value} {D : vDD} {mm : vMM} {z : vZZ} {Q : Value → vDD → vMM → vZZ → Prop} : Runs MX5_setLastPart 21 [a0, a1] st D mm z Q = Runs MX5_setLastPart 22 [a0, a1] (.int 1 :: st) D mm z Q := R_iconst (by decide +kernel) (by decide +kernel)
theorem sX5_setLastPart_22 {a0 a1 : Value} {st : List Value} {x v : Int32} {D : vDD} {mm : vMM} {z : vZZ} {Q : Value → vDD → vMM → vZZ → Prop} : Runs MX5_setLastPart 22 [a0, a1] (.int v :: .int x :: st) D mm z Q = Runs MX5_setLastPart 23 [a0, a1] (.int (x - v) :: st) D mm z Q := R_isub (by decide +kernel)
theorem sX5_setLastPart_23 {a0 : Value} {x : Int32} {st : List Value} {D : vDD} {mm : vMM} {z : vZZ} {Q : Value → vDD → vMM → vZZ → Prop} : Runs MX5_setLastPart 23 [a0, .int x] st D mm z Q = Runs MX5_setLastPart 24 [a0, .int x] (.int x :: st) D mm z Q := R_iload_n (by decide +kernel) rfl
theorem sX5_setLastPart_24 {a0 a1 : Value} {st : List Value} {a : Nat} {i x : Int32} {D : vDD} {mm : vMM} {z : vZZ} {Q : Value → vDD → vMM → vZZ → Prop} : Runs MX5_setLastPart 24 [a0, a1] (.int x :: .int i :: .ref a :: st) D mm z Q = (((D a).1 = 8 ∧ inB i (D a).2.1 = true) ∧ Runs MX5_setLastPart 25 [a0, a1] st D (up2 mm a i.toNatClampNeg x) z Q) := R_iast (by decide +kernel)
theorem sX5_setLastPart_25 {a0 a1 : Value} {D : vDD} {mm : vMM} {z : vZZ} {Q : Value → vDD → vMM → vZZ → Prop} : Runs MX5_setLastPart 25 [a0, a1] [] D mm z Q = Q vJ D mm z := R_vret (by decide +kernel) rfl
-- X5_nextSkill
theorem sX5_nextSkill_0  {x : Nat} {st : List Value} {D : vDD} {mm : vMM} {z : vZZ} {Q : Value → vDD → vMM → vZZ → Prop} : Runs MX5_nextSkill 0 [.ref x] st D mm z Q = Runs MX5_nextSkill 1 [.ref x] (.ref x :: st) D mm z Q := R_aload_n (by decide +kernel) rfl
theorem sX5_nextSkill_1  {x : Nat} {st : List Value} {D : vDD} {mm : vMM} {z : vZZ} {Q : Value → vDD → vMM → vZZ → Prop} : Runs MX5_nextSkill 1 [.ref x] st D mm z Q = Runs MX5_nextSkill 2 [.ref x] (.ref x :: st) D mm z Q := R_aload_n (by decide +kernel) rfl
theorem sX5_nextSkill_2 {a0 : Value} {st : List Value} {a : Nat} {D : vDD} {mm : vMM} {z : vZZ} {Q : Value → vDD → vMM → vZZ → Prop} : Runs MX5_nextSkill 2 [a0] (.ref a :: st) D mm z Q = ((D a).1 = 5 ∧ Runs MX5_nextSkill 5 [a0] (.int (mm a 4) :: st) D mm z Q) := R_getI (by decide +kernel) rfl rfl
theorem sX5_nextSkill_5 {a0 : Value} {a : Nat} {x0 : Int32} {D : vDD} {mm : vMM} {z : vZZ} {Q : Value → vDD → vMM → vZZ → Prop} : Runs MX5_nextSkill 5 [a0] [.int x0, .ref a] D mm z Q = ((D a).1 = 5 ∧ Runs MX5_hasStep 0 [.ref a, .int x0] [] D mm z (fun v D mm z => Runs MX5_nextSkill 8 [a0] [v] D mm z Q)) := R_callV (i := .invokevirtual 43) (by decide +kernel) (Or.inl ⟨rfl, rfl⟩) rfl (by simp) rfl rfl rfl rfl (fun v => [v]) (fun _ => rfl)
theorem sX5_nextSkill_8 {a0 : Value} {st : List Value} {x : Int32} {D : vDD} {mm : vMM} {z : vZZ} {Q : Value → vDD → vMM → vZZ → Prop} : Runs MX5_nextSkill 8 [a0] (.int x :: st) D mm z Q = (if x = 0 then Runs MX5_nextSkill 23 [a0] st D mm z Q else Runs MX5_nextSkill 11 [a0] st D mm z Q) := R_ifeq (by decide +kernel) (by decide +kernel)
theorem sX5_nextSkill_11  {x : Nat} {st : List Value} {D : vDD} {mm : vMM} {z : vZZ} {Q : Value → vDD → vMM → vZZ → Prop} : Runs MX5_nextSkill 11 [.ref x] st D mm z Q = Runs MX5_nextSkill 12 [.ref x] (.ref x :: st) D mm z Q := R_aload_n (by decide +kernel) rfl
theorem sX5_nextSkill_12 {a0 : Value} {st : List Value} {a : Nat} {D : vDD} {mm : vMM} {z : vZZ} {Q : Value → vDD → vMM → vZZ → Prop} : Runs MX5_nextSkill 12 [a0] (.ref a :: st) D mm z Q = ((D a).1 = 5 ∧ match (D a).2.2 0 with
    | some r => Runs MX5_nextSkill 15 [a0] (.ref r :: st) D mm z Q
    | none => False) := R_getR (by decide +kernel) rfl rfl
theorem sX5_nextSkill_15  {x : Nat} {st : List Value} {D : vDD} {mm : vMM} {z : vZZ} {Q : Value → vDD → vMM → vZZ → Prop} : Runs MX5_nextSkill 15 [.ref x] st D mm z Q = Runs MX5_nextSkill 16 [.ref x] (.ref x :: st) D mm z Q := R_aload_n (by decide +kernel) rfl
theorem sX5_nextSkill_16 {a0 : Value} {st : List Value} {a : Nat} {D : vDD} {mm : vMM} {z : vZZ} {Q : Value → vDD → vMM → vZZ → Prop} : Runs MX5_nextSkill 16 [a0] (.ref a :: st) D mm z Q = ((D a).1 = 5 ∧ Runs MX5_nextSkill 19 [a0] (.int (mm a 4) :: st) D mm z Q) := R_getI (by decide +kernel) rfl rfl
theorem sX5_nextSkill_19 {a0 : Value} {st : List Value} {a : Nat} {i : Int32} {D : vDD} {mm : vMM} {z : vZZ} {Q : Value → vDD → vMM → vZZ → Prop} : Runs MX5_nextSkill 19 [a0] (.int i :: .ref a :: st) D mm z Q = ((((D a).1 = 8 ∨ (D a).1 = 20) ∧ inB i (D a).2.1 = true) ∧ Runs MX5_nextSkill 20 [a0] (.int (mm a i.toNatClampNeg) :: st) D mm z Q) := R_iald (by decide +kernel)
theorem sX5_nextSkill_20 {a0 : Value} {st : List Value} {D : vDD} {mm : vMM} {z : vZZ} {Q : Value → vDD → vMM → vZZ → Prop} : Runs MX5_nextSkill 20 [a0] st D mm z Q = Runs MX5_nextSkill 24 [a0] st D mm z Q := R_goto (by decide +kernel) (by decide +kernel)
theorem sX5_nextSkill_23 {a0 : Value} {st : List Value} {D : vDD} {mm : vMM} {z : vZZ} {Q : Value → vDD → vMM → vZZ → Prop} : Runs MX5_nextSkill 23 [a0] st D mm z Q = Runs MX5_nextSkill 24 [a0] (.int 5 :: st) D mm z Q := R_iconst (by decide +kernel) (by decide +kernel)
theorem sX5_nextSkill_24 {a0 : Value} {v : Int32} {D : vDD} {mm : vMM} {z : vZZ} {Q : Value → vDD → vMM → vZZ → Prop} : Runs MX5_nextSkill 24 [a0] [.int v] D mm z Q = Q (.int v) D mm z := R_iret (by decide +kernel) rfl
-- X5_nextWork
theorem sX5_nextWork_0 {a1 : Value} {x : Nat} {st : List Value} {D : vDD} {mm : vMM} {z : vZZ} {Q : Value → vDD → vMM → vZZ → Prop} : Runs MX5_nextWork 0 [.ref x, a1] st D mm z Q = Runs MX5_nextWork 1 [.ref x, a1] (.ref x :: st) D mm z Q := R_aload_n (by decide +kernel) rfl
theorem sX5_nextWork_1 {a1 : Value} {x : Nat} {st : List Value} {D : vDD} {mm : vMM} {z : vZZ} {Q : Value → vDD → vMM → vZZ → Prop} : Runs MX5_nextWork 1 [.ref x, a1] st D mm z Q = Runs MX5_nextWork 2 [.ref x, a1] (.ref x :: st) D mm z Q := R_aload_n (by decide +kernel) rfl
theorem sX5_nextWork_2 {a0 a1 : Value} {st : List Value} {a : Nat} {D : vDD} {mm : vMM} {z : vZZ} {Q : Value → vDD → vMM → vZZ → Prop} : Runs MX5_nextWork 2 [a0, a1] (.ref a :: st) D mm z Q = ((D a).1 = 5 ∧ Runs MX5_nextWork 5 [a0, a1] (.int (mm a 4) :: st) D mm z Q) := R_getI (by decide +kernel) rfl rfl
theorem sX5_nextWork_5 {a0 a1 : Value} {a : Nat} {x0 : Int32} {D : vDD} {mm : vMM} {z : vZZ} {Q : Value → vDD → vMM → vZZ → Prop} : Runs MX5_nextWork 5 [a0, a1] [.int x0, .ref a] D mm z Q = ((D a).1 = 5 ∧ Runs MX5_hasStep 0 [.ref a, .int x0] [] D mm z (fun v D mm z => Runs MX5_nextWork 8 [a0, a1] [v] D mm z Q)) := R_callV (i := .invokevirtual 43) (by decide +kernel) (Or.inl ⟨rfl, rfl⟩) rfl (by simp) rfl rfl rfl rfl (fun v => [v]) (fun _ => rfl)
theorem sX5_nextWork_8 {a0 a1 : Value} {st : List Value} {x : Int32} {D : vDD} {mm : vMM} {z : vZZ} {Q : Value → vDD → vMM → vZZ → Prop} : Runs MX5_nextWork 8 [a0, a1] (.int x :: st) D mm z Q = (if x = 0 then Runs MX5_nextWork 23 [a0, a1] st D mm z Q else Runs MX5_nextWork 11 [a0, a1] st D mm z Q) := R_ifeq (by decide +kernel) (by decide +kernel)
theorem sX5_nextWork_11 {a1 : Value} {x : Nat} {st : List Value} {D : vDD} {mm : vMM} {z : vZZ} {Q : Value → vDD → vMM → vZZ → Prop} : Runs MX5_nextWork 11 [.ref x, a1] st D mm z Q = Runs MX5_nextWork 12 [.ref x, a1] (.ref x :: st) D mm z Q := R_aload_n (by decide +kernel) rfl
theorem sX5_nextWork_12 {a0 a1 : Value} {st : List Value} {a : Nat} {D : vDD} {mm : vMM} {z : vZZ} {Q : Value → vDD → vMM → vZZ → Prop} : Runs MX5_nextWork 12 [a0, a1] (.ref a :: st) D mm z Q = ((D a).1 = 5 ∧ match (D a).2.2 1 with
    | some r => Runs MX5_nextWork 15 [a0, a1] (.ref r :: st) D mm z Q
    | none => False) := R_getR (by decide +kernel) rfl rfl
theorem sX5_nextWork_15 {a1 : Value} {x : Nat} {st : List Value} {D : vDD} {mm : vMM} {z : vZZ} {Q : Value → vDD → vMM → vZZ → Prop} : Runs MX5_nextWork 15 [.ref x, a1] st D mm z Q = Runs MX5_nextWork 16 [.ref x, a1] (.ref x :: st) D mm z Q := R_aload_n (by decide +kernel) rfl
theorem sX5_nextWork_16 {a0 a1 : Value} {st : List Value} {a : Nat} {D : vDD} {mm : vMM} {z : vZZ} {Q : Value → vDD → vMM → vZZ → Prop} : Runs MX5_nextWork 16 [a0, a1] (.ref a :: st) D mm z Q = ((D a).1 = 5 ∧ Runs MX5_nextWork 19 [a0, a1] (.int (mm a 4) :: st) D mm z Q) := R_getI (by decide +kernel) rfl rfl
theorem sX5_nextWork_19 {a0 a1 : Value} {st : List Value} {a : Nat} {i : Int32} {D : vDD} {mm : vMM} {z : vZZ} {Q : Value → vDD → vMM → vZZ → Prop} : Runs MX5_nextWork 19 [a0, a1] (.int i :: .ref a :: st) D mm z Q = ((((D a).1 = 8 ∨ (D a).1 = 20) ∧ inB i (D a).2.1 = true) ∧ Runs MX5_nextWork 20 [a0, a1] (.int (mm a i.toNatClampNeg) :: st) D mm z Q) := R_iald (by decide +kernel)
theorem sX5_nextWork_20 {a0 a1 : Value} {st : List Value} {D : vDD} {mm : vMM} {z : vZZ} {Q : Value → vDD → vMM → vZZ → Prop} : Runs MX5_nextWork 20 [a0, a1] st D mm z Q = Runs MX5_nextWork 24 [a0, a1] st D mm z Q := R_goto (by decide +kernel) (by decide +kernel)
theorem sX5_nextWork_23 {a0 : Value} {x : Int32} {st : List Value} {D : vDD} {mm : vMM} {z : vZZ} {Q : Value → vDD → vMM → vZZ → Prop} : Runs MX5_nextWork 23 [a0, .int x] st D mm z Q = Runs MX5_nextWork 24 [a0, .int x] (.int x :: st) D mm z Q := R_iload_n (by decide +kernel) rfl
theorem sX5_nextWork_24 {a0 a1 : Value} {v : Int32} {D : vDD} {mm : vMM} {z : vZZ} {Q : Value → vDD → vMM → vZZ → Prop} : Runs MX5_nextWork 24 [a0, a1] [.int v] D mm z Q = Q (.int v) D mm z := R_iret (by decide +kernel) rfl
-- X5_nextPart
theorem sX5_nextPart_0  {x : Nat} {st : List Value} {D : vDD} {mm : vMM} {z : vZZ} {Q : Value → vDD → vMM → vZZ → Prop} : Runs MX5_nextPart 0 [.ref x] st D mm z Q = Runs MX5_nextPart 1 [.ref x] (.ref x :: st) D mm z Q := R_aload_n (by decide +kernel) rfl
theorem sX5_nextPart_1  {x : Nat} {st : List Value} {D : vDD} {mm : vMM} {z : vZZ} {Q : Value → vDD → vMM → vZZ → Prop} : Runs MX5_nextPart 1 [.ref x] st D mm z Q = Runs MX5_nextPart 2 [.ref x] (.ref x :: st) D mm z Q := R_aload_n (by decide +kernel) rfl
theorem sX5_nextPart_2 {a0 : Value} {st : List Value} {a : Nat} {D : vDD} {mm : vMM} {z : vZZ} {Q : Value → vDD → vMM → vZZ → Prop} : Runs MX5_nextPart 2 [a0] (.ref a :: st) D mm z Q = ((D a).1 = 5 ∧ Runs MX5_nextPart 5 [a0] (.int (mm a 4) :: st) D mm z Q) := R_getI (by decide +kernel) rfl rfl
theorem sX5_nextPart_5 {a0 : Value} {a : Nat} {x0 : Int32} {D : vDD} {mm : vMM} {z : vZZ} {Q : Value → vDD → vMM → vZZ → Prop} : Runs MX5_nextPart 5 [a0] [.int x0, .ref a] D mm z Q = ((D a).1 = 5 ∧ Runs MX5_hasStep 0 [.ref a, .int x0] [] D mm z (fun v D mm z => Runs MX5_nextPart 8 [a0] [v] D mm z Q)) := R_callV (i := .invokevirtual 43) (by decide +kernel) (Or.inl ⟨rfl, rfl⟩) rfl (by simp) rfl rfl rfl rfl (fun v => [v]) (fun _ => rfl)
theorem sX5_nextPart_8 {a0 : Value} {st : List Value} {x : Int32} {D : vDD} {mm : vMM} {z : vZZ} {Q : Value → vDD → vMM → vZZ → Prop} : Runs MX5_nextPart 8 [a0] (.int x :: st) D mm z Q = (if x = 0 then Runs MX5_nextPart 23 [a0] st D mm z Q else Runs MX5_nextPart 11 [a0] st D mm z Q) := R_ifeq (by decide +kernel) (by decide +kernel)
theorem sX5_nextPart_11  {x : Nat} {st : List Value} {D : vDD} {mm : vMM} {z : vZZ} {Q : Value → vDD → vMM → vZZ → Prop} : Runs MX5_nextPart 11 [.ref x] st D mm z Q = Runs MX5_nextPart 12 [.ref x] (.ref x :: st) D mm z Q := R_aload_n (by decide +kernel) rfl
theorem sX5_nextPart_12 {a0 : Value} {st : List Value} {a : Nat} {D : vDD} {mm : vMM} {z : vZZ} {Q : Value → vDD → vMM → vZZ → Prop} : Runs MX5_nextPart 12 [a0] (.ref a :: st) D mm z Q = ((D a).1 = 5 ∧ match (D a).2.2 2 with
    | some r => Runs MX5_nextPart 15 [a0] (.ref r :: st) D mm z Q
    | none => False) := R_getR (by decide +kernel) rfl rfl
theorem sX5_nextPart_15  {x : Nat} {st : List Value} {D : vDD} {mm : vMM} {z : vZZ} {Q : Value → vDD → vMM → vZZ → Prop} : Runs MX5_nextPart 15 [.ref x] st D mm z Q = Runs MX5_nextPart 16 [.ref x] (.ref x :: st) D mm z Q := R_aload_n (by decide +kernel) rfl
theorem sX5_nextPart_16 {a0 : Value} {st : List Value} {a : Nat} {D : vDD} {mm : vMM} {z : vZZ} {Q : Value → vDD → vMM → vZZ → Prop} : Runs MX5_nextPart 16 [a0] (.ref a :: st) D mm z Q = ((D a).1 = 5 ∧ Runs MX5_nextPart 19 [a0] (.int (mm a 4) :: st) D mm z Q) := R_getI (by decide +kernel) rfl rfl
theorem sX5_nextPart_19 {a0 : Value} {st : List Value} {a : Nat} {i : Int32} {D : vDD} {mm : vMM} {z : vZZ} {Q : Value → vDD → vMM → vZZ → Prop} : Runs MX5_nextPart 19 [a0] (.int i :: .ref a :: st) D mm z Q = ((((D a).1 = 8 ∨ (D a).1 = 20) ∧ inB i (D a).2.1 = true) ∧ Runs MX5_nextPart 20 [a0] (.int (mm a i.toNatClampNeg) :: st) D mm z Q) := R_iald (by decide +kernel)
theorem sX5_nextPart_20 {a0 : Value} {st : List Value} {D : vDD} {mm : vMM} {z : vZZ} {Q : Value → vDD → vMM → vZZ → Prop} : Runs MX5_nextPart 20 [a0] st D mm z Q = Runs MX5_nextPart 25 [a0] st D mm z Q := R_goto (by decide +kernel) (by decide +kernel)
theorem sX5_nextPart_23 {a0 : Value} {st : List Value} {D : vDD} {mm : vMM} {z : vZZ} {Q : Value → vDD → vMM → vZZ → Prop} : Runs MX5_nextPart 23 [a0] st D mm z Q = Runs MX5_nextPart 25 [a0] (.int (-6) :: st) D mm z Q := R_bipush (by decide +kernel) (by decide +kernel)
theorem sX5_nextPart_25 {a0 : Value} {v : Int32} {D : vDD} {mm : vMM} {z : vZZ} {Q : Value → vDD → vMM → vZZ → Prop} : Runs MX5_nextPart 25 [a0] [.int v] D mm z Q = Q (.int v) D mm z := R_iret (by decide +kernel) rfl
-- X5_endStep
theorem sX5_endStep_0  {x : Nat} {st : List Value} {D : vDD} {mm : vMM} {z : vZZ} {Q : Value → vDD → vMM → vZZ → Prop} : Runs MX5_endStep 0 [.ref x] st D mm z Q = Runs MX5_endStep 1 [.ref x] (.ref x :: st) D mm z Q := R_aload_n (by decide +kernel) rfl
theorem sX5_endStep_1  {x : Nat} {st : List Value} {D : vDD} {mm : vMM} {z : vZZ} {Q : Value → vDD → vMM → vZZ → Prop} : Runs MX5_endStep 1 [.ref x] st D mm z Q = Runs MX5_endStep 2 [.ref x] (.ref x :: st) D mm z Q := R_aload_n (by decide +kernel) rfl
theorem sX5_endStep_2 {a0 : Value} {st : List Value} {a : Nat} {D : vDD} {mm : vMM} {z : vZZ} {Q : Value → vDD → vMM → vZZ → Prop} : Runs MX5_endStep 2 [a0] (.ref a :: st) D mm z Q = ((D a).1 = 5 ∧ Runs MX5_endStep 5 [a0] (.int (mm a 4) :: st) D mm z Q) := R_getI (by decide +kernel) rfl rfl
theorem sX5_endStep_5 {a0 : Value} {a : Nat} {x0 : Int32} {D : vDD} {mm : vMM} {z : vZZ} {Q : Value → vDD → vMM → vZZ → Prop} : Runs MX5_endStep 5 [a0] [.int x0, .ref a] D mm z Q = ((D a).1 = 5 ∧ Runs MX5_hasStep 0 [.ref a, .int x0] [] D mm z (fun v D mm z => Runs MX5_endStep 8 [a0] [v] D mm z Q)) := R_callV (i := .invokevirtual 43) (by decide +kernel) (Or.inl ⟨rfl, rfl⟩) rfl (by simp) rfl rfl rfl rfl (fun v => [v]) (fun _ => rfl)
theorem sX5_endStep_8 {a0 : Value} {st : List Value} {x : Int32} {D : vDD} {mm : vMM} {z : vZZ} {Q : Value → vDD → vMM → vZZ → Prop} : Runs MX5_endStep 8 [a0] (.int x :: st) D mm z Q = (if x = 0 then Runs MX5_endStep 27 [a0] st D mm z Q else Runs MX5_endStep 11 [a0] st D mm z Q) := R_ifeq (by decide +kernel) (by decide +kernel)
theorem sX5_endStep_11  {x : Nat} {st : List Value} {D : vDD} {mm : vMM} {z : vZZ} {Q : Value → vDD → vMM → vZZ → Prop} : Runs MX5_endStep 11 [.ref x] st D mm z Q = Runs MX5_endStep 12 [.ref x] (.ref x :: st) D mm z Q := R_aload_n (by decide +kernel) rfl
theorem sX5_endStep_12 {a0 : Value} {st : List Value} {x : Nat} {D : vDD} {mm : vMM} {z : vZZ} {Q : Value → vDD → vMM → vZZ → Prop} : Runs MX5_endStep 12 [a0] (.ref x :: st) D mm z Q = Runs MX5_endStep 13 [a0] (.ref x :: .ref x :: st) D mm z Q := R_dupR (by decide +kernel)
theorem sX5_endStep_13 {a0 : Value} {st : List Value} {a : Nat} {D : vDD} {mm : vMM} {z : vZZ} {Q : Value → vDD → vMM → vZZ → Prop} : Runs MX5_endStep 13 [a0] (.ref a :: st) D mm z Q = ((D a).1 = 5 ∧ Runs MX5_endStep 16 [a0] (.int (mm a 4) :: st) D mm z Q) := R_getI (by decide +kernel) rfl rfl
theorem sX5_endStep_16 {a0 : Value} {st : List Value} {D : vDD} {mm : vMM} {z : vZZ} {Q : Value → vDD → vMM → vZZ → Prop} : Runs MX5_endStep 16 [a0] st D mm z Q = Runs MX5_endStep 17 [a0] (.int 1 :: st) D mm z Q := R_iconst (by decide +kernel) (by decide +kernel)
theorem sX5_endStep_17 {a0 : Value} {st : List Value} {x v : Int32} {D : vDD} {mm : vMM} {z : vZZ} {Q : Value → vDD → vMM → vZZ → Prop} : Runs MX5_endStep 17 [a0] (.int v :: .int x :: st) D mm z Q = Runs MX5_endStep 18 [a0] (.int (x + v) :: st) D mm z Q := R_iadd (by decide +kernel)
theorem sX5_endStep_18 {a0 : Value} {st : List Value} {a : Nat} {x : Int32} {D : vDD} {mm : vMM} {z : vZZ} {Q : Value → vDD → vMM → vZZ → Prop} : Runs MX5_endStep 18 [a0] (.int x :: .ref a :: st) D mm z Q = ((D a).1 = 5 ∧ Runs MX5_endStep 21 [a0] st D (up2 mm a 4 x) z Q) := R_putI (by decide +kernel) rfl rfl rfl (by decide +kernel)
theorem sX5_endStep_21  {x : Nat} {st : List Value} {D : vDD} {mm : vMM} {z : vZZ} {Q : Value → vDD → vMM → vZZ → Prop} : Runs MX5_endStep 21 [.ref x] st D mm z Q = Runs MX5_endStep 22 [.ref x] (.ref x :: st) D mm z Q := R_aload_n (by decide +kernel) rfl
theorem sX5_endStep_22 {a0 : Value} {a : Nat} {D : vDD} {mm : vMM} {z : vZZ} {Q : Value → vDD → vMM → vZZ → Prop} : Runs MX5_endStep 22 [a0] [.ref a] D mm z Q = ((D a).1 = 5 ∧ Runs MX5_becomeWaiting 0 [.ref a] [] D mm z (fun v D mm z => Runs MX5_endStep 25 [a0] [] D mm z Q)) := R_callV (i := .invokevirtual 34) (by decide +kernel) (Or.inl ⟨rfl, rfl⟩) rfl (by simp) rfl rfl rfl rfl (fun v => []) (fun _ => rfl)
theorem sX5_endStep_25 {a0 : Value} {st : List Value} {D : vDD} {mm : vMM} {z : vZZ} {Q : Value → vDD → vMM → vZZ → Prop} : Runs MX5_endStep 25 [a0] st D mm z Q = Runs MX5_endStep 26 [a0] (.int 0 :: st) D mm z Q := R_iconst (by decide +kernel) (by decide +kernel)
theorem sX5_endStep_26 {a0 : Value} {v : Int32} {D : vDD} {mm : vMM} {z : vZZ} {Q : Value → vDD → vMM → vZZ → Prop} : Runs MX5_endStep 26 [a0] [.int v] D mm z Q = (narrow .boolean (.int v) = .int v ∧ Q (.int v) D mm z) := R_zret (by decide +kernel) rfl
theorem sX5_endStep_27  {x : Nat} {st : List Value} {D : vDD} {mm : vMM} {z : vZZ} {Q : Value → vDD → vMM → vZZ → Prop} : Runs MX5_endStep 27 [.ref x] st D mm z Q = Runs MX5_endStep 28 [.ref x] (.ref x :: st) D mm z Q := R_aload_n (by decide +kernel) rfl
theorem sX5_endStep_28 {a0 : Value} {st : List Value} {a : Nat} {D : vDD} {mm : vMM} {z : vZZ} {Q : Value → vDD → vMM → vZZ → Prop} : Runs MX5_endStep 28 [a0] (.ref a :: st) D mm z Q = ((D a).1 = 5 ∧ Runs MX5_endStep 31 [a0] (.int (mm a 7) :: st) D mm z Q) := R_getI (by decide +kernel) rfl rfl
theorem sX5_endStep_31  {x : Nat} {st : List Value} {D : vDD} {mm : vMM} {z : vZZ} {Q : Value → vDD → vMM → vZZ → Prop} : Runs MX5_endStep 31 [.ref x] st D mm z Q = Runs MX5_endStep 32 [.ref x] (.ref x :: st) D mm z Q := R_aload_n (by decide +kernel) rfl
theorem sX5_endStep_32 {a0 : Value} {st : List Value} {a : Nat} {D : vDD} {mm : vMM} {z : vZZ} {Q : Value → vDD → vMM → vZZ → Prop} : Runs MX5_endStep 32 [a0] (.ref a :: st) D mm z Q = ((D a).1 = 5 ∧ Runs MX5_endStep 35 [a0] (.int (mm a 8) :: st) D mm z Q) := R_getI (by decide +kernel) rfl rfl
theorem sX5_endStep_35 {a0 : Value} {st : List Value} {x v : Int32} {D : vDD} {mm : vMM} {z : vZZ} {Q : Value → vDD → vMM → vZZ → Prop} : Runs MX5_endStep 35 [a0] (.int v :: .int x :: st) D mm z Q = (if v ≤ x then Runs MX5_endStep 64 [a0] st D mm z Q else Runs MX5_endStep 38 [a0] st D mm z Q) := R_icge (by decide +kernel) (by decide +kernel)
theorem sX5_endStep_38  {x : Nat} {st : List Value} {D : vDD} {mm : vMM} {z : vZZ} {Q : Value → vDD → vMM → vZZ → Prop} : Runs MX5_endStep 38 [.ref x] st D mm z Q = Runs MX5_endStep 39 [.ref x] (.ref x :: st) D mm z Q := R_aload_n (by decide +kernel) rfl
theorem sX5_endStep_39 {a0 : Value} {st : List Value} {x : Nat} {D : vDD} {mm : vMM} {z : vZZ} {Q : Value → vDD → vMM → vZZ → Prop} : Runs MX5_endStep 39 [a0] (.ref x :: st) D mm z Q = Runs MX5_endStep 40 [a0] (.ref x :: .ref x :: st) D mm z Q := R_dupR (by decide +kernel)
theorem sX5_endStep_40 {a0 : Value} {st : List Value} {a : Nat} {D : vDD} {mm : vMM} {z : vZZ} {Q : Value → vDD → vMM → vZZ → Prop} : Runs MX5_endStep 40 [a0] (.ref a :: st) D mm z Q = ((D a).1 = 5 ∧ Runs MX5_endStep 43 [a0] (.int (mm a 7) :: st) D mm z Q) := R_getI (by decide +kernel) rfl rfl
theorem sX5_endStep_43 {a0 : Value} {st : List Value} {D : vDD} {mm : vMM} {z : vZZ} {Q : Value → vDD → vMM → vZZ → Prop} : Runs MX5_endStep 43 [a0] st D mm z Q = Runs MX5_endStep 44 [a0] (.int 1 :: st) D mm z Q := R_iconst (by decide +kernel) (by decide +kernel)
theorem sX5_endStep_44 {a0 : Value} {st : List Value} {x v : Int32} {D : vDD} {mm : vMM} {z : vZZ} {Q : Value → vDD → vMM → vZZ → Prop} : Runs MX5_endStep 44 [a0] (.int v :: .int x :: st) D mm z Q = Runs MX5_endStep 45 [a0] (.int (x + v) :: st) D mm z Q := R_iadd (by decide +kernel)
theorem sX5_endStep_45 {a0 : Value} {st : List Value} {a : Nat} {x : Int32} {D : vDD} {mm : vMM} {z : vZZ} {Q : Value → vDD → vMM → vZZ → Prop} : Runs MX5_endStep 45 [a0] (.int x :: .ref a :: st) D mm z Q = ((D a).1 = 5 ∧ Runs MX5_endStep 48 [a0] st D (up2 mm a 7 x) z Q) := R_putI (by decide +kernel) rfl rfl rfl (by decide +kernel)
theorem sX5_endStep_48  {x : Nat} {st : List Value} {D : vDD} {mm : vMM} {z : vZZ} {Q : Value → vDD → vMM → vZZ → Prop} : Runs MX5_endStep 48 [.ref x] st D mm z Q = Runs MX5_endStep 49 [.ref x] (.ref x :: st) D mm z Q := R_aload_n (by decide +kernel) rfl
theorem sX5_endStep_49  {x : Nat} {st : List Value} {D : vDD} {mm : vMM} {z : vZZ} {Q : Value → vDD → vMM → vZZ → Prop} : Runs MX5_endStep 49 [.ref x] st D mm z Q = Runs MX5_endStep 50 [.ref x] (.ref x :: st) D mm z Q := R_aload_n (by decide +kernel) rfl
theorem sX5_endStep_50 {a0 : Value} {st : List Value} {a : Nat} {D : vDD} {mm : vMM} {z : vZZ} {Q : Value → vDD → vMM → vZZ → Prop} : Runs MX5_endStep 50 [a0] (.ref a :: st) D mm z Q = ((D a).1 = 5 ∧ Runs MX5_endStep 53 [a0] (.int (mm a 3) :: st) D mm z Q) := R_getI (by decide +kernel) rfl rfl
theorem sX5_endStep_53 {a0 : Value} {st : List Value} {D : vDD} {mm : vMM} {z : vZZ} {Q : Value → vDD → vMM → vZZ → Prop} : Runs MX5_endStep 53 [a0] st D mm z Q = Runs MX5_endStep 54 [a0] (.int 1 :: st) D mm z Q := R_iconst (by decide +kernel) (by decide +kernel)
theorem sX5_endStep_54 {a0 : Value} {st : List Value} {x v : Int32} {D : vDD} {mm : vMM} {z : vZZ} {Q : Value → vDD → vMM → vZZ → Prop} : Runs MX5_endStep 54 [a0] (.int v :: .int x :: st) D mm z Q = Runs MX5_endStep 55 [a0] (.int (x - v) :: st) D mm z Q := R_isub (by decide +kernel)
theorem sX5_endStep_55 {a0 : Value} {st : List Value} {a : Nat} {x : Int32} {D : vDD} {mm : vMM} {z : vZZ} {Q : Value → vDD → vMM → vZZ → Prop} : Runs MX5_endStep 55 [a0] (.int x :: .ref a :: st) D mm z Q = ((D a).1 = 5 ∧ Runs MX5_endStep 58 [a0] st D (up2 mm a 4 x) z Q) := R_putI (by decide +kernel) rfl rfl rfl (by decide +kernel)
theorem sX5_endStep_58  {x : Nat} {st : List Value} {D : vDD} {mm : vMM} {z : vZZ} {Q : Value → vDD → vMM → vZZ → Prop} : Runs MX5_endStep 58 [.ref x] st D mm z Q = Runs MX5_endStep 59 [.ref x] (.ref x :: st) D mm z Q := R_aload_n (by decide +kernel) rfl
theorem sX5_endStep_59 {a0 : Value} {a : Nat} {D : vDD} {mm : vMM} {z : vZZ} {Q : Value → vDD → vMM → vZZ → Prop} : Runs MX5_endStep 59 [a0] [.ref a] D mm z Q = ((D a).1 = 5 ∧ Runs MX5_becomeWaiting 0 [.ref a] [] D mm z (fun v D mm z => Runs MX5_endStep 62 [a0] [] D mm z Q)) := R_callV (i := .invokevirtual 34) (by decide +kernel) (Or.inl ⟨rfl, rfl⟩) rfl (by simp) rfl rfl rfl rfl (fun v => []) (fun _ => rfl)
theorem sX5_endStep_62 {a0 : Value} {st : List Value} {D : vDD} {mm : vMM} {z : vZZ} {Q : Value → vDD → vMM → vZZ → Prop} : Runs MX5_endStep 62 [a0] st D mm z Q = Runs MX5_endStep 63 [a0] (.int 1 :: st) D mm z Q := R_iconst (by decide +kernel) (by decide +kernel)
theorem sX5_endStep_63 {a0 : Value} {v : Int32} {D : vDD} {mm : vMM} {z : vZZ} {Q : Value → vDD → vMM → vZZ → Prop} : Runs MX5_endStep 63 [a0] [.int v] D mm z Q = (narrow .boolean (.int v) = .int v ∧ Q (.int v) D mm z) := R_zret (by decide +kernel) rfl
theorem sX5_endStep_64  {x : Nat} {st : List Value} {D : vDD} {mm : vMM} {z : vZZ} {Q : Value → vDD → vMM → vZZ → Prop} : Runs MX5_endStep 64 [.ref x] st D mm z Q = Runs MX5_endStep 65 [.ref x] (.ref x :: st) D mm z Q := R_aload_n (by decide +kernel) rfl
theorem sX5_endStep_65 {a0 : Value} {st : List Value} {D : vDD} {mm : vMM} {z : vZZ} {Q : Value → vDD → vMM → vZZ → Prop} : Runs MX5_endStep 65 [a0] st D mm z Q = Runs MX5_endStep 66 [a0] (.int 2 :: st) D mm z Q := R_iconst (by decide +kernel) (by decide +kernel)
theorem sX5_endStep_66 {a0 : Value} {a : Nat} {x0 : Int32} {D : vDD} {mm : vMM} {z : vZZ} {Q : Value → vDD → vMM → vZZ → Prop} : Runs MX5_endStep 66 [a0] [.int x0, .ref a] D mm z Q = ((D a).1 = 5 ∧ Runs MX5_leaveQueue 0 [.ref a, .int x0] [] D mm z (fun v D mm z => Runs MX5_endStep 69 [a0] [] D mm z Q)) := R_callV (i := .invokevirtual 47) (by decide +kernel) (Or.inl ⟨rfl, rfl⟩) rfl (by simp) rfl rfl rfl rfl (fun v => []) (fun _ => rfl)
theorem sX5_endStep_69 {a0 : Value} {st : List Value} {D : vDD} {mm : vMM} {z : vZZ} {Q : Value → vDD → vMM → vZZ → Prop} : Runs MX5_endStep 69 [a0] st D mm z Q = Runs MX5_endStep 70 [a0] (.int 0 :: st) D mm z Q := R_iconst (by decide +kernel) (by decide +kernel)
theorem sX5_endStep_70 {a0 : Value} {v : Int32} {D : vDD} {mm : vMM} {z : vZZ} {Q : Value → vDD → vMM → vZZ → Prop} : Runs MX5_endStep 70 [a0] [.int v] D mm z Q = (narrow .boolean (.int v) = .int v ∧ Q (.int v) D mm z) := R_zret (by decide +kernel) rfl
-- X5_copyFrom
theorem sX5_copyFrom_0 {a0 a1 a2 : Value} {st : List Value} {D : vDD} {mm : vMM} {z : vZZ} {Q : Value → vDD → vMM → vZZ → Prop} : Runs MX5_copyFrom 0 [a0, a1, a2] st D mm z Q = Runs MX5_copyFrom 1 [a0, a1, a2] (.int 0 :: st) D mm z Q := R_iconst (by decide +kernel) (by decide +kernel)
theorem sX5_copyFrom_1 {a0 a1 a2 : Value} {st : List Value} {x : Int32} {D : vDD} {mm : vMM} {z : vZZ} {Q : Value → vDD → vMM → vZZ → Prop} : Runs MX5_copyFrom 1 [a0, a1, a2] (.int x :: st) D mm z Q = Runs MX5_copyFrom 2 [a0, a1, .int x] st D mm z Q := R_istore_n (by decide +kernel) rfl rfl
theorem sX5_copyFrom_2 {a0 a1 : Value} {x : Int32} {st : List Value} {D : vDD} {mm : vMM} {z : vZZ} {Q : Value → vDD → vMM → vZZ → Prop} : Runs MX5_copyFrom 2 [a0, a1, .int x] st D mm z Q = Runs MX5_copyFrom 3 [a0, a1, .int x] (.int x :: st) D mm z Q := R_iload_n (by decide +kernel) rfl
theorem sX5_copyFrom_3 {a0 a1 a2 : Value} {st : List Value} {D : vDD} {mm : vMM} {z : vZZ} {Q : Value → vDD → vMM → vZZ → Prop} : Runs MX5_copyFrom 3 [a0, a1, a2] st D mm z Q = Runs MX5_copyFrom 4 [a0, a1, a2] (.int 4 :: st) D mm z Q := R_iconst (by decide +kernel) (by decide +kernel)
theorem sX5_copyFrom_4 {a0 a1 a2 : Value} {st : List Value} {x v : Int32} {D : vDD} {mm : vMM} {z : vZZ} {Q : Value → vDD → vMM → vZZ → Prop} : Runs MX5_copyFrom 4 [a0, a1, a2] (.int v :: .int x :: st) D mm z Q = (if v ≤ x then Runs MX5_copyFrom 49 [a0, a1, a2] st D mm z Q else Runs MX5_copyFrom 7 [a0, a1, a2] st D mm z Q) := R_icge (by decide +kernel) (by decide +kernel)
theorem sX5_copyFrom_7 {a1 a2 : Value} {x : Nat} {st : List Value} {D : vDD} {mm : vMM} {z : vZZ} {Q : Value → vDD → vMM → vZZ → Prop} : Runs MX5_copyFrom 7 [.ref x, a1, a2] st D mm z Q = Runs MX5_copyFrom 8 [.ref x, a1, a2] (.ref x :: st) D mm z Q := R_aload_n (by decide +kernel) rfl
theorem sX5_copyFrom_8 {a0 a1 a2 : Value} {st : List Value} {a : Nat} {D : vDD} {mm : vMM} {z : vZZ} {Q : Value → vDD → vMM → vZZ → Prop} : Runs MX5_copyFrom 8 [a0, a1, a2] (.ref a :: st) D mm z Q = ((D a).1 = 5 ∧ match (D a).2.2 0 with
    | some r => Runs MX5_copyFrom 11 [a0, a1, a2] (.ref r :: st) D mm z Q
    | none => False) := R_getR (by decide +kernel) rfl rfl
theorem sX5_copyFrom_11 {a0 a1 : Value} {x : Int32} {st : List Value} {D : vDD} {mm : vMM} {z : vZZ} {Q : Value → vDD → vMM → vZZ → Prop} : Runs MX5_copyFrom 11 [a0, a1, .int x] st D mm z Q = Runs MX5_copyFrom 12 [a0, a1, .int x] (.int x :: st) D mm z Q := R_iload_n (by decide +kernel) rfl
theorem sX5_copyFrom_12 {a0 a2 : Value} {x : Nat} {st : List Value} {D : vDD} {mm : vMM} {z : vZZ} {Q : Value → vDD → vMM → vZZ → Prop} : Runs MX5_copyFrom 12 [a0, .ref x, a2] st D mm z Q = Runs MX5_copyFrom 13 [a0, .ref x, a2] (.ref x :: st) D mm z Q := R_aload_n (by decide +kernel) rfl
theorem sX5_copyFrom_13 {a0 a1 a2 : Value} {st : List Value} {a : Nat} {D : vDD} {mm : vMM} {z : vZZ} {Q : Value → vDD → vMM → vZZ → Prop} : Runs MX5_copyFrom 13 [a0, a1, a2] (.ref a :: st) D mm z Q = ((D a).1 = 5 ∧ match (D a).2.2 0 with
    | some r => Runs MX5_copyFrom 16 [a0, a1, a2] (.ref r :: st) D mm z Q
    | none => False) := R_getR (by decide +kernel) rfl rfl
theorem sX5_copyFrom_16 {a0 a1 : Value} {x : Int32} {st : List Value} {D : vDD} {mm : vMM} {z : vZZ} {Q : Value → vDD → vMM → vZZ → Prop} : Runs MX5_copyFrom 16 [a0, a1, .int x] st D mm z Q = Runs MX5_copyFrom 17 [a0, a1, .int x] (.int x :: st) D mm z Q := R_iload_n (by decide +kernel) rfl
theorem sX5_copyFrom_17 {a0 a1 a2 : Value} {st : List Value} {a : Nat} {i : Int32} {D : vDD} {mm : vMM} {z : vZZ} {Q : Value → vDD → vMM → vZZ → Prop} : Runs MX5_copyFrom 17 [a0, a1, a2] (.int i :: .ref a :: st) D mm z Q = ((((D a).1 = 8 ∨ (D a).1 = 20) ∧ inB i (D a).2.1 = true) ∧ Runs MX5_copyFrom 18 [a0, a1, a2] (.int (mm a i.toNatClampNeg) :: st) D mm z Q) := R_iald (by decide +kernel)
theorem sX5_copyFrom_18 {a0 a1 a2 : Value} {st : List Value} {a : Nat} {i x : Int32} {D : vDD} {mm : vMM} {z : vZZ} {Q : Value → vDD → vMM → vZZ → Prop} : Runs MX5_copyFrom 18 [a0, a1, a2] (.int x :: .int i :: .ref a :: st) D mm z Q = (((D a).1 = 8 ∧ inB i (D a).2.1 = true) ∧ Runs MX5_copyFrom 19 [a0, a1, a2] st D (up2 mm a i.toNatClampNeg x) z Q) := R_iast (by decide +kernel)
theorem sX5_copyFrom_19 {a1 a2 : Value} {x : Nat} {st : List Value} {D : vDD} {mm : vMM} {z : vZZ} {Q : Value → vDD → vMM → vZZ → Prop} : Runs MX5_copyFrom 19 [.ref x, a1, a2] st D mm z Q = Runs MX5_copyFrom 20 [.ref x, a1, a2] (.ref x :: st) D mm z Q := R_aload_n (by decide +kernel) rfl
theorem sX5_copyFrom_20 {a0 a1 a2 : Value} {st : List Value} {a : Nat} {D : vDD} {mm : vMM} {z : vZZ} {Q : Value → vDD → vMM → vZZ → Prop} : Runs MX5_copyFrom 20 [a0, a1, a2] (.ref a :: st) D mm z Q = ((D a).1 = 5 ∧ match (D a).2.2 1 with
    | some r => Runs MX5_copyFrom 23 [a0, a1, a2] (.ref r :: st) D mm z Q
    | none => False) := R_getR (by decide +kernel) rfl rfl
theorem sX5_copyFrom_23 {a0 a1 : Value} {x : Int32} {st : List Value} {D : vDD} {mm : vMM} {z : vZZ} {Q : Value → vDD → vMM → vZZ → Prop} : Runs MX5_copyFrom 23 [a0, a1, .int x] st D mm z Q = Runs MX5_copyFrom 24 [a0, a1, .int x] (.int x :: st) D mm z Q := R_iload_n (by decide +kernel) rfl
theorem sX5_copyFrom_24 {a0 a2 : Value} {x : Nat} {st : List Value} {D : vDD} {mm : vMM} {z : vZZ} {Q : Value → vDD → vMM → vZZ → Prop} : Runs MX5_copyFrom 24 [a0, .ref x, a2] st D mm z Q = Runs MX5_copyFrom 25 [a0, .ref x, a2] (.ref x :: st) D mm z Q := R_aload_n (by decide +kernel) rfl
theorem sX5_copyFrom_25 {a0 a1 a2 : Value} {st : List Value} {a : Nat} {D : vDD} {mm : vMM} {z : vZZ} {Q : Value → vDD → vMM → vZZ → Prop} : Runs MX5_copyFrom 25 [a0, a1, a2] (.ref a :: st) D mm z Q = ((D a).1 = 5 ∧ match (D a).2.2 1 with
    | some r => Runs MX5_copyFrom 28 [a0, a1, a2] (.ref r :: st) D mm z Q
    | none => False) := R_getR (by decide +kernel) rfl rfl
theorem sX5_copyFrom_28 {a0 a1 : Value} {x : Int32} {st : List Value} {D : vDD} {mm : vMM} {z : vZZ} {Q : Value → vDD → vMM → vZZ → Prop} : Runs MX5_copyFrom 28 [a0, a1, .int x] st D mm z Q = Runs MX5_copyFrom 29 [a0, a1, .int x] (.int x :: st) D mm z Q := R_iload_n (by decide +kernel) rfl
theorem sX5_copyFrom_29 {a0 a1 a2 : Value} {st : List Value} {a : Nat} {i : Int32} {D : vDD} {mm : vMM} {z : vZZ} {Q : Value → vDD → vMM → vZZ → Prop} : Runs MX5_copyFrom 29 [a0, a1, a2] (.int i :: .ref a :: st) D mm z Q = ((((D a).1 = 8 ∨ (D a).1 = 20) ∧ inB i (D a).2.1 = true) ∧ Runs MX5_copyFrom 30 [a0, a1, a2] (.int (mm a i.toNatClampNeg) :: st) D mm z Q) := R_iald (by decide +kernel)
theorem sX5_copyFrom_30 {a0 a1 a2 : Value} {st : List Value} {a : Nat} {i x : Int32} {D : vDD} {mm : vMM} {z : vZZ} {Q : Value → vDD → vMM → vZZ → Prop} : Runs MX5_copyFrom 30 [a0, a1, a2] (.int x :: .int i :: .ref a :: st) D mm z Q = (((D a).1 = 8 ∧ inB i (D a).2.1 = true) ∧ Runs MX5_copyFrom 31 [a0, a1, a2] st D (up2 mm a i.toNatClampNeg x) z Q) := R_iast (by decide +kernel)
theorem sX5_copyFrom_31 {a1 a2 : Value} {x : Nat} {st : List Value} {D : vDD} {mm : vMM} {z : vZZ} {Q : Value → vDD → vMM → vZZ → Prop} : Runs MX5_copyFrom 31 [.ref x, a1, a2] st D mm z Q = Runs MX5_copyFrom 32 [.ref x, a1, a2] (.ref x :: st) D mm z Q := R_aload_n (by decide +kernel) rfl
theorem sX5_copyFrom_32 {a0 a1 a2 : Value} {st : List Value} {a : Nat} {D : vDD} {mm : vMM} {z : vZZ} {Q : Value → vDD → vMM → vZZ → Prop} : Runs MX5_copyFrom 32 [a0, a1, a2] (.ref a :: st) D mm z Q = ((D a).1 = 5 ∧ match (D a).2.2 2 with
    | some r => Runs MX5_copyFrom 35 [a0, a1, a2] (.ref r :: st) D mm z Q
    | none => False) := R_getR (by decide +kernel) rfl rfl
theorem sX5_copyFrom_35 {a0 a1 : Value} {x : Int32} {st : List Value} {D : vDD} {mm : vMM} {z : vZZ} {Q : Value → vDD → vMM → vZZ → Prop} : Runs MX5_copyFrom 35 [a0, a1, .int x] st D mm z Q = Runs MX5_copyFrom 36 [a0, a1, .int x] (.int x :: st) D mm z Q := R_iload_n (by decide +kernel) rfl
theorem sX5_copyFrom_36 {a0 a2 : Value} {x : Nat} {st : List Value} {D : vDD} {mm : vMM} {z : vZZ} {Q : Value → vDD → vMM → vZZ → Prop} : Runs MX5_copyFrom 36 [a0, .ref x, a2] st D mm z Q = Runs MX5_copyFrom 37 [a0, .ref x, a2] (.ref x :: st) D mm z Q := R_aload_n (by decide +kernel) rfl
theorem sX5_copyFrom_37 {a0 a1 a2 : Value} {st : List Value} {a : Nat} {D : vDD} {mm : vMM} {z : vZZ} {Q : Value → vDD → vMM → vZZ → Prop} : Runs MX5_copyFrom 37 [a0, a1, a2] (.ref a :: st) D mm z Q = ((D a).1 = 5 ∧ match (D a).2.2 2 with
    | some r => Runs MX5_copyFrom 40 [a0, a1, a2] (.ref r :: st) D mm z Q
    | none => False) := R_getR (by decide +kernel) rfl rfl
theorem sX5_copyFrom_40 {a0 a1 : Value} {x : Int32} {st : List Value} {D : vDD} {mm : vMM} {z : vZZ} {Q : Value → vDD → vMM → vZZ → Prop} : Runs MX5_copyFrom 40 [a0, a1, .int x] st D mm z Q = Runs MX5_copyFrom 41 [a0, a1, .int x] (.int x :: st) D mm z Q := R_iload_n (by decide +kernel) rfl
theorem sX5_copyFrom_41 {a0 a1 a2 : Value} {st : List Value} {a : Nat} {i : Int32} {D : vDD} {mm : vMM} {z : vZZ} {Q : Value → vDD → vMM → vZZ → Prop} : Runs MX5_copyFrom 41 [a0, a1, a2] (.int i :: .ref a :: st) D mm z Q = ((((D a).1 = 8 ∨ (D a).1 = 20) ∧ inB i (D a).2.1 = true) ∧ Runs MX5_copyFrom 42 [a0, a1, a2] (.int (mm a i.toNatClampNeg) :: st) D mm z Q) := R_iald (by decide +kernel)
theorem sX5_copyFrom_42 {a0 a1 a2 : Value} {st : List Value} {a : Nat} {i x : Int32} {D : vDD} {mm : vMM} {z : vZZ} {Q : Value → vDD → vMM → vZZ → Prop} : Runs MX5_copyFrom 42 [a0, a1, a2] (.int x :: .int i :: .ref a :: st) D mm z Q = (((D a).1 = 8 ∧ inB i (D a).2.1 = true) ∧ Runs MX5_copyFrom 43 [a0, a1, a2] st D (up2 mm a i.toNatClampNeg x) z Q) := R_iast (by decide +kernel)
theorem sX5_copyFrom_43 {a0 a1 : Value} {x : Int32} {st : List Value} {D : vDD} {mm : vMM} {z : vZZ} {Q : Value → vDD → vMM → vZZ → Prop} : Runs MX5_copyFrom 43 [a0, a1, .int x] st D mm z Q = Runs MX5_copyFrom 46 [a0, a1, .int (x + 1)] st D mm z Q := R_iinc (v := 1) (by decide +kernel) rfl rfl (by decide +kernel) rfl
theorem sX5_copyFrom_46 {a0 a1 a2 : Value} {st : List Value} {D : vDD} {mm : vMM} {z : vZZ} {Q : Value → vDD → vMM → vZZ → Prop} : Runs MX5_copyFrom 46 [a0, a1, a2] st D mm z Q = Runs MX5_copyFrom 2 [a0, a1, a2] st D mm z Q := R_goto (by decide +kernel) (by decide +kernel)
theorem sX5_copyFrom_49 {a1 a2 : Value} {x : Nat} {st : List Value} {D : vDD} {mm : vMM} {z : vZZ} {Q : Value → vDD → vMM → vZZ → Prop} : Runs MX5_copyFrom 49 [.ref x, a1, a2] st D mm z Q = Runs MX5_copyFrom 50 [.ref x, a1, a2] (.ref x :: st) D mm z Q := R_aload_n (by decide +kernel) rfl
theorem sX5_copyFrom_50 {a0 a2 : Value} {x : Nat} {st : List Value} {D : vDD} {mm : vMM} {z : vZZ} {Q : Value → vDD → vMM → vZZ → Prop} : Runs MX5_copyFrom 50 [a0, .ref x, a2] st D mm z Q = Runs MX5_copyFrom 51 [a0, .ref x, a2] (.ref x :: st) D mm z Q := R_aload_n (by decide +kernel) rfl
theorem sX5_copyFrom_51 {a0 a1 a2 : Value} {st : List Value} {a : Nat} {D : vDD} {mm : vMM} {z : vZZ} {Q : Value → vDD → vMM → vZZ → Prop} : Runs MX5_copyFrom 51 [a0, a1, a2] (.ref a :: st) D mm z Q = ((D a).1 = 5 ∧ Runs MX5_copyFrom 54 [a0, a1, a2] (.int (mm a 3) :: st) D mm z Q) := R_getI (by decide +kernel) rfl rfl
theorem sX5_copyFrom_54 {a0 a1 a2 : Value} {st : List Value} {a : Nat} {x : Int32} {D : vDD} {mm : vMM} {z : vZZ} {Q : Value → vDD → vMM → vZZ → Prop} : Runs MX5_copyFrom 54 [a0, a1, a2] (.int x :: .ref a :: st) D mm z Q = ((D a).1 = 5 ∧ Runs MX5_copyFrom 57 [a0, a1, a2] st D (up2 mm a 3 x) z Q) := R_putI (by decide +kernel) rfl rfl rfl (by decide +kernel)
theorem sX5_copyFrom_57 {a1 a2 : Value} {x : Nat} {st : List Value} {D : vDD} {mm : vMM} {z : vZZ} {Q : Value → vDD → vMM → vZZ → Prop} : Runs MX5_copyFrom 57 [.ref x, a1, a2] st D mm z Q = Runs MX5_copyFrom 58 [.ref x, a1, a2] (.ref x :: st) D mm z Q := R_aload_n (by decide +kernel) rfl
theorem sX5_copyFrom_58 {a0 a2 : Value} {x : Nat} {st : List Value} {D : vDD} {mm : vMM} {z : vZZ} {Q : Value → vDD → vMM → vZZ → Prop} : Runs MX5_copyFrom 58 [a0, .ref x, a2] st D mm z Q = Runs MX5_copyFrom 59 [a0, .ref x, a2] (.ref x :: st) D mm z Q := R_aload_n (by decide +kernel) rfl
theorem sX5_copyFrom_59 {a0 a1 a2 : Value} {st : List Value} {a : Nat} {D : vDD} {mm : vMM} {z : vZZ} {Q : Value → vDD → vMM → vZZ → Prop} : Runs MX5_copyFrom 59 [a0, a1, a2] (.ref a :: st) D mm z Q = ((D a).1 = 5 ∧ Runs MX5_copyFrom 62 [a0, a1, a2] (.int (mm a 4) :: st) D mm z Q) := R_getI (by decide +kernel) rfl rfl
theorem sX5_copyFrom_62 {a0 a1 a2 : Value} {st : List Value} {a : Nat} {x : Int32} {D : vDD} {mm : vMM} {z : vZZ} {Q : Value → vDD → vMM → vZZ → Prop} : Runs MX5_copyFrom 62 [a0, a1, a2] (.int x :: .ref a :: st) D mm z Q = ((D a).1 = 5 ∧ Runs MX5_copyFrom 65 [a0, a1, a2] st D (up2 mm a 4 x) z Q) := R_putI (by decide +kernel) rfl rfl rfl (by decide +kernel)
theorem sX5_copyFrom_65 {a1 a2 : Value} {x : Nat} {st : List Value} {D : vDD} {mm : vMM} {z : vZZ} {Q : Value → vDD → vMM → vZZ → Prop} : Runs MX5_copyFrom 65 [.ref x, a1, a2] st D mm z Q = Runs MX5_copyFrom 66 [.ref x, a1, a2] (.ref x :: st) D mm z Q := R_aload_n (by decide +kernel) rfl
theorem sX5_copyFrom_66 {a0 a2 : Value} {x : Nat} {st : List Value} {D : vDD} {mm : vMM} {z : vZZ} {Q : Value → vDD → vMM → vZZ → Prop} : Runs MX5_copyFrom 66 [a0, .ref x, a2] st D mm z Q = Runs MX5_copyFrom 67 [a0, .ref x, a2] (.ref x :: st) D mm z Q := R_aload_n (by decide +kernel) rfl
theorem sX5_copyFrom_67 {a0 a1 a2 : Value} {st : List Value} {a : Nat} {D : vDD} {mm : vMM} {z : vZZ} {Q : Value → vDD → vMM → vZZ → Prop} : Runs MX5_copyFrom 67 [a0, a1, a2] (.ref a :: st) D mm z Q = ((D a).1 = 5 ∧ Runs MX5_copyFrom 70 [a0, a1, a2] (.int (mm a 5) :: st) D mm z Q) := R_getI (by decide +kernel) rfl rfl
theorem sX5_copyFrom_70 {a0 a1 a2 : Value} {st : List Value} {a : Nat} {x : Int32} {D : vDD} {mm : vMM} {z : vZZ} {Q : Value → vDD → vMM → vZZ → Prop} : Runs MX5_copyFrom 70 [a0, a1, a2] (.int x :: .ref a :: st) D mm z Q = ((D a).1 = 5 ∧ Runs MX5_copyFrom 73 [a0, a1, a2] st D (up2 mm a 5 x) z Q) := R_putI (by decide +kernel) rfl rfl rfl (by decide +kernel)
theorem sX5_copyFrom_73 {a1 a2 : Value} {x : Nat} {st : List Value} {D : vDD} {mm : vMM} {z : vZZ} {Q : Value → vDD → vMM → vZZ → Prop} : Runs MX5_copyFrom 73 [.ref x, a1, a2] st D mm z Q = Runs MX5_copyFrom 74 [.ref x, a1, a2] (.ref x :: st) D mm z Q := R_aload_n (by decide +kernel) rfl
theorem sX5_copyFrom_74 {a0 a2 : Value} {x : Nat} {st : List Value} {D : vDD} {mm : vMM} {z : vZZ} {Q : Value → vDD → vMM → vZZ → Prop} : Runs MX5_copyFrom 74 [a0, .ref x, a2] st D mm z Q = Runs MX5_copyFrom 75 [a0, .ref x, a2] (.ref x :: st) D mm z Q := R_aload_n (by decide +kernel) rfl
theorem sX5_copyFrom_75 {a0 a1 a2 : Value} {st : List Value} {a : Nat} {D : vDD} {mm : vMM} {z : vZZ} {Q : Value → vDD → vMM → vZZ → Prop} : Runs MX5_copyFrom 75 [a0, a1, a2] (.ref a :: st) D mm z Q = ((D a).1 = 5 ∧ Runs MX5_copyFrom 78 [a0, a1, a2] (.int (mm a 6) :: st) D mm z Q) := R_getI (by decide +kernel) rfl rfl
theorem sX5_copyFrom_78 {a0 a1 a2 : Value} {st : List Value} {a : Nat} {x : Int32} {D : vDD} {mm : vMM} {z : vZZ} {Q : Value → vDD → vMM → vZZ → Prop} : Runs MX5_copyFrom 78 [a0, a1, a2] (.int x :: .ref a :: st) D mm z Q = ((D a).1 = 5 ∧ Runs MX5_copyFrom 81 [a0, a1, a2] st D (up2 mm a 6 x) z Q) := R_putI (by decide +kernel) rfl rfl rfl (by decide +kernel)
theorem sX5_copyFrom_81 {a1 a2 : Value} {x : Nat} {st : List Value} {D : vDD} {mm : vMM} {z : vZZ} {Q : Value → vDD → vMM → vZZ → Prop} : Runs MX5_copyFrom 81 [.ref x, a1, a2] st D mm z Q = Runs MX5_copyFrom 82 [.ref x, a1, a2] (.ref x :: st) D mm z Q := R_aload_n (by decide +kernel) rfl
theorem sX5_copyFrom_82 {a0 a2 : Value} {x : Nat} {st : List Value} {D : vDD} {mm : vMM} {z : vZZ} {Q : Value → vDD → vMM → vZZ → Prop} : Runs MX5_copyFrom 82 [a0, .ref x, a2] st D mm z Q = Runs MX5_copyFrom 83 [a0, .ref x, a2] (.ref x :: st) D mm z Q := R_aload_n (by decide +kernel) rfl
theorem sX5_copyFrom_83 {a0 a1 a2 : Value} {st : List Value} {a : Nat} {D : vDD} {mm : vMM} {z : vZZ} {Q : Value → vDD → vMM → vZZ → Prop} : Runs MX5_copyFrom 83 [a0, a1, a2] (.ref a :: st) D mm z Q = ((D a).1 = 5 ∧ Runs MX5_copyFrom 86 [a0, a1, a2] (.int (mm a 7) :: st) D mm z Q) := R_getI (by decide +kernel) rfl rfl
theorem sX5_copyFrom_86 {a0 a1 a2 : Value} {st : List Value} {a : Nat} {x : Int32} {D : vDD} {mm : vMM} {z : vZZ} {Q : Value → vDD → vMM → vZZ → Prop} : Runs MX5_copyFrom 86 [a0, a1, a2] (.int x :: .ref a :: st) D mm z Q = ((D a).1 = 5 ∧ Runs MX5_copyFrom 89 [a0, a1, a2] st D (up2 mm a 7 x) z Q) := R_putI (by decide +kernel) rfl rfl rfl (by decide +kernel)
theorem sX5_copyFrom_89 {a1 a2 : Value} {x : Nat} {st : List Value} {D : vDD} {mm : vMM} {z : vZZ} {Q : Value → vDD → vMM → vZZ → Prop} : Runs MX5_copyFrom 89 [.ref x, a1, a2] st D mm z Q = Runs MX5_copyFrom 90 [.ref x, a1, a2] (.ref x :: st) D mm z Q := R_aload_n (by decide +kernel) rfl
theorem sX5_copyFrom_90 {a0 a2 : Value} {x : Nat} {st : List Value} {D : vDD} {mm : vMM} {z : vZZ} {Q : Value → vDD → vMM → vZZ → Prop} : Runs MX5_copyFrom 90 [a0, .ref x, a2] st D mm z Q = Runs MX5_copyFrom 91 [a0, .ref x, a2] (.ref x :: st) D mm z Q := R_aload_n (by decide +kernel) rfl
theorem sX5_copyFrom_91 {a0 a1 a2 : Value} {st : List Value} {a : Nat} {D : vDD} {mm : vMM} {z : vZZ} {Q : Value → vDD → vMM → vZZ → Prop} : Runs MX5_copyFrom 91 [a0, a1, a2] (.ref a :: st) D mm z Q = ((D a).1 = 5 ∧ Runs MX5_copyFrom 94 [a0, a1, a2] (.int (mm a 8) :: st) D mm z Q) := R_getI (by decide +kernel) rfl rfl
theorem sX5_copyFrom_94 {a0 a1 a2 : Value} {st : List Value} {a : Nat} {x : Int32} {D : vDD} {mm : vMM} {z : vZZ} {Q : Value → vDD → vMM → vZZ → Prop} : Runs MX5_copyFrom 94 [a0, a1, a2] (.int x :: .ref a :: st) D mm z Q = ((D a).1 = 5 ∧ Runs MX5_copyFrom 97 [a0, a1, a2] st D (up2 mm a 8 x) z Q) := R_putI (by decide +kernel) rfl rfl rfl (by decide +kernel)
theorem sX5_copyFrom_97 {a0 a1 a2 : Value} {D : vDD} {mm : vMM} {z : vZZ} {Q : Value → vDD → vMM → vZZ → Prop} : Runs MX5_copyFrom 97 [a0, a1, a2] [] D mm z Q = Q vJ D mm z := R_vret (by decide +kernel) rfl
end
