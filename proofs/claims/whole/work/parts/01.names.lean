-- ===== PART A: goes FIRST, ahead of the names: the tables' words, and 'selects' of the private methods out of them =====
/-- a private method of a class that the tables say can be made, by its rows of tables_1 -/
def lw_okq (q : MethodName × Nat) : Prop := (q.1.cls ≠ "java/lang/invoke/MethodHandle" ∧ q.1.cls ≠ "java/lang/invoke/VarHandle") ∧ Cond.instantiable q.1.cls q.2 ∈ tables_1 ∧ Cond.privateMethod q.1 ∈ tables_1 ∧ Cond.instanceMethod q.1 ∈ tables_1
theorem lw_p0 : lw_okq (⟨"ShyStrip", "refuse", "(I)I"⟩, 12) := ⟨⟨by decide +kernel, by decide +kernel⟩, List.mem_of_getElem? (i := 11) (by decide +kernel), List.mem_of_getElem? (i := 206) (by decide +kernel), List.mem_of_getElem? (i := 207) (by decide +kernel)⟩
theorem lw_p1 : lw_okq (⟨"ShyStrip", "refusePlace", "([LShyStrip$Row;II)I"⟩, 12) := ⟨⟨by decide +kernel, by decide +kernel⟩, List.mem_of_getElem? (i := 11) (by decide +kernel), List.mem_of_getElem? (i := 224) (by decide +kernel), List.mem_of_getElem? (i := 225) (by decide +kernel)⟩
theorem lw_p2 : lw_okq (⟨"ShyStrip", "refuseMissing", "([LShyStrip$Row;I)I"⟩, 12) := ⟨⟨by decide +kernel, by decide +kernel⟩, List.mem_of_getElem? (i := 11) (by decide +kernel), List.mem_of_getElem? (i := 228) (by decide +kernel), List.mem_of_getElem? (i := 229) (by decide +kernel)⟩
theorem lw_p3 : lw_okq (⟨"ShyStrip", "ofOne", "(II)I"⟩, 12) := ⟨⟨by decide +kernel, by decide +kernel⟩, List.mem_of_getElem? (i := 11) (by decide +kernel), List.mem_of_getElem? (i := 338) (by decide +kernel), List.mem_of_getElem? (i := 339) (by decide +kernel)⟩
theorem lw_p4 : lw_okq (⟨"ShyStrip", "nextSeated", "(LShyStrip$Row;)I"⟩, 12) := ⟨⟨by decide +kernel, by decide +kernel⟩, List.mem_of_getElem? (i := 11) (by decide +kernel), List.mem_of_getElem? (i := 510) (by decide +kernel), List.mem_of_getElem? (i := 511) (by decide +kernel)⟩
theorem lw_p5 : lw_okq (⟨"ShyStrip", "shareCrowns", "(IILShyStrip$Row;)V"⟩, 12) := ⟨⟨by decide +kernel, by decide +kernel⟩, List.mem_of_getElem? (i := 11) (by decide +kernel), List.mem_of_getElem? (i := 562) (by decide +kernel), List.mem_of_getElem? (i := 563) (by decide +kernel)⟩
theorem lw_p6 : lw_okq (⟨"ShyStrip", "isWronged", "(ILShyStrip$Row;)Z"⟩, 12) := ⟨⟨by decide +kernel, by decide +kernel⟩, List.mem_of_getElem? (i := 11) (by decide +kernel), List.mem_of_getElem? (i := 566) (by decide +kernel), List.mem_of_getElem? (i := 567) (by decide +kernel)⟩
theorem lw_p7 : lw_okq (⟨"ShyStrip", "refusePapers", "(II)I"⟩, 12) := ⟨⟨by decide +kernel, by decide +kernel⟩, List.mem_of_getElem? (i := 11) (by decide +kernel), List.mem_of_getElem? (i := 595) (by decide +kernel), List.mem_of_getElem? (i := 596) (by decide +kernel)⟩
theorem lw_p8 : lw_okq (⟨"ShyStrip", "agrees", "(IIILShyStrip$Row;)Z"⟩, 12) := ⟨⟨by decide +kernel, by decide +kernel⟩, List.mem_of_getElem? (i := 11) (by decide +kernel), List.mem_of_getElem? (i := 599) (by decide +kernel), List.mem_of_getElem? (i := 600) (by decide +kernel)⟩
theorem lw_p9 : lw_okq (⟨"ShyStrip", "tellFraction", "(JJ)V"⟩, 12) := ⟨⟨by decide +kernel, by decide +kernel⟩, List.mem_of_getElem? (i := 11) (by decide +kernel), List.mem_of_getElem? (i := 618) (by decide +kernel), List.mem_of_getElem? (i := 619) (by decide +kernel)⟩
theorem lw_p10 : lw_okq (⟨"ShyStrip", "keptLands", "()I"⟩, 12) := ⟨⟨by decide +kernel, by decide +kernel⟩, List.mem_of_getElem? (i := 11) (by decide +kernel), List.mem_of_getElem? (i := 671) (by decide +kernel), List.mem_of_getElem? (i := 672) (by decide +kernel)⟩
theorem lw_p11 : lw_okq (⟨"ShyStripModel", "finds", "(I)I"⟩, 22) := ⟨⟨by decide +kernel, by decide +kernel⟩, List.mem_of_getElem? (i := 696) (by decide +kernel), List.mem_of_getElem? (i := 780) (by decide +kernel), List.mem_of_getElem? (i := 781) (by decide +kernel)⟩
theorem lw_p12 : lw_okq (⟨"ShyStripModel", "lays", "(II)V"⟩, 22) := ⟨⟨by decide +kernel, by decide +kernel⟩, List.mem_of_getElem? (i := 696) (by decide +kernel), List.mem_of_getElem? (i := 784) (by decide +kernel), List.mem_of_getElem? (i := 785) (by decide +kernel)⟩
theorem lw_p13 : lw_okq (⟨"ShyStripModel", "tells", "(II)I"⟩, 22) := ⟨⟨by decide +kernel, by decide +kernel⟩, List.mem_of_getElem? (i := 696) (by decide +kernel), List.mem_of_getElem? (i := 796) (by decide +kernel), List.mem_of_getElem? (i := 797) (by decide +kernel)⟩
theorem lw_p14 : lw_okq (⟨"ShyStripModel", "reads", "(I)I"⟩, 22) := ⟨⟨by decide +kernel, by decide +kernel⟩, List.mem_of_getElem? (i := 696) (by decide +kernel), List.mem_of_getElem? (i := 828) (by decide +kernel), List.mem_of_getElem? (i := 829) (by decide +kernel)⟩
theorem lw_p15 : lw_okq (⟨"ShyStripModel", "readsHead", "(I)V"⟩, 22) := ⟨⟨by decide +kernel, by decide +kernel⟩, List.mem_of_getElem? (i := 696) (by decide +kernel), List.mem_of_getElem? (i := 832) (by decide +kernel), List.mem_of_getElem? (i := 833) (by decide +kernel)⟩
def lw_privs_1 : List (MethodName × Nat) := [(⟨"ShyStrip", "refuse", "(I)I"⟩, 12), (⟨"ShyStrip", "refusePlace", "([LShyStrip$Row;II)I"⟩, 12), (⟨"ShyStrip", "refuseMissing", "([LShyStrip$Row;I)I"⟩, 12), (⟨"ShyStrip", "ofOne", "(II)I"⟩, 12), (⟨"ShyStrip", "nextSeated", "(LShyStrip$Row;)I"⟩, 12), (⟨"ShyStrip", "shareCrowns", "(IILShyStrip$Row;)V"⟩, 12), (⟨"ShyStrip", "isWronged", "(ILShyStrip$Row;)Z"⟩, 12), (⟨"ShyStrip", "refusePapers", "(II)I"⟩, 12), (⟨"ShyStrip", "agrees", "(IIILShyStrip$Row;)Z"⟩, 12), (⟨"ShyStrip", "tellFraction", "(JJ)V"⟩, 12), (⟨"ShyStrip", "keptLands", "()I"⟩, 12), (⟨"ShyStripModel", "finds", "(I)I"⟩, 22), (⟨"ShyStripModel", "lays", "(II)V"⟩, 22), (⟨"ShyStripModel", "tells", "(II)I"⟩, 22), (⟨"ShyStripModel", "reads", "(I)I"⟩, 22), (⟨"ShyStripModel", "readsHead", "(I)V"⟩, 22)]
theorem lw_r1 : ∀ q ∈ lw_privs_1, lw_okq q := List.forall_mem_cons.mpr ⟨lw_p0, List.forall_mem_cons.mpr ⟨lw_p1, List.forall_mem_cons.mpr ⟨lw_p2, List.forall_mem_cons.mpr ⟨lw_p3, List.forall_mem_cons.mpr ⟨lw_p4, List.forall_mem_cons.mpr ⟨lw_p5, List.forall_mem_cons.mpr ⟨lw_p6, List.forall_mem_cons.mpr ⟨lw_p7, List.forall_mem_cons.mpr ⟨lw_p8, List.forall_mem_cons.mpr ⟨lw_p9, List.forall_mem_cons.mpr ⟨lw_p10, List.forall_mem_cons.mpr ⟨lw_p11, List.forall_mem_cons.mpr ⟨lw_p12, List.forall_mem_cons.mpr ⟨lw_p13, List.forall_mem_cons.mpr ⟨lw_p14, List.forall_mem_cons.mpr ⟨lw_p15, fun _ h => absurd h List.not_mem_nil⟩⟩⟩⟩⟩⟩⟩⟩⟩⟩⟩⟩⟩⟩⟩⟩
theorem lw_p16 : lw_okq (⟨"ShyStripModel", "skips", "(I)V"⟩, 22) := ⟨⟨by decide +kernel, by decide +kernel⟩, List.mem_of_getElem? (i := 696) (by decide +kernel), List.mem_of_getElem? (i := 836) (by decide +kernel), List.mem_of_getElem? (i := 837) (by decide +kernel)⟩
theorem lw_p17 : lw_okq (⟨"ShyStripModel", "look", "(I)I"⟩, 22) := ⟨⟨by decide +kernel, by decide +kernel⟩, List.mem_of_getElem? (i := 696) (by decide +kernel), List.mem_of_getElem? (i := 840) (by decide +kernel), List.mem_of_getElem? (i := 841) (by decide +kernel)⟩
theorem lw_p18 : lw_okq (⟨"ShyStripModel", "figure", "(III)I"⟩, 22) := ⟨⟨by decide +kernel, by decide +kernel⟩, List.mem_of_getElem? (i := 696) (by decide +kernel), List.mem_of_getElem? (i := 844) (by decide +kernel), List.mem_of_getElem? (i := 845) (by decide +kernel)⟩
theorem lw_p19 : lw_okq (⟨"ShyStripModel", "readsOne", "(I)V"⟩, 22) := ⟨⟨by decide +kernel, by decide +kernel⟩, List.mem_of_getElem? (i := 696) (by decide +kernel), List.mem_of_getElem? (i := 848) (by decide +kernel), List.mem_of_getElem? (i := 849) (by decide +kernel)⟩
theorem lw_p20 : lw_okq (⟨"ShyStripModel", "isOne", "(I)Z"⟩, 22) := ⟨⟨by decide +kernel, by decide +kernel⟩, List.mem_of_getElem? (i := 696) (by decide +kernel), List.mem_of_getElem? (i := 866) (by decide +kernel), List.mem_of_getElem? (i := 867) (by decide +kernel)⟩
theorem lw_p21 : lw_okq (⟨"ShyStripModel", "oneHas", "(II)I"⟩, 22) := ⟨⟨by decide +kernel, by decide +kernel⟩, List.mem_of_getElem? (i := 696) (by decide +kernel), List.mem_of_getElem? (i := 870) (by decide +kernel), List.mem_of_getElem? (i := 871) (by decide +kernel)⟩
theorem lw_p22 : lw_okq (⟨"ShyStripModel", "votesOf", "(I)I"⟩, 22) := ⟨⟨by decide +kernel, by decide +kernel⟩, List.mem_of_getElem? (i := 696) (by decide +kernel), List.mem_of_getElem? (i := 874) (by decide +kernel), List.mem_of_getElem? (i := 875) (by decide +kernel)⟩
theorem lw_p23 : lw_okq (⟨"ShyStripModel", "belongs", "(III)Z"⟩, 22) := ⟨⟨by decide +kernel, by decide +kernel⟩, List.mem_of_getElem? (i := 696) (by decide +kernel), List.mem_of_getElem? (i := 878) (by decide +kernel), List.mem_of_getElem? (i := 879) (by decide +kernel)⟩
theorem lw_p24 : lw_okq (⟨"ShyStripModel", "belongsBy", "(IIIII)Z"⟩, 22) := ⟨⟨by decide +kernel, by decide +kernel⟩, List.mem_of_getElem? (i := 696) (by decide +kernel), List.mem_of_getElem? (i := 882) (by decide +kernel), List.mem_of_getElem? (i := 883) (by decide +kernel)⟩
theorem lw_p25 : lw_okq (⟨"ShyStripModel", "distance", "(I)I"⟩, 22) := ⟨⟨by decide +kernel, by decide +kernel⟩, List.mem_of_getElem? (i := 696) (by decide +kernel), List.mem_of_getElem? (i := 893) (by decide +kernel), List.mem_of_getElem? (i := 894) (by decide +kernel)⟩
theorem lw_p26 : lw_okq (⟨"ShyStripModel", "are", "()Z"⟩, 22) := ⟨⟨by decide +kernel, by decide +kernel⟩, List.mem_of_getElem? (i := 696) (by decide +kernel), List.mem_of_getElem? (i := 904) (by decide +kernel), List.mem_of_getElem? (i := 905) (by decide +kernel)⟩
theorem lw_p27 : lw_okq (⟨"ShyStripModel", "coastHas", "(I)I"⟩, 22) := ⟨⟨by decide +kernel, by decide +kernel⟩, List.mem_of_getElem? (i := 696) (by decide +kernel), List.mem_of_getElem? (i := 908) (by decide +kernel), List.mem_of_getElem? (i := 909) (by decide +kernel)⟩
theorem lw_p28 : lw_okq (⟨"ShyStripModel", "belongersNow", "()I"⟩, 22) := ⟨⟨by decide +kernel, by decide +kernel⟩, List.mem_of_getElem? (i := 696) (by decide +kernel), List.mem_of_getElem? (i := 912) (by decide +kernel), List.mem_of_getElem? (i := 913) (by decide +kernel)⟩
theorem lw_p29 : lw_okq (⟨"ShyStripModel", "belongers", "(II)I"⟩, 22) := ⟨⟨by decide +kernel, by decide +kernel⟩, List.mem_of_getElem? (i := 696) (by decide +kernel), List.mem_of_getElem? (i := 916) (by decide +kernel), List.mem_of_getElem? (i := 917) (by decide +kernel)⟩
theorem lw_p30 : lw_okq (⟨"ShyStripModel", "votesIn", "(I)I"⟩, 22) := ⟨⟨by decide +kernel, by decide +kernel⟩, List.mem_of_getElem? (i := 696) (by decide +kernel), List.mem_of_getElem? (i := 920) (by decide +kernel), List.mem_of_getElem? (i := 921) (by decide +kernel)⟩
theorem lw_p31 : lw_okq (⟨"ShyStripModel", "votesOut", "(IIII)I"⟩, 22) := ⟨⟨by decide +kernel, by decide +kernel⟩, List.mem_of_getElem? (i := 696) (by decide +kernel), List.mem_of_getElem? (i := 927) (by decide +kernel), List.mem_of_getElem? (i := 928) (by decide +kernel)⟩
def lw_privs_2 : List (MethodName × Nat) := [(⟨"ShyStripModel", "skips", "(I)V"⟩, 22), (⟨"ShyStripModel", "look", "(I)I"⟩, 22), (⟨"ShyStripModel", "figure", "(III)I"⟩, 22), (⟨"ShyStripModel", "readsOne", "(I)V"⟩, 22), (⟨"ShyStripModel", "isOne", "(I)Z"⟩, 22), (⟨"ShyStripModel", "oneHas", "(II)I"⟩, 22), (⟨"ShyStripModel", "votesOf", "(I)I"⟩, 22), (⟨"ShyStripModel", "belongs", "(III)Z"⟩, 22), (⟨"ShyStripModel", "belongsBy", "(IIIII)Z"⟩, 22), (⟨"ShyStripModel", "distance", "(I)I"⟩, 22), (⟨"ShyStripModel", "are", "()Z"⟩, 22), (⟨"ShyStripModel", "coastHas", "(I)I"⟩, 22), (⟨"ShyStripModel", "belongersNow", "()I"⟩, 22), (⟨"ShyStripModel", "belongers", "(II)I"⟩, 22), (⟨"ShyStripModel", "votesIn", "(I)I"⟩, 22), (⟨"ShyStripModel", "votesOut", "(IIII)I"⟩, 22)]
theorem lw_r2 : ∀ q ∈ lw_privs_2, lw_okq q := List.forall_mem_cons.mpr ⟨lw_p16, List.forall_mem_cons.mpr ⟨lw_p17, List.forall_mem_cons.mpr ⟨lw_p18, List.forall_mem_cons.mpr ⟨lw_p19, List.forall_mem_cons.mpr ⟨lw_p20, List.forall_mem_cons.mpr ⟨lw_p21, List.forall_mem_cons.mpr ⟨lw_p22, List.forall_mem_cons.mpr ⟨lw_p23, List.forall_mem_cons.mpr ⟨lw_p24, List.forall_mem_cons.mpr ⟨lw_p25, List.forall_mem_cons.mpr ⟨lw_p26, List.forall_mem_cons.mpr ⟨lw_p27, List.forall_mem_cons.mpr ⟨lw_p28, List.forall_mem_cons.mpr ⟨lw_p29, List.forall_mem_cons.mpr ⟨lw_p30, List.forall_mem_cons.mpr ⟨lw_p31, fun _ h => absurd h List.not_mem_nil⟩⟩⟩⟩⟩⟩⟩⟩⟩⟩⟩⟩⟩⟩⟩⟩
theorem lw_p32 : lw_okq (⟨"ShyStripModel", "notes", "()V"⟩, 22) := ⟨⟨by decide +kernel, by decide +kernel⟩, List.mem_of_getElem? (i := 696) (by decide +kernel), List.mem_of_getElem? (i := 935) (by decide +kernel), List.mem_of_getElem? (i := 936) (by decide +kernel)⟩
theorem lw_p33 : lw_okq (⟨"ShyStripModel", "ages", "()V"⟩, 22) := ⟨⟨by decide +kernel, by decide +kernel⟩, List.mem_of_getElem? (i := 696) (by decide +kernel), List.mem_of_getElem? (i := 939) (by decide +kernel), List.mem_of_getElem? (i := 940) (by decide +kernel)⟩
theorem lw_p34 : lw_okq (⟨"ShyStripModel", "later", "(II)I"⟩, 22) := ⟨⟨by decide +kernel, by decide +kernel⟩, List.mem_of_getElem? (i := 696) (by decide +kernel), List.mem_of_getElem? (i := 943) (by decide +kernel), List.mem_of_getElem? (i := 944) (by decide +kernel)⟩
theorem lw_p35 : lw_okq (⟨"ShyStripModel", "areCoasts", "(II)Z"⟩, 22) := ⟨⟨by decide +kernel, by decide +kernel⟩, List.mem_of_getElem? (i := 696) (by decide +kernel), List.mem_of_getElem? (i := 951) (by decide +kernel), List.mem_of_getElem? (i := 952) (by decide +kernel)⟩
theorem lw_p36 : lw_okq (⟨"ShyStripModel", "isCell", "(I)Z"⟩, 22) := ⟨⟨by decide +kernel, by decide +kernel⟩, List.mem_of_getElem? (i := 696) (by decide +kernel), List.mem_of_getElem? (i := 959) (by decide +kernel), List.mem_of_getElem? (i := 960) (by decide +kernel)⟩
theorem lw_p37 : lw_okq (⟨"ShyStripModel", "laysShares", "(I)V"⟩, 22) := ⟨⟨by decide +kernel, by decide +kernel⟩, List.mem_of_getElem? (i := 696) (by decide +kernel), List.mem_of_getElem? (i := 987) (by decide +kernel), List.mem_of_getElem? (i := 988) (by decide +kernel)⟩
theorem lw_p38 : lw_okq (⟨"ShyStripModel", "coastsIn", "(I)I"⟩, 22) := ⟨⟨by decide +kernel, by decide +kernel⟩, List.mem_of_getElem? (i := 696) (by decide +kernel), List.mem_of_getElem? (i := 1002) (by decide +kernel), List.mem_of_getElem? (i := 1003) (by decide +kernel)⟩
theorem lw_p39 : lw_okq (⟨"ShyStripModel", "comes", "(II)V"⟩, 22) := ⟨⟨by decide +kernel, by decide +kernel⟩, List.mem_of_getElem? (i := 696) (by decide +kernel), List.mem_of_getElem? (i := 1018) (by decide +kernel), List.mem_of_getElem? (i := 1019) (by decide +kernel)⟩
theorem lw_p40 : lw_okq (⟨"ShyStripModel", "moves", "(I)Z"⟩, 22) := ⟨⟨by decide +kernel, by decide +kernel⟩, List.mem_of_getElem? (i := 696) (by decide +kernel), List.mem_of_getElem? (i := 1022) (by decide +kernel), List.mem_of_getElem? (i := 1023) (by decide +kernel)⟩
theorem lw_p41 : lw_okq (⟨"ShyStripModel", "wayTo", "(II)I"⟩, 22) := ⟨⟨by decide +kernel, by decide +kernel⟩, List.mem_of_getElem? (i := 696) (by decide +kernel), List.mem_of_getElem? (i := 1034) (by decide +kernel), List.mem_of_getElem? (i := 1035) (by decide +kernel)⟩
theorem lw_p42 : lw_okq (⟨"ShyStripModel", "costOf", "(I)I"⟩, 22) := ⟨⟨by decide +kernel, by decide +kernel⟩, List.mem_of_getElem? (i := 696) (by decide +kernel), List.mem_of_getElem? (i := 1038) (by decide +kernel), List.mem_of_getElem? (i := 1039) (by decide +kernel)⟩
theorem lw_p43 : lw_okq (⟨"ShyStripModel", "farFrom", "(I)I"⟩, 22) := ⟨⟨by decide +kernel, by decide +kernel⟩, List.mem_of_getElem? (i := 696) (by decide +kernel), List.mem_of_getElem? (i := 1046) (by decide +kernel), List.mem_of_getElem? (i := 1047) (by decide +kernel)⟩
theorem lw_p44 : lw_okq (⟨"ShyStripModel", "barred", "(II)I"⟩, 22) := ⟨⟨by decide +kernel, by decide +kernel⟩, List.mem_of_getElem? (i := 696) (by decide +kernel), List.mem_of_getElem? (i := 1054) (by decide +kernel), List.mem_of_getElem? (i := 1055) (by decide +kernel)⟩
theorem lw_p45 : lw_okq (⟨"ShyStripModel", "goesWith", "(IIII)Z"⟩, 22) := ⟨⟨by decide +kernel, by decide +kernel⟩, List.mem_of_getElem? (i := 696) (by decide +kernel), List.mem_of_getElem? (i := 1058) (by decide +kernel), List.mem_of_getElem? (i := 1059) (by decide +kernel)⟩
theorem lw_p46 : lw_okq (⟨"ShyStripModel", "tellsParts", "(JJ)I"⟩, 22) := ⟨⟨by decide +kernel, by decide +kernel⟩, List.mem_of_getElem? (i := 696) (by decide +kernel), List.mem_of_getElem? (i := 1077) (by decide +kernel), List.mem_of_getElem? (i := 1078) (by decide +kernel)⟩
def lw_privs_3 : List (MethodName × Nat) := [(⟨"ShyStripModel", "notes", "()V"⟩, 22), (⟨"ShyStripModel", "ages", "()V"⟩, 22), (⟨"ShyStripModel", "later", "(II)I"⟩, 22), (⟨"ShyStripModel", "areCoasts", "(II)Z"⟩, 22), (⟨"ShyStripModel", "isCell", "(I)Z"⟩, 22), (⟨"ShyStripModel", "laysShares", "(I)V"⟩, 22), (⟨"ShyStripModel", "coastsIn", "(I)I"⟩, 22), (⟨"ShyStripModel", "comes", "(II)V"⟩, 22), (⟨"ShyStripModel", "moves", "(I)Z"⟩, 22), (⟨"ShyStripModel", "wayTo", "(II)I"⟩, 22), (⟨"ShyStripModel", "costOf", "(I)I"⟩, 22), (⟨"ShyStripModel", "farFrom", "(I)I"⟩, 22), (⟨"ShyStripModel", "barred", "(II)I"⟩, 22), (⟨"ShyStripModel", "goesWith", "(IIII)Z"⟩, 22), (⟨"ShyStripModel", "tellsParts", "(JJ)I"⟩, 22)]
theorem lw_r3 : ∀ q ∈ lw_privs_3, lw_okq q := List.forall_mem_cons.mpr ⟨lw_p32, List.forall_mem_cons.mpr ⟨lw_p33, List.forall_mem_cons.mpr ⟨lw_p34, List.forall_mem_cons.mpr ⟨lw_p35, List.forall_mem_cons.mpr ⟨lw_p36, List.forall_mem_cons.mpr ⟨lw_p37, List.forall_mem_cons.mpr ⟨lw_p38, List.forall_mem_cons.mpr ⟨lw_p39, List.forall_mem_cons.mpr ⟨lw_p40, List.forall_mem_cons.mpr ⟨lw_p41, List.forall_mem_cons.mpr ⟨lw_p42, List.forall_mem_cons.mpr ⟨lw_p43, List.forall_mem_cons.mpr ⟨lw_p44, List.forall_mem_cons.mpr ⟨lw_p45, List.forall_mem_cons.mpr ⟨lw_p46, fun _ h => absurd h List.not_mem_nil⟩⟩⟩⟩⟩⟩⟩⟩⟩⟩⟩⟩⟩⟩⟩
def lw_privs : List (MethodName × Nat) := lw_privs_1 ++ (lw_privs_2 ++ (lw_privs_3))
def lw_tbl : List Cond := k2_sels lw_privs ++ tables_1
theorem lw_privs_ok : ∀ q ∈ lw_privs, lw_okq q := by
  show ∀ q ∈ lw_privs_1 ++ (lw_privs_2 ++ (lw_privs_3)), lw_okq q
  exact List.forall_mem_append.mpr ⟨lw_r1, List.forall_mem_append.mpr ⟨lw_r2, lw_r3⟩⟩
def RX0 : String := "ShyStrip$Deeds"
def TX0 : u_T := fun k => match k with
  | 0 => ("ShyStrip$Deeds", "westBy", "[I", true)
  | 1 => ("ShyStrip$Deeds", "eastBy", "[I", true)
  | 2 => ("ShyStrip$Deeds", "yearBy", "[I", true)
  | 3 => ("ShyStrip$Deeds", "walker", "[I", true)
  | 4 => ("ShyStrip$Deeds", "walkBy", "[I", true)
  | _ => ("ShyStrip$Deeds", "number", "I", false)
def tyX0 : Nat → FieldType := fun k => match k with
  | 0 => .array .int
  | 1 => .array .int
  | 2 => .array .int
  | 3 => .array .int
  | 4 => .array .int
  | _ => .int
abbrev wsX00 : List Cond := u_ws RX0 TX0 6
theorem nmX0 : ∀ a, a < 6 → ∀ b, b < 6 → a ≠ b → (TX0 a).2.1 ≠ (TX0 b).2.1 := by decide +kernel
theorem tyX0_ok : ∀ k, k < 6 → parseFieldDescriptor (TX0 k).2.2.1 = some (tyX0 k) := by decide +kernel
abbrev cX0_init : ByteArray := prog_2_method_1_code
def yX0_init : MethodName := ⟨RX0, "<init>", "()V"⟩
abbrev cX0_becomeAs : ByteArray := prog_2_method_2_code
def yX0_becomeAs : MethodName := ⟨RX0, "becomeAs", "(LShyStrip$Deeds;)V"⟩
def RX1 : String := "ShyStrip$Land"
def TX1 : u_T := fun k => match k with
  | 0 => ("ShyStrip$Land", "cells", "I", false)
  | 1 => ("ShyStrip$Land", "west", "I", false)
  | 2 => ("ShyStrip$Land", "east", "I", false)
  | 3 => ("ShyStrip$Land", "firstWest", "I", false)
  | 4 => ("ShyStrip$Land", "firstEast", "I", false)
  | 5 => ("ShyStrip$Land", "westLaws", "I", false)
  | 6 => ("ShyStrip$Land", "eastLaws", "I", false)
  | 7 => ("ShyStrip$Land", "year", "I", false)
  | 8 => ("ShyStrip$Land", "people", "I", false)
  | 9 => ("ShyStrip$Land", "kind", "[I", true)
  | 10 => ("ShyStrip$Land", "cell", "[I", true)
  | 11 => ("ShyStrip$Land", "firstCell", "[I", true)
  | 12 => ("ShyStrip$Land", "toldVotes", "[I", true)
  | 13 => ("ShyStrip$Land", "would", "[I", true)
  | _ => ("ShyStrip$Land", "deeds", "LShyStrip$Deeds;", true)
def tyX1 : Nat → FieldType := fun k => match k with
  | 0 => .int
  | 1 => .int
  | 2 => .int
  | 3 => .int
  | 4 => .int
  | 5 => .int
  | 6 => .int
  | 7 => .int
  | 8 => .int
  | 9 => .array .int
  | 10 => .array .int
  | 11 => .array .int
  | 12 => .array .int
  | 13 => .array .int
  | _ => .object "ShyStrip$Deeds"
abbrev wsX10 : List Cond := u_ws RX1 TX1 15
theorem nmX1 : ∀ a, a < 15 → ∀ b, b < 15 → a ≠ b → (TX1 a).2.1 ≠ (TX1 b).2.1 := by decide +kernel
theorem tyX1_ok : ∀ k, k < 15 → parseFieldDescriptor (TX1 k).2.2.1 = some (tyX1 k) := by decide +kernel
abbrev cX1_init : ByteArray := prog_3_method_1_code
def yX1_init : MethodName := ⟨RX1, "<init>", "()V"⟩
abbrev cX1_isThere : ByteArray := prog_3_method_2_code
def yX1_isThere : MethodName := ⟨RX1, "isThere", "()Z"⟩
abbrev cX1_hasCell : ByteArray := prog_3_method_3_code
def yX1_hasCell : MethodName := ⟨RX1, "hasCell", "(I)Z"⟩
abbrev cX1_hasOne : ByteArray := prog_3_method_4_code
def yX1_hasOne : MethodName := ⟨RX1, "hasOne", "(I)Z"⟩
abbrev cX1_hasRoomFor : ByteArray := prog_3_method_5_code
def yX1_hasRoomFor : MethodName := ⟨RX1, "hasRoomFor", "(I)Z"⟩
abbrev cX1_canBeCoasts : ByteArray := prog_3_method_6_code
def yX1_canBeCoasts : MethodName := ⟨RX1, "canBeCoasts", "(II)Z"⟩
abbrev cX1_strip : ByteArray := prog_3_method_7_code
def yX1_strip : MethodName := ⟨RX1, "strip", "()I"⟩
abbrev cX1_coasts : ByteArray := prog_3_method_8_code
def yX1_coasts : MethodName := ⟨RX1, "coasts", "()I"⟩
abbrev cX1_becomeAs : ByteArray := prog_3_method_9_code
def yX1_becomeAs : MethodName := ⟨RX1, "becomeAs", "(LShyStrip$Land;)V"⟩
abbrev cX1_isOf : ByteArray := prog_3_method_10_code
def yX1_isOf : MethodName := ⟨RX1, "isOf", "(II)Z"⟩
abbrev cX1_ladies : ByteArray := prog_3_method_11_code
def yX1_ladies : MethodName := ⟨RX1, "ladies", "()I"⟩
abbrev cX1_votes : ByteArray := prog_3_method_12_code
def yX1_votes : MethodName := ⟨RX1, "votes", "(I)I"⟩
abbrev cX1_wouldBelong : ByteArray := prog_3_method_13_code
def yX1_wouldBelong : MethodName := ⟨RX1, "wouldBelong", "(IIIII)Z"⟩
abbrev cX1_belongs : ByteArray := prog_3_method_14_code
def yX1_belongs : MethodName := ⟨RX1, "belongs", "(I)Z"⟩
abbrev cX1_belonging : ByteArray := prog_3_method_15_code
def yX1_belonging : MethodName := ⟨RX1, "belonging", "(II)I"⟩
abbrev cX1_votesOf : ByteArray := prog_3_method_16_code
def yX1_votesOf : MethodName := ⟨RX1, "votesOf", "(I)I"⟩
abbrev cX1_mostVotesIn : ByteArray := prog_3_method_17_code
def yX1_mostVotesIn : MethodName := ⟨RX1, "mostVotesIn", "(I)I"⟩
abbrev cX1_votesBelonging : ByteArray := prog_3_method_18_code
def yX1_votesBelonging : MethodName := ⟨RX1, "votesBelonging", "(II)I"⟩
abbrev cX1_votesOfWest : ByteArray := prog_3_method_19_code
def yX1_votesOfWest : MethodName := ⟨RX1, "votesOfWest", "(II)I"⟩
abbrev cX1_votesOfEast : ByteArray := prog_3_method_20_code
def yX1_votesOfEast : MethodName := ⟨RX1, "votesOfEast", "(II)I"⟩
abbrev cX1_votesOfStrangers : ByteArray := prog_3_method_21_code
def yX1_votesOfStrangers : MethodName := ⟨RX1, "votesOfStrangers", "(IIII)I"⟩
abbrev cX1_votesFor : ByteArray := prog_3_method_22_code
def yX1_votesFor : MethodName := ⟨RX1, "votesFor", "(I)I"⟩
abbrev cX1_farFromStrip : ByteArray := prog_3_method_23_code
def yX1_farFromStrip : MethodName := ⟨RX1, "farFromStrip", "(I)I"⟩
abbrev cX1_othersWith : ByteArray := prog_3_method_24_code
def yX1_othersWith : MethodName := ⟨RX1, "othersWith", "(I)I"⟩
abbrev cX1_canMove : ByteArray := prog_3_method_25_code
def yX1_canMove : MethodName := ⟨RX1, "canMove", "(IIII)Z"⟩
abbrev cX1_yearOn : ByteArray := prog_3_method_26_code
def yX1_yearOn : MethodName := ⟨RX1, "yearOn", "(I)I"⟩
abbrev cX1_act : ByteArray := prog_3_method_27_code
def yX1_act : MethodName := ⟨RX1, "act", "(IIIII)V"⟩
abbrev cX1_takeBack : ByteArray := prog_3_method_28_code
def yX1_takeBack : MethodName := ⟨RX1, "takeBack", "(I)V"⟩
abbrev cX1_passYear : ByteArray := prog_3_method_29_code
def yX1_passYear : MethodName := ⟨RX1, "passYear", "()V"⟩
abbrev cX1_walkByLot : ByteArray := prog_3_method_30_code
def yX1_walkByLot : MethodName := ⟨RX1, "walkByLot", "(II)V"⟩
abbrev cX1_enterLong : ByteArray := prog_3_method_31_code
def yX1_enterLong : MethodName := ⟨RX1, "enterLong", "(I)I"⟩
abbrev cX1_wayLong : ByteArray := prog_3_method_32_code
def yX1_wayLong : MethodName := ⟨RX1, "wayLong", "(II)I"⟩
abbrev cX1_farLong : ByteArray := prog_3_method_33_code
def yX1_farLong : MethodName := ⟨RX1, "farLong", "(I)I"⟩
def RX2 : String := "ShyStrip$Reader"
def TX2 : u_T := fun k => match k with
  | _ => ("ShyStrip$Reader", "place", "I", false)
def tyX2 : Nat → FieldType := fun k => match k with
  | _ => .int
abbrev wsX20 : List Cond := u_ws RX2 TX2 1
theorem nmX2 : ∀ a, a < 1 → ∀ b, b < 1 → a ≠ b → (TX2 a).2.1 ≠ (TX2 b).2.1 := by decide +kernel
theorem tyX2_ok : ∀ k, k < 1 → parseFieldDescriptor (TX2 k).2.2.1 = some (tyX2 k) := by decide +kernel
abbrev cX2_init : ByteArray := prog_4_method_1_code
def yX2_init : MethodName := ⟨RX2, "<init>", "()V"⟩
abbrev cX2_read : ByteArray := prog_4_method_2_code
def yX2_read : MethodName := ⟨RX2, "read", "(LShyStrip$Row;LShyStrip$Land;)Z"⟩
abbrev cX2_readSides : ByteArray := prog_4_method_3_code
def yX2_readSides : MethodName := ⟨RX2, "readSides", "(LShyStrip$Row;LShyStrip$Land;)Z"⟩
abbrev cX2_readPeople : ByteArray := prog_4_method_4_code
def yX2_readPeople : MethodName := ⟨RX2, "readPeople", "(LShyStrip$Row;LShyStrip$Land;)Z"⟩
abbrev cX2_readOne : ByteArray := prog_4_method_5_code
def yX2_readOne : MethodName := ⟨RX2, "readOne", "(LShyStrip$Row;LShyStrip$Land;)Z"⟩
abbrev cX2_skipBlanks : ByteArray := prog_4_method_6_code
def yX2_skipBlanks : MethodName := ⟨RX2, "skipBlanks", "(LShyStrip$Row;)V"⟩
abbrev cX2_here : ByteArray := prog_4_method_7_code
def yX2_here : MethodName := ⟨RX2, "here", "(LShyStrip$Row;)I"⟩
abbrev cX2_figure : ByteArray := prog_4_method_8_code
def yX2_figure : MethodName := ⟨RX2, "figure", "(LShyStrip$Row;II)I"⟩
abbrev cX2_kindOf : ByteArray := prog_4_method_9_code
def yX2_kindOf : MethodName := ⟨RX2, "kindOf", "(I)I"⟩
def RX3 : String := "ShyStrip$Row"
def TX3 : u_T := fun k => match k with
  | 0 => ("ShyStrip$Row", "places", "[I", true)
  | _ => ("ShyStrip$Row", "size", "I", false)
def tyX3 : Nat → FieldType := fun k => match k with
  | 0 => .array .int
  | _ => .int
abbrev wsX30 : List Cond := u_ws RX3 TX3 2
theorem nmX3 : ∀ a, a < 2 → ∀ b, b < 2 → a ≠ b → (TX3 a).2.1 ≠ (TX3 b).2.1 := by decide +kernel
theorem tyX3_ok : ∀ k, k < 2 → parseFieldDescriptor (TX3 k).2.2.1 = some (tyX3 k) := by decide +kernel
abbrev cX3_init : ByteArray := prog_5_method_1_code
def yX3_init : MethodName := ⟨RX3, "<init>", "([I)V"⟩
abbrev cX3_isMissing : ByteArray := prog_5_method_2_code
def yX3_isMissing : MethodName := ⟨RX3, "isMissing", "()Z"⟩
abbrev cX3_hasPlace : ByteArray := prog_5_method_3_code
def yX3_hasPlace : MethodName := ⟨RX3, "hasPlace", "(I)Z"⟩
abbrev cX3_hasRun : ByteArray := prog_5_method_4_code
def yX3_hasRun : MethodName := ⟨RX3, "hasRun", "(II)Z"⟩
abbrev cX3_layAnew : ByteArray := prog_5_method_5_code
def yX3_layAnew : MethodName := ⟨RX3, "layAnew", "(II)V"⟩
abbrev cX3_sum : ByteArray := prog_5_method_6_code
def yX3_sum : MethodName := ⟨RX3, "sum", "()J"⟩
abbrev cX3_digestOn : ByteArray := prog_5_method_7_code
def yX3_digestOn : MethodName := ⟨RX3, "digestOn", "(J)J"⟩
def RX4 : String := "ShyStrip"
def TX4 : u_T := fun k => match k with
  | 0 => ("ShyStrip", "rows", "[LShyStrip$Row;", true)
  | 1 => ("ShyStrip", "texts", "[LShyStrip$Row;", true)
  | 2 => ("ShyStrip", "land", "LShyStrip$Land;", true)
  | 3 => ("ShyStrip", "kept", "[LShyStrip$Land;", true)
  | 4 => ("ShyStrip", "draft", "LShyStrip$Land;", true)
  | 5 => ("ShyStrip", "reader", "LShyStrip$Reader;", true)
  | 6 => ("ShyStrip", "coastsSeen", "[I", true)
  | 7 => ("ShyStrip", "found", "[I", true)
  | 8 => ("ShyStrip", "latestFound", "I", false)
  | 9 => ("ShyStrip", "asked", "I", false)
  | 10 => ("ShyStrip", "upper", "J", false)
  | _ => ("ShyStrip", "lower", "J", false)
def tyX4 : Nat → FieldType := fun k => match k with
  | 0 => .array (.object "ShyStrip$Row")
  | 1 => .array (.object "ShyStrip$Row")
  | 2 => .object "ShyStrip$Land"
  | 3 => .array (.object "ShyStrip$Land")
  | 4 => .object "ShyStrip$Land"
  | 5 => .object "ShyStrip$Reader"
  | 6 => .array .int
  | 7 => .array .int
  | 8 => .int
  | 9 => .int
  | 10 => .long
  | _ => .long
abbrev wsX40 : List Cond := u_ws RX4 TX4 12
theorem nmX4 : ∀ a, a < 12 → ∀ b, b < 12 → a ≠ b → (TX4 a).2.1 ≠ (TX4 b).2.1 := by decide +kernel
theorem tyX4_ok : ∀ k, k < 12 → parseFieldDescriptor (TX4 k).2.2.1 = some (tyX4 k) := by decide +kernel
abbrev cX4_init : ByteArray := prog_1_method_1_code
def yX4_init : MethodName := ⟨RX4, "<init>", "()V"⟩
abbrev cX4_row : ByteArray := prog_1_method_2_code
def yX4_row : MethodName := ⟨RX4, "row", "(II)I"⟩
abbrev cX4_lay : ByteArray := prog_1_method_3_code
def yX4_lay : MethodName := ⟨RX4, "lay", "(III)I"⟩
abbrev cX4_at : ByteArray := prog_1_method_4_code
def yX4_at : MethodName := ⟨RX4, "at", "(II)I"⟩
abbrev cX4_tear : ByteArray := prog_1_method_5_code
def yX4_tear : MethodName := ⟨RX4, "tear", "(I)I"⟩
abbrev cX4_copy : ByteArray := prog_1_method_6_code
def yX4_copy : MethodName := ⟨RX4, "copy", "(IIIII)I"⟩
abbrev cX4_mean : ByteArray := prog_1_method_7_code
def yX4_mean : MethodName := ⟨RX4, "mean", "(I)I"⟩
abbrev cX4_text : ByteArray := prog_1_method_8_code
def yX4_text : MethodName := ⟨RX4, "text", "(II)I"⟩
abbrev cX4_put : ByteArray := prog_1_method_9_code
def yX4_put : MethodName := ⟨RX4, "put", "(III)I"⟩
abbrev cX4_fault : ByteArray := prog_1_method_10_code
def yX4_fault : MethodName := ⟨RX4, "fault", "(I)I"⟩
abbrev cX4_land : ByteArray := prog_1_method_11_code
def yX4_land : MethodName := ⟨RX4, "land", "(I)I"⟩
abbrev cX4_one : ByteArray := prog_1_method_12_code
def yX4_one : MethodName := ⟨RX4, "one", "(II)I"⟩
abbrev cX4_mark : ByteArray := prog_1_method_13_code
def yX4_mark : MethodName := ⟨RX4, "mark", "(II)I"⟩
abbrev cX4_coast : ByteArray := prog_1_method_14_code
def yX4_coast : MethodName := ⟨RX4, "coast", "(I)I"⟩
abbrev cX4_year : ByteArray := prog_1_method_15_code
def yX4_year : MethodName := ⟨RX4, "year", "()I"⟩
abbrev cX4_step : ByteArray := prog_1_method_16_code
def yX4_step : MethodName := ⟨RX4, "step", "(II)I"⟩
abbrev cX4_walk : ByteArray := prog_1_method_17_code
def yX4_walk : MethodName := ⟨RX4, "walk", "(II)I"⟩
abbrev cX4_undo : ByteArray := prog_1_method_18_code
def yX4_undo : MethodName := ⟨RX4, "undo", "(I)I"⟩
abbrev cX4_keep : ByteArray := prog_1_method_19_code
def yX4_keep : MethodName := ⟨RX4, "keep", "(I)I"⟩
abbrev cX4_on : ByteArray := prog_1_method_20_code
def yX4_on : MethodName := ⟨RX4, "on", "(I)I"⟩
abbrev cX4_belong : ByteArray := prog_1_method_21_code
def yX4_belong : MethodName := ⟨RX4, "belong", "()I"⟩
abbrev cX4_laws : ByteArray := prog_1_method_22_code
def yX4_laws : MethodName := ⟨RX4, "laws", "()I"⟩
abbrev cX4_seats : ByteArray := prog_1_method_23_code
def yX4_seats : MethodName := ⟨RX4, "seats", "(II)I"⟩
abbrev cX4_fewest : ByteArray := prog_1_method_24_code
def yX4_fewest : MethodName := ⟨RX4, "fewest", "()I"⟩
abbrev cX4_then : ByteArray := prog_1_method_25_code
def yX4_then : MethodName := ⟨RX4, "then", "(I)I"⟩
abbrev cX4_when : ByteArray := prog_1_method_26_code
def yX4_when : MethodName := ⟨RX4, "when", "(II)I"⟩
abbrev cX4_round : ByteArray := prog_1_method_27_code
def yX4_round : MethodName := ⟨RX4, "round", "()I"⟩
abbrev cX4_duel : ByteArray := prog_1_method_28_code
def yX4_duel : MethodName := ⟨RX4, "duel", "(I)I"⟩
abbrev cX4_peace : ByteArray := prog_1_method_29_code
def yX4_peace : MethodName := ⟨RX4, "peace", "(II)I"⟩
abbrev cX4_way : ByteArray := prog_1_method_30_code
def yX4_way : MethodName := ⟨RX4, "way", "(II)I"⟩
abbrev cX4_far : ByteArray := prog_1_method_31_code
def yX4_far : MethodName := ⟨RX4, "far", "(I)I"⟩
abbrev cX4_kinds : ByteArray := prog_1_method_32_code
def yX4_kinds : MethodName := ⟨RX4, "kinds", "(II)I"⟩
abbrev cX4_spots : ByteArray := prog_1_method_33_code
def yX4_spots : MethodName := ⟨RX4, "spots", "(II)I"⟩
abbrev cX4_odds : ByteArray := prog_1_method_34_code
def yX4_odds : MethodName := ⟨RX4, "odds", "(II)I"⟩
abbrev cX4_mid : ByteArray := prog_1_method_35_code
def yX4_mid : MethodName := ⟨RX4, "mid", "(I)I"⟩
abbrev cX4_lots : ByteArray := prog_1_method_36_code
def yX4_lots : MethodName := ⟨RX4, "lots", "(II)I"⟩
abbrev cX4_asked : ByteArray := prog_1_method_37_code
def yX4_asked : MethodName := ⟨RX4, "asked", "()I"⟩
abbrev cX4_upper : ByteArray := prog_1_method_38_code
def yX4_upper : MethodName := ⟨RX4, "upper", "()J"⟩
abbrev cX4_lower : ByteArray := prog_1_method_39_code
def yX4_lower : MethodName := ⟨RX4, "lower", "()J"⟩
abbrev cX4_count : ByteArray := prog_1_method_40_code
def yX4_count : MethodName := ⟨RX4, "count", "(I)I"⟩
abbrev cX4_finding : ByteArray := prog_1_method_41_code
def yX4_finding : MethodName := ⟨RX4, "finding", "()I"⟩
abbrev cX4_findings : ByteArray := prog_1_method_42_code
def yX4_findings : MethodName := ⟨RX4, "findings", "(I)I"⟩
abbrev cX4_digest : ByteArray := prog_1_method_43_code
def yX4_digest : MethodName := ⟨RX4, "digest", "()J"⟩
abbrev cX4_isRow : ByteArray := prog_1_method_44_code
def yX4_isRow : MethodName := ⟨RX4, "isRow", "(I)Z"⟩
abbrev cX4_isText : ByteArray := prog_1_method_45_code
def yX4_isText : MethodName := ⟨RX4, "isText", "(I)Z"⟩
abbrev cX4_isKept : ByteArray := prog_1_method_46_code
def yX4_isKept : MethodName := ⟨RX4, "isKept", "(I)Z"⟩
abbrev cX4_refuse : ByteArray := prog_1_method_47_code
def yX4_refuse : MethodName := ⟨RX4, "refuse", "(I)I"⟩
abbrev cX4_refuseMissing : ByteArray := prog_1_method_48_code
def yX4_refuseMissing : MethodName := ⟨RX4, "refuseMissing", "([LShyStrip$Row;I)I"⟩
abbrev cX4_refusePlace : ByteArray := prog_1_method_49_code
def yX4_refusePlace : MethodName := ⟨RX4, "refusePlace", "([LShyStrip$Row;II)I"⟩
abbrev cX4_ofOne : ByteArray := prog_1_method_50_code
def yX4_ofOne : MethodName := ⟨RX4, "ofOne", "(II)I"⟩
abbrev cX4_thereOf : ByteArray := prog_1_method_51_code
def yX4_thereOf : MethodName := ⟨RX4, "thereOf", "([LShyStrip$Row;)I"⟩
abbrev cX4_keptLands : ByteArray := prog_1_method_52_code
def yX4_keptLands : MethodName := ⟨RX4, "keptLands", "()I"⟩
abbrev cX4_nextSeated : ByteArray := prog_1_method_53_code
def yX4_nextSeated : MethodName := ⟨RX4, "nextSeated", "(LShyStrip$Row;)I"⟩
abbrev cX4_votesByTurns : ByteArray := prog_1_method_54_code
def yX4_votesByTurns : MethodName := ⟨RX4, "votesByTurns", "(LShyStrip$Land;IIII)I"⟩
abbrev cX4_betterFor : ByteArray := prog_1_method_55_code
def yX4_betterFor : MethodName := ⟨RX4, "betterFor", "(III)I"⟩
abbrev cX4_shareCrowns : ByteArray := prog_1_method_56_code
def yX4_shareCrowns : MethodName := ⟨RX4, "shareCrowns", "(IILShyStrip$Row;)V"⟩
abbrev cX4_isWronged : ByteArray := prog_1_method_57_code
def yX4_isWronged : MethodName := ⟨RX4, "isWronged", "(ILShyStrip$Row;)Z"⟩
abbrev cX4_refusePapers : ByteArray := prog_1_method_58_code
def yX4_refusePapers : MethodName := ⟨RX4, "refusePapers", "(II)I"⟩
abbrev cX4_agrees : ByteArray := prog_1_method_59_code
def yX4_agrees : MethodName := ⟨RX4, "agrees", "(IIILShyStrip$Row;)Z"⟩
abbrev cX4_waysToBeHere : ByteArray := prog_1_method_60_code
def yX4_waysToBeHere : MethodName := ⟨RX4, "waysToBeHere", "(III)J"⟩
abbrev cX4_power : ByteArray := prog_1_method_61_code
def yX4_power : MethodName := ⟨RX4, "power", "(II)J"⟩
abbrev cX4_tellFraction : ByteArray := prog_1_method_62_code
def yX4_tellFraction : MethodName := ⟨RX4, "tellFraction", "(JJ)V"⟩
abbrev cX4_coastsOf : ByteArray := prog_1_method_63_code
def yX4_coastsOf : MethodName := ⟨RX4, "coastsOf", "(II)I"⟩
abbrev cX4_westOf : ByteArray := prog_1_method_64_code
def yX4_westOf : MethodName := ⟨RX4, "westOf", "(I)I"⟩
abbrev cX4_eastOf : ByteArray := prog_1_method_65_code
def yX4_eastOf : MethodName := ⟨RX4, "eastOf", "(I)I"⟩
abbrev cX4_middleOf : ByteArray := prog_1_method_66_code
def yX4_middleOf : MethodName := ⟨RX4, "middleOf", "(II)I"⟩
def RX5 : String := "ShyStripModel"
def TX5 : u_T := fun k => match k with
  | 0 => ("ShyStripModel", "sizes", "[I", true)
  | 1 => ("ShyStripModel", "items", "[I", true)
  | 2 => ("ShyStripModel", "spare", "[I", true)
  | 3 => ("ShyStripModel", "lengths", "[I", true)
  | 4 => ("ShyStripModel", "bytes", "[I", true)
  | 5 => ("ShyStripModel", "now", "[I", true)
  | 6 => ("ShyStripModel", "draft", "[I", true)
  | 7 => ("ShyStripModel", "kept", "[I", true)
  | 8 => ("ShyStripModel", "isKept", "[Z", true)
  | 9 => ("ShyStripModel", "found", "[I", true)
  | 10 => ("ShyStripModel", "finding", "I", false)
  | 11 => ("ShyStripModel", "asked", "I", false)
  | 12 => ("ShyStripModel", "upper", "J", false)
  | 13 => ("ShyStripModel", "lower", "J", false)
  | 14 => ("ShyStripModel", "shares", "[I", true)
  | 15 => ("ShyStripModel", "years", "[I", true)
  | 16 => ("ShyStripModel", "move", "[I", true)
  | 17 => ("ShyStripModel", "best", "[I", true)
  | 18 => ("ShyStripModel", "coastW", "[I", true)
  | 19 => ("ShyStripModel", "coastE", "[I", true)
  | 20 => ("ShyStripModel", "place", "I", false)
  | _ => ("ShyStripModel", "isWell", "Z", false)
def tyX5 : Nat → FieldType := fun k => match k with
  | 0 => .array .int
  | 1 => .array .int
  | 2 => .array .int
  | 3 => .array .int
  | 4 => .array .int
  | 5 => .array .int
  | 6 => .array .int
  | 7 => .array .int
  | 8 => .array .boolean
  | 9 => .array .int
  | 10 => .int
  | 11 => .int
  | 12 => .long
  | 13 => .long
  | 14 => .array .int
  | 15 => .array .int
  | 16 => .array .int
  | 17 => .array .int
  | 18 => .array .int
  | 19 => .array .int
  | 20 => .int
  | _ => .boolean
abbrev wsX50 : List Cond := u_ws RX5 TX5 22
theorem nmX5 : ∀ a, a < 22 → ∀ b, b < 22 → a ≠ b → (TX5 a).2.1 ≠ (TX5 b).2.1 := by decide +kernel
theorem tyX5_ok : ∀ k, k < 22 → parseFieldDescriptor (TX5 k).2.2.1 = some (tyX5 k) := by decide +kernel
abbrev cX5_init : ByteArray := prog_7_method_1_code
def yX5_init : MethodName := ⟨RX5, "<init>", "()V"⟩
abbrev cX5_in : ByteArray := prog_7_method_3_code
def yX5_in : MethodName := ⟨RX5, "in", "(III)Z"⟩
abbrev cX5_has : ByteArray := prog_7_method_4_code
def yX5_has : MethodName := ⟨RX5, "has", "(II)Z"⟩
abbrev cX5_ones : ByteArray := prog_7_method_5_code
def yX5_ones : MethodName := ⟨RX5, "ones", "(I)I"⟩
abbrev cX5_off : ByteArray := prog_7_method_6_code
def yX5_off : MethodName := ⟨RX5, "off", "(II)I"⟩
abbrev cX5_finds : ByteArray := prog_7_method_7_code
def yX5_finds : MethodName := ⟨RX5, "finds", "(I)I"⟩
abbrev cX5_tells : ByteArray := prog_7_method_8_code
def yX5_tells : MethodName := ⟨RX5, "tells", "(II)I"⟩
abbrev cX5_tellsParts : ByteArray := prog_7_method_9_code
def yX5_tellsParts : MethodName := ⟨RX5, "tellsParts", "(JJ)I"⟩
abbrev cX5_isRow : ByteArray := prog_7_method_10_code
def yX5_isRow : MethodName := ⟨RX5, "isRow", "(I)Z"⟩
abbrev cX5_isText : ByteArray := prog_7_method_11_code
def yX5_isText : MethodName := ⟨RX5, "isText", "(I)Z"⟩
abbrev cX5_lays : ByteArray := prog_7_method_12_code
def yX5_lays : MethodName := ⟨RX5, "lays", "(II)V"⟩
abbrev cX5_row : ByteArray := prog_7_method_13_code
def yX5_row : MethodName := ⟨RX5, "row", "(II)I"⟩
abbrev cX5_lay : ByteArray := prog_7_method_14_code
def yX5_lay : MethodName := ⟨RX5, "lay", "(III)I"⟩
abbrev cX5_at : ByteArray := prog_7_method_15_code
def yX5_at : MethodName := ⟨RX5, "at", "(II)I"⟩
abbrev cX5_tear : ByteArray := prog_7_method_16_code
def yX5_tear : MethodName := ⟨RX5, "tear", "(I)I"⟩
abbrev cX5_copy : ByteArray := prog_7_method_17_code
def yX5_copy : MethodName := ⟨RX5, "copy", "(IIIII)I"⟩
abbrev cX5_mean : ByteArray := prog_7_method_18_code
def yX5_mean : MethodName := ⟨RX5, "mean", "(I)I"⟩
abbrev cX5_text : ByteArray := prog_7_method_19_code
def yX5_text : MethodName := ⟨RX5, "text", "(II)I"⟩
abbrev cX5_put : ByteArray := prog_7_method_20_code
def yX5_put : MethodName := ⟨RX5, "put", "(III)I"⟩
abbrev cX5_look : ByteArray := prog_7_method_21_code
def yX5_look : MethodName := ⟨RX5, "look", "(I)I"⟩
abbrev cX5_skips : ByteArray := prog_7_method_22_code
def yX5_skips : MethodName := ⟨RX5, "skips", "(I)V"⟩
abbrev cX5_figure : ByteArray := prog_7_method_23_code
def yX5_figure : MethodName := ⟨RX5, "figure", "(III)I"⟩
abbrev cX5_kindOf : ByteArray := prog_7_method_24_code
def yX5_kindOf : MethodName := ⟨RX5, "kindOf", "(I)I"⟩
abbrev cX5_readsHead : ByteArray := prog_7_method_25_code
def yX5_readsHead : MethodName := ⟨RX5, "readsHead", "(I)V"⟩
abbrev cX5_readsOne : ByteArray := prog_7_method_26_code
def yX5_readsOne : MethodName := ⟨RX5, "readsOne", "(I)V"⟩
abbrev cX5_reads : ByteArray := prog_7_method_27_code
def yX5_reads : MethodName := ⟨RX5, "reads", "(I)I"⟩
abbrev cX5_fault : ByteArray := prog_7_method_28_code
def yX5_fault : MethodName := ⟨RX5, "fault", "(I)I"⟩
abbrev cX5_copies : ByteArray := prog_7_method_29_code
def yX5_copies : MethodName := ⟨RX5, "copies", "([II[II)V"⟩
abbrev cX5_land : ByteArray := prog_7_method_30_code
def yX5_land : MethodName := ⟨RX5, "land", "(I)I"⟩
abbrev cX5_isOne : ByteArray := prog_7_method_31_code
def yX5_isOne : MethodName := ⟨RX5, "isOne", "(I)Z"⟩
abbrev cX5_are : ByteArray := prog_7_method_32_code
def yX5_are : MethodName := ⟨RX5, "are", "()Z"⟩
abbrev cX5_isCell : ByteArray := prog_7_method_33_code
def yX5_isCell : MethodName := ⟨RX5, "isCell", "(I)Z"⟩
abbrev cX5_areCoasts : ByteArray := prog_7_method_34_code
def yX5_areCoasts : MethodName := ⟨RX5, "areCoasts", "(II)Z"⟩
abbrev cX5_isOf : ByteArray := prog_7_method_35_code
def yX5_isOf : MethodName := ⟨RX5, "isOf", "(II)Z"⟩
abbrev cX5_belongsBy : ByteArray := prog_7_method_36_code
def yX5_belongsBy : MethodName := ⟨RX5, "belongsBy", "(IIIII)Z"⟩
abbrev cX5_belongs : ByteArray := prog_7_method_37_code
def yX5_belongs : MethodName := ⟨RX5, "belongs", "(III)Z"⟩
abbrev cX5_votesOf : ByteArray := prog_7_method_38_code
def yX5_votesOf : MethodName := ⟨RX5, "votesOf", "(I)I"⟩
abbrev cX5_belongers : ByteArray := prog_7_method_39_code
def yX5_belongers : MethodName := ⟨RX5, "belongers", "(II)I"⟩
abbrev cX5_belongersNow : ByteArray := prog_7_method_40_code
def yX5_belongersNow : MethodName := ⟨RX5, "belongersNow", "()I"⟩
abbrev cX5_votesIn : ByteArray := prog_7_method_41_code
def yX5_votesIn : MethodName := ⟨RX5, "votesIn", "(I)I"⟩
abbrev cX5_votesOut : ByteArray := prog_7_method_42_code
def yX5_votesOut : MethodName := ⟨RX5, "votesOut", "(IIII)I"⟩
abbrev cX5_oneHas : ByteArray := prog_7_method_43_code
def yX5_oneHas : MethodName := ⟨RX5, "oneHas", "(II)I"⟩
abbrev cX5_one : ByteArray := prog_7_method_44_code
def yX5_one : MethodName := ⟨RX5, "one", "(II)I"⟩
abbrev cX5_distance : ByteArray := prog_7_method_45_code
def yX5_distance : MethodName := ⟨RX5, "distance", "(I)I"⟩
abbrev cX5_mark : ByteArray := prog_7_method_46_code
def yX5_mark : MethodName := ⟨RX5, "mark", "(II)I"⟩
abbrev cX5_coastHas : ByteArray := prog_7_method_47_code
def yX5_coastHas : MethodName := ⟨RX5, "coastHas", "(I)I"⟩
abbrev cX5_coast : ByteArray := prog_7_method_48_code
def yX5_coast : MethodName := ⟨RX5, "coast", "(I)I"⟩
abbrev cX5_notes : ByteArray := prog_7_method_49_code
def yX5_notes : MethodName := ⟨RX5, "notes", "()V"⟩
abbrev cX5_later : ByteArray := prog_7_method_50_code
def yX5_later : MethodName := ⟨RX5, "later", "(II)I"⟩
abbrev cX5_ages : ByteArray := prog_7_method_51_code
def yX5_ages : MethodName := ⟨RX5, "ages", "()V"⟩
abbrev cX5_year : ByteArray := prog_7_method_52_code
def yX5_year : MethodName := ⟨RX5, "year", "()I"⟩
abbrev cX5_step : ByteArray := prog_7_method_53_code
def yX5_step : MethodName := ⟨RX5, "step", "(II)I"⟩
abbrev cX5_walk : ByteArray := prog_7_method_54_code
def yX5_walk : MethodName := ⟨RX5, "walk", "(II)I"⟩
abbrev cX5_undo : ByteArray := prog_7_method_55_code
def yX5_undo : MethodName := ⟨RX5, "undo", "(I)I"⟩
abbrev cX5_keep : ByteArray := prog_7_method_56_code
def yX5_keep : MethodName := ⟨RX5, "keep", "(I)I"⟩
abbrev cX5_on : ByteArray := prog_7_method_57_code
def yX5_on : MethodName := ⟨RX5, "on", "(I)I"⟩
abbrev cX5_belong : ByteArray := prog_7_method_58_code
def yX5_belong : MethodName := ⟨RX5, "belong", "()I"⟩
abbrev cX5_laws : ByteArray := prog_7_method_59_code
def yX5_laws : MethodName := ⟨RX5, "laws", "()I"⟩
abbrev cX5_laysShares : ByteArray := prog_7_method_60_code
def yX5_laysShares : MethodName := ⟨RX5, "laysShares", "(I)V"⟩
abbrev cX5_seats : ByteArray := prog_7_method_61_code
def yX5_seats : MethodName := ⟨RX5, "seats", "(II)I"⟩
abbrev cX5_fewest : ByteArray := prog_7_method_62_code
def yX5_fewest : MethodName := ⟨RX5, "fewest", "()I"⟩
abbrev cX5_coastsIn : ByteArray := prog_7_method_63_code
def yX5_coastsIn : MethodName := ⟨RX5, "coastsIn", "(I)I"⟩
abbrev cX5_then : ByteArray := prog_7_method_64_code
def yX5_then : MethodName := ⟨RX5, "then", "(I)I"⟩
abbrev cX5_when : ByteArray := prog_7_method_65_code
def yX5_when : MethodName := ⟨RX5, "when", "(II)I"⟩
abbrev cX5_round : ByteArray := prog_7_method_66_code
def yX5_round : MethodName := ⟨RX5, "round", "()I"⟩
abbrev cX5_moves : ByteArray := prog_7_method_67_code
def yX5_moves : MethodName := ⟨RX5, "moves", "(I)Z"⟩
abbrev cX5_comes : ByteArray := prog_7_method_68_code
def yX5_comes : MethodName := ⟨RX5, "comes", "(II)V"⟩
abbrev cX5_duel : ByteArray := prog_7_method_69_code
def yX5_duel : MethodName := ⟨RX5, "duel", "(I)I"⟩
abbrev cX5_peace : ByteArray := prog_7_method_70_code
def yX5_peace : MethodName := ⟨RX5, "peace", "(II)I"⟩
abbrev cX5_costOf : ByteArray := prog_7_method_71_code
def yX5_costOf : MethodName := ⟨RX5, "costOf", "(I)I"⟩
abbrev cX5_wayTo : ByteArray := prog_7_method_72_code
def yX5_wayTo : MethodName := ⟨RX5, "wayTo", "(II)I"⟩
abbrev cX5_way : ByteArray := prog_7_method_73_code
def yX5_way : MethodName := ⟨RX5, "way", "(II)I"⟩
abbrev cX5_farFrom : ByteArray := prog_7_method_74_code
def yX5_farFrom : MethodName := ⟨RX5, "farFrom", "(I)I"⟩
abbrev cX5_far : ByteArray := prog_7_method_75_code
def yX5_far : MethodName := ⟨RX5, "far", "(I)I"⟩
abbrev cX5_barred : ByteArray := prog_7_method_76_code
def yX5_barred : MethodName := ⟨RX5, "barred", "(II)I"⟩
abbrev cX5_goesWith : ByteArray := prog_7_method_77_code
def yX5_goesWith : MethodName := ⟨RX5, "goesWith", "(IIII)Z"⟩
abbrev cX5_kinds : ByteArray := prog_7_method_78_code
def yX5_kinds : MethodName := ⟨RX5, "kinds", "(II)I"⟩
abbrev cX5_spots : ByteArray := prog_7_method_79_code
def yX5_spots : MethodName := ⟨RX5, "spots", "(II)I"⟩
abbrev cX5_waysOf : ByteArray := prog_7_method_80_code
def yX5_waysOf : MethodName := ⟨RX5, "waysOf", "(III)J"⟩
abbrev cX5_belowOf : ByteArray := prog_7_method_81_code
def yX5_belowOf : MethodName := ⟨RX5, "belowOf", "(I)J"⟩
abbrev cX5_odds : ByteArray := prog_7_method_82_code
def yX5_odds : MethodName := ⟨RX5, "odds", "(II)I"⟩
abbrev cX5_mid : ByteArray := prog_7_method_83_code
def yX5_mid : MethodName := ⟨RX5, "mid", "(I)I"⟩
abbrev cX5_lots : ByteArray := prog_7_method_84_code
def yX5_lots : MethodName := ⟨RX5, "lots", "(II)I"⟩
abbrev cX5_asked : ByteArray := prog_7_method_85_code
def yX5_asked : MethodName := ⟨RX5, "asked", "()I"⟩
abbrev cX5_upper : ByteArray := prog_7_method_86_code
def yX5_upper : MethodName := ⟨RX5, "upper", "()J"⟩
abbrev cX5_lower : ByteArray := prog_7_method_87_code
def yX5_lower : MethodName := ⟨RX5, "lower", "()J"⟩
abbrev cX5_count : ByteArray := prog_7_method_88_code
def yX5_count : MethodName := ⟨RX5, "count", "(I)I"⟩
abbrev cX5_finding : ByteArray := prog_7_method_89_code
def yX5_finding : MethodName := ⟨RX5, "finding", "()I"⟩
abbrev cX5_findings : ByteArray := prog_7_method_90_code
def yX5_findings : MethodName := ⟨RX5, "findings", "(I)I"⟩
abbrev cX5_digest : ByteArray := prog_7_method_91_code
def yX5_digest : MethodName := ⟨RX5, "digest", "()J"⟩
def RJ6 : String := "java/lang/Integer"
def TJ6 : u_T := fun k => match k with
  | _ => ("", "", "", false)
def tyJ6 : Nat → FieldType := fun k => match k with
  | _ => .int
abbrev cJ6_bitCount_0f7a4 : ByteArray := prog_8_method_49_code
def yJ6_bitCount_0f7a4 : MethodName := ⟨RJ6, "bitCount", "(I)I"⟩
def RJ9 : String := "java/lang/Math"
def TJ9 : u_T := fun k => match k with
  | _ => ("", "", "", false)
def tyJ9 : Nat → FieldType := fun k => match k with
  | _ => .int
abbrev cJ9_floorMod_7cf53 : ByteArray := prog_9_method_50_code
def yJ9_floorMod_7cf53 : MethodName := ⟨RJ9, "floorMod", "(II)I"⟩
abbrev cJ9_abs_0f7a4 : ByteArray := prog_9_method_59_code
def yJ9_abs_0f7a4 : MethodName := ⟨RJ9, "abs", "(I)I"⟩
abbrev cJ9_max_7cf53 : ByteArray := prog_9_method_65_code
def yJ9_max_7cf53 : MethodName := ⟨RJ9, "max", "(II)I"⟩
abbrev cJ9_min_7cf53 : ByteArray := prog_9_method_69_code
def yJ9_min_7cf53 : MethodName := ⟨RJ9, "min", "(II)I"⟩
def RJ10 : String := "java/lang/System"
def TJ10 : u_T := fun k => match k with
  | _ => ("", "", "", false)
def tyJ10 : Nat → FieldType := fun k => match k with
  | _ => .int
def RL : String := "ShyStripLaw"
abbrev cL_law : ByteArray := code
def yL_law : MethodName := ⟨RL, "law", "([I)Z"⟩
abbrev vwCl : List vw_C := [(RX0, TX0, 6), (RX1, TX1, 15), (RX2, TX2, 1), (RX3, TX3, 2), (RX4, TX4, 12), (RX5, TX5, 22)]
