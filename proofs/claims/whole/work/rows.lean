section
-- ===== PART A: goes FIRST, ahead of the names: the tables' words, and 'selects' of the private methods out of them =====
/-- a private method of a class that the tables say can be made, by its rows of tables_1 -/
def lw_okq (q : MethodName × Nat) : Prop := (q.1.cls ≠ "java/lang/invoke/MethodHandle" ∧ q.1.cls ≠ "java/lang/invoke/VarHandle") ∧ Cond.instantiable q.1.cls q.2 ∈ tables_1 ∧ Cond.privateMethod q.1 ∈ tables_1 ∧ Cond.instanceMethod q.1 ∈ tables_1
theorem lw_p0 : lw_okq (⟨"ShyStrip", "refuse", "(I)I"⟩, 12) := ⟨⟨by decide +kernel, by decide +kernel⟩, List.mem_of_getElem? (i := 11) (by decide +kernel), List.mem_of_getElem? (i := 206) (by decide +kernel), List.mem_of_getElem? (i := 207) (by decide +kernel)⟩
theorem lw_p1 : lw_okq (⟨"ShyStrip", "refusePlace", "([LShyStrip$Row;II)I"⟩, 12) := ⟨⟨by decide +kernel, by decide +kernel⟩, List.mem_of_getElem? (i := 11) (by decide +kernel), List.mem_of_getElem? (i := 224) (by decide +kernel), List.mem_of_getElem? (i := 225) (by decide +kernel)⟩
theorem lw_p2 : lw_okq (⟨"ShyStrip", "refuseMissing", "([LShyStrip$Row;I)I"⟩, 12) := ⟨⟨by decide +kernel, by decide +kernel⟩, List.mem_of_getElem? (i := 11) (by decide +kernel), List.mem_of_getElem? (i := 228) (by decide +kernel), List.mem_of_getElem? (i := 229) (by decide +kernel)⟩
theorem lw_p3 : lw_okq (⟨"ShyStrip", "ofOne", "(II)I"⟩, 12) := ⟨⟨by decide +kernel, by decide +kernel⟩, List.mem_of_getElem? (i := 11) (by decide +kernel), List.mem_of_getElem? (i := 338) (by decide +kernel), List.mem_of_getElem? (i := 339) (by decide +kernel)⟩
theorem lw_p4 : lw_okq (⟨"ShyStrip", "nextSeated", "(LShyStrip$Row;)I"⟩, 12) := ⟨⟨by decide +kernel, by decide +kernel⟩, List.mem_of_getElem? (i := 11) (by decide +kernel), List.mem_of_getElem? (i := 510) (by decide +kernel), List.mem_of_getElem? (i := 511) (by decide +kernel)⟩
theorem lw_p5 : lw_okq (⟨"ShyStrip", "shareCrowns", "(IILShyStrip$Row;)V"⟩, 12) := ⟨⟨by decide +kernel, by decide +kernel⟩, List.mem_of_getElem? (i := 11) (by decide +kernel), List.mem_of_getElem? (i := 562) (by decide +kernel), List.mem_of_getElem? (i := 563) (by decide +kernel)⟩
theorem lw_p6 : lw_okq (⟨"ShyStrip", "isWronged", "(ILShyStrip$Row;)Z"⟩, 12) := ⟨⟨by decide +kernel, by decide +kernel⟩, List.mem_of_getElem? (i := 11) (by decide +kernel), List.mem_of_getElem? (i := 566) (by decide +kernel), List.mem_of_getElem? (i := 567) (by decide +kernel)⟩
theorem lw_p7 : lw_okq (⟨"ShyStrip", "refusePapers", "(II)I"⟩, 12) := ⟨⟨by decide +kernel, by decide +kernel⟩, List.mem_of_getElem? (i := 11) (by decide +kernel), List.mem_of_getElem? (i := 595) (by decide +kernel), List.mem_of_getElem? (i := 596) (by decide +kernel)⟩
theorem lw_p8 : lw_okq (⟨"ShyStrip", "agrees", "(IIILShyStrip$Row;)Z"⟩, 12) := ⟨⟨by decide +kernel, by decide +kernel⟩, List.mem_of_getElem? (i := 11) (by decide +kernel), List.mem_of_getElem? (i := 599) (by decide +kernel), List.mem_of_getElem? (i := 600) (by decide +kernel)⟩
theorem lw_p9 : lw_okq (⟨"ShyStrip", "tellFraction", "(JJ)V"⟩, 12) := ⟨⟨by decide +kernel, by decide +kernel⟩, List.mem_of_getElem? (i := 11) (by decide +kernel), List.mem_of_getElem? (i := 618) (by decide +kernel), List.mem_of_getElem? (i := 619) (by decide +kernel)⟩
theorem lw_p10 : lw_okq (⟨"ShyStrip", "keptLands", "()I"⟩, 12) := ⟨⟨by decide +kernel, by decide +kernel⟩, List.mem_of_getElem? (i := 11) (by decide +kernel), List.mem_of_getElem? (i := 671) (by decide +kernel), List.mem_of_getElem? (i := 672) (by decide +kernel)⟩
theorem lw_p11 : lw_okq (⟨"ShyStripModel", "finds", "(I)I"⟩, 22) := ⟨⟨by decide +kernel, by decide +kernel⟩, List.mem_of_getElem? (i := 696) (by decide +kernel), List.mem_of_getElem? (i := 780) (by decide +kernel), List.mem_of_getElem? (i := 781) (by decide +kernel)⟩
theorem lw_p12 : lw_okq (⟨"ShyStripModel", "lays", "(II)V"⟩, 22) := ⟨⟨by decide +kernel, by decide +kernel⟩, List.mem_of_getElem? (i := 696) (by decide +kernel), List.mem_of_getElem? (i := 784) (by decide +kernel), List.mem_of_getElem? (i := 785) (by decide +kernel)⟩
theorem lw_p13 : lw_okq (⟨"ShyStripModel", "tells", "(II)I"⟩, 22) := ⟨⟨by decide +kernel, by decide +kernel⟩, List.mem_of_getElem? (i := 696) (by decide +kernel), List.mem_of_getElem? (i := 796) (by decide +kernel), List.mem_of_getElem? (i := 797) (by decide +kernel)⟩
theorem lw_p14 : lw_okq (⟨"ShyStripModel", "reads", "(I)I"⟩, 22) := ⟨⟨by decide +kernel, by decide +kernel⟩, List.mem_of_getElem? (i := 696) (by decide +kernel), List.mem_of_getElem? (i := 828) (by decide +kernel), List.mem_of_getElem? (i := 829) (by decide +kernel)⟩
theorem lw_p15 : lw_okq (⟨"ShyStripModel", "readsHead", "(I)V"⟩, 22) := ⟨⟨by decide +kernel, by decide +kernel⟩, List.mem_of_getElem? (i := 696) (by decide +kernel), List.mem_of_getElem? (i := 832) (by decide +kernel), List.mem_of_getElem? (i := 833) (by decide +kernel)⟩
def lw_privs_1 : List (MethodName × Nat) := [(⟨"ShyStrip", "refuse", "(I)I"⟩, 12), (⟨"ShyStrip", "refusePlace", "([LShyStrip$Row;II)I"⟩, 12), (⟨"ShyStrip", "refuseMissing", "([LShyStrip$Row;I)I"⟩, 12), (⟨"ShyStrip", "ofOne", "(II)I"⟩, 12), (⟨"ShyStrip", "nextSeated", "(LShyStrip$Row;)I"⟩, 12), (⟨"ShyStrip", "shareCrowns", "(IILShyStrip$Row;)V"⟩, 12), (⟨"ShyStrip", "isWronged", "(ILShyStrip$Row;)Z"⟩, 12), (⟨"ShyStrip", "refusePapers", "(II)I"⟩, 12), (⟨"ShyStrip", "agrees", "(IIILShyStrip$Row;)Z"⟩, 12), (⟨"ShyStrip", "tellFraction", "(JJ)V"⟩, 12), (⟨"ShyStrip", "keptLands", "()I"⟩, 12), (⟨"ShyStripModel", "finds", "(I)I"⟩, 22), (⟨"ShyStripModel", "lays", "(II)V"⟩, 22), (⟨"ShyStripModel", "tells", "(II)I"⟩, 22), (⟨"ShyStripModel", "reads", "(I)I"⟩, 22), (⟨"ShyStripModel", "readsHead", "(I)V"⟩, 22)]
theorem lw_r1 : ∀ q ∈ lw_privs_1, lw_okq q := List.forall_mem_cons.mpr ⟨lw_p0, List.forall_mem_cons.mpr ⟨lw_p1, List.forall_mem_cons.mpr ⟨lw_p2, List.forall_mem_cons.mpr ⟨lw_p3, List.forall_mem_cons.mpr ⟨lw_p4, List.forall_mem_cons.mpr ⟨lw_p5, List.forall_mem_cons.mpr ⟨lw_p6, List.forall_mem_cons.mpr ⟨lw_p7, List.forall_mem_cons.mpr ⟨lw_p8, List.forall_mem_cons.mpr ⟨lw_p9, List.forall_mem_cons.mpr ⟨lw_p10, List.forall_mem_cons.mpr ⟨lw_p11, List.forall_mem_cons.mpr ⟨lw_p12, List.forall_mem_cons.mpr ⟨lw_p13, List.forall_mem_cons.mpr ⟨lw_p14, List.forall_mem_cons.mpr ⟨lw_p15, fun _ h => absurd h List.not_mem_nil⟩⟩⟩⟩⟩⟩⟩⟩⟩⟩⟩⟩⟩⟩⟩⟩
theorem lw_p16 : lw_okq (⟨"ShyStripModel", "skips", "(I)V"⟩, 22) := ⟨⟨by decide +kernel, by decide +kernel⟩, List.mem_of_getElem? (i := 696) (by decide +kernel), List.mem_of_getElem? (i := 836) (by decide +kernel), List.mem_of_getElem? (i := 837) (by decide +kernel)⟩
theorem lw_p17 : lw_okq (⟨"ShyStripModel", "look", "(I)I"⟩, 22) := ⟨⟨by decide +kernel, by decide +kernel⟩, List.mem_of_getElem? (i := 696) (by decide +kernel), List.mem_of_getElem? (i := 840) (by decide +kernel), List.mem_of_getElem? (i := 841) (by decide +kernel)⟩
theorem lw_p18 : lw_okq (⟨"ShyStripModel", "figure", "(III)I"⟩, 22) := ⟨⟨by decide +kernel, by decide +kernel⟩, List.mem_of_getElem? (i := 696) (by decide +kernel), List.mem_of_getElem? (i := 844) (by decide +kernel), List.mem_of_getElem? (i := 845) (by decide +kernel)⟩
theorem lw_p19 : lw_okq (⟨"ShyStripModel", "readsOne", "(I)V"⟩, 22) := ⟨⟨by decide +kernel, by decide +kernel⟩, List.mem_of_getElem? (i := 696) (by decide +kernel), List.mem_of_getElem? (i := 848) (by decide +kernel), List.mem_of_getElem? (i := 849) (by decide +kernel)⟩
theorem lw_p20 : lw_okq (⟨"ShyStripModel", "isOne", "(I)Z"⟩, 22) := ⟨⟨by decide +kernel, by decide +kernel⟩, List.mem_of_getElem? (i := 696) (by decide +kernel), List.mem_of_getElem? (i := 866) (by decide +kernel), List.mem_of_getElem? (i := 867) (by decide +kernel)⟩
theorem lw_p21 : lw_okq (⟨"ShyStripModel", "oneHas", "(II)I"⟩, 22) := ⟨⟨by decide +kernel, by decide +kernel⟩, List.mem_of_getElem? (i := 696) (by decide +kernel), List.mem_of_getElem? (i := 870) (by decide +kernel), List.mem_of_getElem? (i := 871) (by decide +kernel)⟩
theorem lw_p22 : lw_okq (⟨"ShyStripModel", "votesOf", "(I)I"⟩, 22) := ⟨⟨by decide +kernel, by decide +kernel⟩, List.mem_of_getElem? (i := 696) (by decide +kernel), List.mem_of_getElem? (i := 874) (by decide +kernel), List.mem_of_getElem? (i := 875) (by decide +kernel)⟩
theorem lw_p23 : lw_okq (⟨"ShyStripModel", "belongs", "(III)Z"⟩, 22) := ⟨⟨by decide +kernel, by decide +kernel⟩, List.mem_of_getElem? (i := 696) (by decide +kernel), List.mem_of_getElem? (i := 878) (by decide +kernel), List.mem_of_getElem? (i := 879) (by decide +kernel)⟩
theorem lw_p24 : lw_okq (⟨"ShyStripModel", "belongsBy", "(IIIII)Z"⟩, 22) := ⟨⟨by decide +kernel, by decide +kernel⟩, List.mem_of_getElem? (i := 696) (by decide +kernel), List.mem_of_getElem? (i := 882) (by decide +kernel), List.mem_of_getElem? (i := 883) (by decide +kernel)⟩
theorem lw_p25 : lw_okq (⟨"ShyStripModel", "distance", "(I)I"⟩, 22) := ⟨⟨by decide +kernel, by decide +kernel⟩, List.mem_of_getElem? (i := 696) (by decide +kernel), List.mem_of_getElem? (i := 893) (by decide +kernel), List.mem_of_getElem? (i := 894) (by decide +kernel)⟩
theorem lw_p26 : lw_okq (⟨"ShyStripModel", "are", "()Z"⟩, 22) := ⟨⟨by decide +kernel, by decide +kernel⟩, List.mem_of_getElem? (i := 696) (by decide +kernel), List.mem_of_getElem? (i := 904) (by decide +kernel), List.mem_of_getElem? (i := 905) (by decide +kernel)⟩
theorem lw_p27 : lw_okq (⟨"ShyStripModel", "coastHas", "(I)I"⟩, 22) := ⟨⟨by decide +kernel, by decide +kernel⟩, List.mem_of_getElem? (i := 696) (by decide +kernel), List.mem_of_getElem? (i := 908) (by decide +kernel), List.mem_of_getElem? (i := 909) (by decide +kernel)⟩
theorem lw_p28 : lw_okq (⟨"ShyStripModel", "belongersNow", "()I"⟩, 22) := ⟨⟨by decide +kernel, by decide +kernel⟩, List.mem_of_getElem? (i := 696) (by decide +kernel), List.mem_of_getElem? (i := 912) (by decide +kernel), List.mem_of_getElem? (i := 913) (by decide +kernel)⟩
theorem lw_p29 : lw_okq (⟨"ShyStripModel", "belongers", "(II)I"⟩, 22) := ⟨⟨by decide +kernel, by decide +kernel⟩, List.mem_of_getElem? (i := 696) (by decide +kernel), List.mem_of_getElem? (i := 916) (by decide +kernel), List.mem_of_getElem? (i := 917) (by decide +kernel)⟩
theorem lw_p30 : lw_okq (⟨"ShyStripModel", "votesIn", "(I)I"⟩, 22) := ⟨⟨by decide +kernel, by decide +kernel⟩, List.mem_of_getElem? (i := 696) (by decide +kernel), List.mem_of_getElem? (i := 920) (by decide +kernel), List.mem_of_getElem? (i := 921) (by decide +kernel)⟩
theorem lw_p31 : lw_okq (⟨"ShyStripModel", "votesOut", "(IIII)I"⟩, 22) := ⟨⟨by decide +kernel, by decide +kernel⟩, List.mem_of_getElem? (i := 696) (by decide +kernel), List.mem_of_getElem? (i := 927) (by decide +kernel), List.mem_of_getElem? (i := 928) (by decide +kernel)⟩
def lw_privs_2 : List (MethodName × Nat) := [(⟨"ShyStripModel", "skips", "(I)V"⟩, 22), (⟨"ShyStripModel", "look", "(I)I"⟩, 22), (⟨"ShyStripModel", "figure", "(III)I"⟩, 22), (⟨"ShyStripModel", "readsOne", "(I)V"⟩, 22), (⟨"ShyStripModel", "isOne", "(I)Z"⟩, 22), (⟨"ShyStripModel", "oneHas", "(II)I"⟩, 22), (⟨"ShyStripModel", "votesOf", "(I)I"⟩, 22), (⟨"ShyStripModel", "belongs", "(III)Z"⟩, 22), (⟨"ShyStripModel", "belongsBy", "(IIIII)Z"⟩, 22), (⟨"ShyStripModel", "distance", "(I)I"⟩, 22), (⟨"ShyStripModel", "are", "()Z"⟩, 22), (⟨"ShyStripModel", "coastHas", "(I)I"⟩, 22), (⟨"ShyStripModel", "belongersNow", "()I"⟩, 22), (⟨"ShyStripModel", "belongers", "(II)I"⟩, 22), (⟨"ShyStripModel", "votesIn", "(I)I"⟩, 22), (⟨"ShyStripModel", "votesOut", "(IIII)I"⟩, 22)]
theorem lw_r2 : ∀ q ∈ lw_privs_2, lw_okq q := List.forall_mem_cons.mpr ⟨lw_p16, List.forall_mem_cons.mpr ⟨lw_p17, List.forall_mem_cons.mpr ⟨lw_p18, List.forall_mem_cons.mpr ⟨lw_p19, List.forall_mem_cons.mpr ⟨lw_p20, List.forall_mem_cons.mpr ⟨lw_p21, List.forall_mem_cons.mpr ⟨lw_p22, List.forall_mem_cons.mpr ⟨lw_p23, List.forall_mem_cons.mpr ⟨lw_p24, List.forall_mem_cons.mpr ⟨lw_p25, List.forall_mem_cons.mpr ⟨lw_p26, List.forall_mem_cons.mpr ⟨lw_p27, List.forall_mem_cons.mpr ⟨lw_p28, List.forall_mem_cons.mpr ⟨lw_p29, List.forall_mem_cons.mpr ⟨lw_p30, List.forall_mem_cons.mpr ⟨lw_p31, fun _ h => absurd h List.not_mem_nil⟩⟩⟩⟩⟩⟩⟩⟩⟩⟩⟩⟩⟩⟩⟩⟩
theorem lw_p32 : lw_okq (⟨"ShyStripModel", "notes", "()V"⟩, 22) := ⟨⟨by decide +kernel, by decide +kernel⟩, List.mem_of_getElem? (i := 696) (by decide +kernel), List.mem_of_getElem? (i := 935) (by decide +kernel), List.mem_of_getElem? (i := 936) (by decide +kernel)⟩
theorem lw_p33 : lw_okq (⟨"ShyStripModel", "ages", "()V"⟩, 22) := ⟨⟨by decide +kernel, by decide +kernel⟩, List.mem_of_getElem? (i := 696) (by decide +kernel), List.mem_of_getElem? (i := 939) (by decide +kernel), List.mem_of_getElem? (i := 940) (by decide +kernel)⟩
theorem lw_p34 : lw_okq (⟨"ShyStripModel", "later", "(II)I"⟩, 22) := ⟨⟨by decide +kernel, by decide +kernel⟩, List.mem_of_getElem? (i := 696) (by decide +kernel), List.mem_of_getElem? (i := 943) (by decide +kernel), List.mem_of_getElem? (i := 944) (by decide +kernel)⟩
theorem lw_p35 : lw_okq (⟨"ShyStripModel", "areCoasts", "(II)Z"⟩, 22) := ⟨⟨by decide +kernel, by decide +kernel⟩, List.mem_of_getElem? (i := 696) (by decide +kernel), List.mem_of_getElem? (i := 951) (by decide +kernel), List.mem_of_getElem? (i := 952) (by decide +kernel)⟩
theorem lw_p36 : lw_okq (⟨"ShyStripModel", "isCell", "(I)Z"⟩, 22) := ⟨⟨by decide +kernel, by decide +kernel⟩, List.mem_of_getElem? (i := 696) (by decide +kernel), List.mem_of_getElem? (i := 959) (by decide +kernel), List.mem_of_getElem? (i := 960) (by decide +kernel)⟩
theorem lw_p37 : lw_okq (⟨"ShyStripModel", "laysShares", "(I)V"⟩, 22) := ⟨⟨by decide +kernel, by decide +kernel⟩, List.mem_of_getElem? (i := 696) (by decide +kernel), List.mem_of_getElem? (i := 987) (by decide +kernel), List.mem_of_getElem? (i := 988) (by decide +kernel)⟩
theorem lw_p38 : lw_okq (⟨"ShyStripModel", "coastsIn", "(I)I"⟩, 22) := ⟨⟨by decide +kernel, by decide +kernel⟩, List.mem_of_getElem? (i := 696) (by decide +kernel), List.mem_of_getElem? (i := 1002) (by decide +kernel), List.mem_of_getElem? (i := 1003) (by decide +kernel)⟩
theorem lw_p39 : lw_okq (⟨"ShyStripModel", "comes", "(II)V"⟩, 22) := ⟨⟨by decide +kernel, by decide +kernel⟩, List.mem_of_getElem? (i := 696) (by decide +kernel), List.mem_of_getElem? (i := 1018) (by decide +kernel), List.mem_of_getElem? (i := 1019) (by decide +kernel)⟩
theorem lw_p40 : lw_okq (⟨"ShyStripModel", "moves", "(I)Z"⟩, 22) := ⟨⟨by decide +kernel, by decide +kernel⟩, List.mem_of_getElem? (i := 696) (by decide +kernel), List.mem_of_getElem? (i := 1022) (by decide +kernel), List.mem_of_getElem? (i := 1023) (by decide +kernel)⟩
theorem lw_p41 : lw_okq (⟨"ShyStripModel", "wayTo", "(II)I"⟩, 22) := ⟨⟨by decide +kernel, by decide +kernel⟩, List.mem_of_getElem? (i := 696) (by decide +kernel), List.mem_of_getElem? (i := 1034) (by decide +kernel), List.mem_of_getElem? (i := 1035) (by decide +kernel)⟩
theorem lw_p42 : lw_okq (⟨"ShyStripModel", "costOf", "(I)I"⟩, 22) := ⟨⟨by decide +kernel, by decide +kernel⟩, List.mem_of_getElem? (i := 696) (by decide +kernel), List.mem_of_getElem? (i := 1038) (by decide +kernel), List.mem_of_getElem? (i := 1039) (by decide +kernel)⟩
theorem lw_p43 : lw_okq (⟨"ShyStripModel", "farFrom", "(I)I"⟩, 22) := ⟨⟨by decide +kernel, by decide +kernel⟩, List.mem_of_getElem? (i := 696) (by decide +kernel), List.mem_of_getElem? (i := 1046) (by decide +kernel), List.mem_of_getElem? (i := 1047) (by decide +kernel)⟩
theorem lw_p44 : lw_okq (⟨"ShyStripModel", "barred", "(II)I"⟩, 22) := ⟨⟨by decide +kernel, by decide +kernel⟩, List.mem_of_getElem? (i := 696) (by decide +kernel), List.mem_of_getElem? (i := 1054) (by decide +kernel), List.mem_of_getElem? (i := 1055) (by decide +kernel)⟩
theorem lw_p45 : lw_okq (⟨"ShyStripModel", "goesWith", "(IIII)Z"⟩, 22) := ⟨⟨by decide +kernel, by decide +kernel⟩, List.mem_of_getElem? (i := 696) (by decide +kernel), List.mem_of_getElem? (i := 1058) (by decide +kernel), List.mem_of_getElem? (i := 1059) (by decide +kernel)⟩
theorem lw_p46 : lw_okq (⟨"ShyStripModel", "tellsParts", "(JJ)I"⟩, 22) := ⟨⟨by decide +kernel, by decide +kernel⟩, List.mem_of_getElem? (i := 696) (by decide +kernel), List.mem_of_getElem? (i := 1077) (by decide +kernel), List.mem_of_getElem? (i := 1078) (by decide +kernel)⟩
def lw_privs_3 : List (MethodName × Nat) := [(⟨"ShyStripModel", "notes", "()V"⟩, 22), (⟨"ShyStripModel", "ages", "()V"⟩, 22), (⟨"ShyStripModel", "later", "(II)I"⟩, 22), (⟨"ShyStripModel", "areCoasts", "(II)Z"⟩, 22), (⟨"ShyStripModel", "isCell", "(I)Z"⟩, 22), (⟨"ShyStripModel", "laysShares", "(I)V"⟩, 22), (⟨"ShyStripModel", "coastsIn", "(I)I"⟩, 22), (⟨"ShyStripModel", "comes", "(II)V"⟩, 22), (⟨"ShyStripModel", "moves", "(I)Z"⟩, 22), (⟨"ShyStripModel", "wayTo", "(II)I"⟩, 22), (⟨"ShyStripModel", "costOf", "(I)I"⟩, 22), (⟨"ShyStripModel", "farFrom", "(I)I"⟩, 22), (⟨"ShyStripModel", "barred", "(II)I"⟩, 22), (⟨"ShyStripModel", "goesWith", "(IIII)Z"⟩, 22), (⟨"ShyStripModel", "tellsParts", "(JJ)I"⟩, 22)]
theorem lw_r3 : ∀ q ∈ lw_privs_3, lw_okq q := List.forall_mem_cons.mpr ⟨lw_p32, List.forall_mem_cons.mpr ⟨lw_p33, List.forall_mem_cons.mpr ⟨lw_p34, List.forall_mem_cons.mpr ⟨lw_p35, List.forall_mem_cons.mpr ⟨lw_p36, List.forall_mem_cons.mpr ⟨lw_p37, List.forall_mem_cons.mpr ⟨lw_p38, List.forall_mem_cons.mpr ⟨lw_p39, List.forall_mem_cons.mpr ⟨lw_p40, List.forall_mem_cons.mpr ⟨lw_p41, List.forall_mem_cons.mpr ⟨lw_p42, List.forall_mem_cons.mpr ⟨lw_p43, List.forall_mem_cons.mpr ⟨lw_p44, List.forall_mem_cons.mpr ⟨lw_p45, List.forall_mem_cons.mpr ⟨lw_p46, fun _ h => absurd h List.not_mem_nil⟩⟩⟩⟩⟩⟩⟩⟩⟩⟩⟩⟩⟩⟩⟩
def lw_privs : List (MethodName × Nat) := lw_privs_1 ++ (lw_privs_2 ++ (lw_privs_3))
def lw_tbl : List Cond := k2_sels lw_privs ++ tables_1
theorem lw_privs_ok : ∀ q ∈ lw_privs, lw_okq q := by
  show ∀ q ∈ lw_privs_1 ++ (lw_privs_2 ++ (lw_privs_3)), lw_okq q
  exact List.forall_mem_append.mpr ⟨lw_r1, List.forall_mem_append.mpr ⟨lw_r2, lw_r3⟩⟩
def RX0 : String := "ShyStrip$Deeds"
def TX0 : u_T := fun k => match k with
  | 0 => ("ShyStrip$Deeds", "westBy", "[I", true)
  | 1 => ("ShyStrip$Deeds", "eastBy", "[I", true)
  | 2 => ("ShyStrip$Deeds", "yearBy", "[I", true)
  | 3 => ("ShyStrip$Deeds", "walker", "[I", true)
  | 4 => ("ShyStrip$Deeds", "walkBy", "[I", true)
  | _ => ("ShyStrip$Deeds", "number", "I", false)
def tyX0 : Nat → FieldType := fun k => match k with
  | 0 => .array .int
  | 1 => .array .int
  | 2 => .array .int
  | 3 => .array .int
  | 4 => .array .int
  | _ => .int
abbrev wsX00 : List Cond := u_ws RX0 TX0 6
theorem nmX0 : ∀ a, a < 6 → ∀ b, b < 6 → a ≠ b → (TX0 a).2.1 ≠ (TX0 b).2.1 := by decide +kernel
theorem tyX0_ok : ∀ k, k < 6 → parseFieldDescriptor (TX0 k).2.2.1 = some (tyX0 k) := by decide +kernel
abbrev cX0_init : ByteArray := prog_2_method_1_code
def yX0_init : MethodName := ⟨RX0, "<init>", "()V"⟩
abbrev cX0_becomeAs : ByteArray := prog_2_method_2_code
def yX0_becomeAs : MethodName := ⟨RX0, "becomeAs", "(LShyStrip$Deeds;)V"⟩
def RX1 : String := "ShyStrip$Land"
def TX1 : u_T := fun k => match k with
  | 0 => ("ShyStrip$Land", "cells", "I", false)
  | 1 => ("ShyStrip$Land", "west", "I", false)
  | 2 => ("ShyStrip$Land", "east", "I", false)
  | 3 => ("ShyStrip$Land", "firstWest", "I", false)
  | 4 => ("ShyStrip$Land", "firstEast", "I", false)
  | 5 => ("ShyStrip$Land", "westLaws", "I", false)
  | 6 => ("ShyStrip$Land", "eastLaws", "I", false)
  | 7 => ("ShyStrip$Land", "year", "I", false)
  | 8 => ("ShyStrip$Land", "people", "I", false)
  | 9 => ("ShyStrip$Land", "kind", "[I", true)
  | 10 => ("ShyStrip$Land", "cell", "[I", true)
  | 11 => ("ShyStrip$Land", "firstCell", "[I", true)
  | 12 => ("ShyStrip$Land", "toldVotes", "[I", true)
  | 13 => ("ShyStrip$Land", "would", "[I", true)
  | _ => ("ShyStrip$Land", "deeds", "LShyStrip$Deeds;", true)
def tyX1 : Nat → FieldType := fun k => match k with
  | 0 => .int
  | 1 => .int
  | 2 => .int
  | 3 => .int
  | 4 => .int
  | 5 => .int
  | 6 => .int
  | 7 => .int
  | 8 => .int
  | 9 => .array .int
  | 10 => .array .int
  | 11 => .array .int
  | 12 => .array .int
  | 13 => .array .int
  | _ => .object "ShyStrip$Deeds"
abbrev wsX10 : List Cond := u_ws RX1 TX1 15
theorem nmX1 : ∀ a, a < 15 → ∀ b, b < 15 → a ≠ b → (TX1 a).2.1 ≠ (TX1 b).2.1 := by decide +kernel
theorem tyX1_ok : ∀ k, k < 15 → parseFieldDescriptor (TX1 k).2.2.1 = some (tyX1 k) := by decide +kernel
abbrev cX1_init : ByteArray := prog_3_method_1_code
def yX1_init : MethodName := ⟨RX1, "<init>", "()V"⟩
abbrev cX1_isThere : ByteArray := prog_3_method_2_code
def yX1_isThere : MethodName := ⟨RX1, "isThere", "()Z"⟩
abbrev cX1_hasCell : ByteArray := prog_3_method_3_code
def yX1_hasCell : MethodName := ⟨RX1, "hasCell", "(I)Z"⟩
abbrev cX1_hasOne : ByteArray := prog_3_method_4_code
def yX1_hasOne : MethodName := ⟨RX1, "hasOne", "(I)Z"⟩
abbrev cX1_hasRoomFor : ByteArray := prog_3_method_5_code
def yX1_hasRoomFor : MethodName := ⟨RX1, "hasRoomFor", "(I)Z"⟩
abbrev cX1_canBeCoasts : ByteArray := prog_3_method_6_code
def yX1_canBeCoasts : MethodName := ⟨RX1, "canBeCoasts", "(II)Z"⟩
abbrev cX1_strip : ByteArray := prog_3_method_7_code
def yX1_strip : MethodName := ⟨RX1, "strip", "()I"⟩
abbrev cX1_coasts : ByteArray := prog_3_method_8_code
def yX1_coasts : MethodName := ⟨RX1, "coasts", "()I"⟩
abbrev cX1_becomeAs : ByteArray := prog_3_method_9_code
def yX1_becomeAs : MethodName := ⟨RX1, "becomeAs", "(LShyStrip$Land;)V"⟩
abbrev cX1_isOf : ByteArray := prog_3_method_10_code
def yX1_isOf : MethodName := ⟨RX1, "isOf", "(II)Z"⟩
abbrev cX1_ladies : ByteArray := prog_3_method_11_code
def yX1_ladies : MethodName := ⟨RX1, "ladies", "()I"⟩
abbrev cX1_votes : ByteArray := prog_3_method_12_code
def yX1_votes : MethodName := ⟨RX1, "votes", "(I)I"⟩
abbrev cX1_wouldBelong : ByteArray := prog_3_method_13_code
def yX1_wouldBelong : MethodName := ⟨RX1, "wouldBelong", "(IIIII)Z"⟩
abbrev cX1_belongs : ByteArray := prog_3_method_14_code
def yX1_belongs : MethodName := ⟨RX1, "belongs", "(I)Z"⟩
abbrev cX1_belonging : ByteArray := prog_3_method_15_code
def yX1_belonging : MethodName := ⟨RX1, "belonging", "(II)I"⟩
abbrev cX1_votesOf : ByteArray := prog_3_method_16_code
def yX1_votesOf : MethodName := ⟨RX1, "votesOf", "(I)I"⟩
abbrev cX1_mostVotesIn : ByteArray := prog_3_method_17_code
def yX1_mostVotesIn : MethodName := ⟨RX1, "mostVotesIn", "(I)I"⟩
abbrev cX1_votesBelonging : ByteArray := prog_3_method_18_code
def yX1_votesBelonging : MethodName := ⟨RX1, "votesBelonging", "(II)I"⟩
abbrev cX1_votesOfWest : ByteArray := prog_3_method_19_code
def yX1_votesOfWest : MethodName := ⟨RX1, "votesOfWest", "(II)I"⟩
abbrev cX1_votesOfEast : ByteArray := prog_3_method_20_code
def yX1_votesOfEast : MethodName := ⟨RX1, "votesOfEast", "(II)I"⟩
abbrev cX1_votesOfStrangers : ByteArray := prog_3_method_21_code
def yX1_votesOfStrangers : MethodName := ⟨RX1, "votesOfStrangers", "(IIII)I"⟩
abbrev cX1_votesFor : ByteArray := prog_3_method_22_code
def yX1_votesFor : MethodName := ⟨RX1, "votesFor", "(I)I"⟩
abbrev cX1_farFromStrip : ByteArray := prog_3_method_23_code
def yX1_farFromStrip : MethodName := ⟨RX1, "farFromStrip", "(I)I"⟩
abbrev cX1_othersWith : ByteArray := prog_3_method_24_code
def yX1_othersWith : MethodName := ⟨RX1, "othersWith", "(I)I"⟩
abbrev cX1_canMove : ByteArray := prog_3_method_25_code
def yX1_canMove : MethodName := ⟨RX1, "canMove", "(IIII)Z"⟩
abbrev cX1_yearOn : ByteArray := prog_3_method_26_code
def yX1_yearOn : MethodName := ⟨RX1, "yearOn", "(I)I"⟩
abbrev cX1_act : ByteArray := prog_3_method_27_code
def yX1_act : MethodName := ⟨RX1, "act", "(IIIII)V"⟩
abbrev cX1_takeBack : ByteArray := prog_3_method_28_code
def yX1_takeBack : MethodName := ⟨RX1, "takeBack", "(I)V"⟩
abbrev cX1_passYear : ByteArray := prog_3_method_29_code
def yX1_passYear : MethodName := ⟨RX1, "passYear", "()V"⟩
abbrev cX1_walkByLot : ByteArray := prog_3_method_30_code
def yX1_walkByLot : MethodName := ⟨RX1, "walkByLot", "(II)V"⟩
abbrev cX1_enterLong : ByteArray := prog_3_method_31_code
def yX1_enterLong : MethodName := ⟨RX1, "enterLong", "(I)I"⟩
abbrev cX1_wayLong : ByteArray := prog_3_method_32_code
def yX1_wayLong : MethodName := ⟨RX1, "wayLong", "(II)I"⟩
abbrev cX1_farLong : ByteArray := prog_3_method_33_code
def yX1_farLong : MethodName := ⟨RX1, "farLong", "(I)I"⟩
def RX2 : String := "ShyStrip$Reader"
def TX2 : u_T := fun k => match k with
  | _ => ("ShyStrip$Reader", "place", "I", false)
def tyX2 : Nat → FieldType := fun k => match k with
  | _ => .int
abbrev wsX20 : List Cond := u_ws RX2 TX2 1
theorem nmX2 : ∀ a, a < 1 → ∀ b, b < 1 → a ≠ b → (TX2 a).2.1 ≠ (TX2 b).2.1 := by decide +kernel
theorem tyX2_ok : ∀ k, k < 1 → parseFieldDescriptor (TX2 k).2.2.1 = some (tyX2 k) := by decide +kernel
abbrev cX2_init : ByteArray := prog_4_method_1_code
def yX2_init : MethodName := ⟨RX2, "<init>", "()V"⟩
abbrev cX2_read : ByteArray := prog_4_method_2_code
def yX2_read : MethodName := ⟨RX2, "read", "(LShyStrip$Row;LShyStrip$Land;)Z"⟩
abbrev cX2_readSides : ByteArray := prog_4_method_3_code
def yX2_readSides : MethodName := ⟨RX2, "readSides", "(LShyStrip$Row;LShyStrip$Land;)Z"⟩
abbrev cX2_readPeople : ByteArray := prog_4_method_4_code
def yX2_readPeople : MethodName := ⟨RX2, "readPeople", "(LShyStrip$Row;LShyStrip$Land;)Z"⟩
abbrev cX2_readOne : ByteArray := prog_4_method_5_code
def yX2_readOne : MethodName := ⟨RX2, "readOne", "(LShyStrip$Row;LShyStrip$Land;)Z"⟩
abbrev cX2_skipBlanks : ByteArray := prog_4_method_6_code
def yX2_skipBlanks : MethodName := ⟨RX2, "skipBlanks", "(LShyStrip$Row;)V"⟩
abbrev cX2_here : ByteArray := prog_4_method_7_code
def yX2_here : MethodName := ⟨RX2, "here", "(LShyStrip$Row;)I"⟩
abbrev cX2_figure : ByteArray := prog_4_method_8_code
def yX2_figure : MethodName := ⟨RX2, "figure", "(LShyStrip$Row;II)I"⟩
abbrev cX2_kindOf : ByteArray := prog_4_method_9_code
def yX2_kindOf : MethodName := ⟨RX2, "kindOf", "(I)I"⟩
def RX3 : String := "ShyStrip$Row"
def TX3 : u_T := fun k => match k with
  | 0 => ("ShyStrip$Row", "places", "[I", true)
  | _ => ("ShyStrip$Row", "size", "I", false)
def tyX3 : Nat → FieldType := fun k => match k with
  | 0 => .array .int
  | _ => .int
abbrev wsX30 : List Cond := u_ws RX3 TX3 2
theorem nmX3 : ∀ a, a < 2 → ∀ b, b < 2 → a ≠ b → (TX3 a).2.1 ≠ (TX3 b).2.1 := by decide +kernel
theorem tyX3_ok : ∀ k, k < 2 → parseFieldDescriptor (TX3 k).2.2.1 = some (tyX3 k) := by decide +kernel
abbrev cX3_init : ByteArray := prog_5_method_1_code
def yX3_init : MethodName := ⟨RX3, "<init>", "([I)V"⟩
abbrev cX3_isMissing : ByteArray := prog_5_method_2_code
def yX3_isMissing : MethodName := ⟨RX3, "isMissing", "()Z"⟩
abbrev cX3_hasPlace : ByteArray := prog_5_method_3_code
def yX3_hasPlace : MethodName := ⟨RX3, "hasPlace", "(I)Z"⟩
abbrev cX3_hasRun : ByteArray := prog_5_method_4_code
def yX3_hasRun : MethodName := ⟨RX3, "hasRun", "(II)Z"⟩
abbrev cX3_layAnew : ByteArray := prog_5_method_5_code
def yX3_layAnew : MethodName := ⟨RX3, "layAnew", "(II)V"⟩
abbrev cX3_sum : ByteArray := prog_5_method_6_code
def yX3_sum : MethodName := ⟨RX3, "sum", "()J"⟩
abbrev cX3_digestOn : ByteArray := prog_5_method_7_code
def yX3_digestOn : MethodName := ⟨RX3, "digestOn", "(J)J"⟩
def RX4 : String := "ShyStrip"
def TX4 : u_T := fun k => match k with
  | 0 => ("ShyStrip", "rows", "[LShyStrip$Row;", true)
  | 1 => ("ShyStrip", "texts", "[LShyStrip$Row;", true)
  | 2 => ("ShyStrip", "land", "LShyStrip$Land;", true)
  | 3 => ("ShyStrip", "kept", "[LShyStrip$Land;", true)
  | 4 => ("ShyStrip", "draft", "LShyStrip$Land;", true)
  | 5 => ("ShyStrip", "reader", "LShyStrip$Reader;", true)
  | 6 => ("ShyStrip", "coastsSeen", "[I", true)
  | 7 => ("ShyStrip", "found", "[I", true)
  | 8 => ("ShyStrip", "latestFound", "I", false)
  | 9 => ("ShyStrip", "asked", "I", false)
  | 10 => ("ShyStrip", "upper", "J", false)
  | _ => ("ShyStrip", "lower", "J", false)
def tyX4 : Nat → FieldType := fun k => match k with
  | 0 => .array (.object "ShyStrip$Row")
  | 1 => .array (.object "ShyStrip$Row")
  | 2 => .object "ShyStrip$Land"
  | 3 => .array (.object "ShyStrip$Land")
  | 4 => .object "ShyStrip$Land"
  | 5 => .object "ShyStrip$Reader"
  | 6 => .array .int
  | 7 => .array .int
  | 8 => .int
  | 9 => .int
  | 10 => .long
  | _ => .long
abbrev wsX40 : List Cond := u_ws RX4 TX4 12
theorem nmX4 : ∀ a, a < 12 → ∀ b, b < 12 → a ≠ b → (TX4 a).2.1 ≠ (TX4 b).2.1 := by decide +kernel
theorem tyX4_ok : ∀ k, k < 12 → parseFieldDescriptor (TX4 k).2.2.1 = some (tyX4 k) := by decide +kernel
abbrev cX4_init : ByteArray := prog_1_method_1_code
def yX4_init : MethodName := ⟨RX4, "<init>", "()V"⟩
abbrev cX4_row : ByteArray := prog_1_method_2_code
def yX4_row : MethodName := ⟨RX4, "row", "(II)I"⟩
abbrev cX4_lay : ByteArray := prog_1_method_3_code
def yX4_lay : MethodName := ⟨RX4, "lay", "(III)I"⟩
abbrev cX4_at : ByteArray := prog_1_method_4_code
def yX4_at : MethodName := ⟨RX4, "at", "(II)I"⟩
abbrev cX4_tear : ByteArray := prog_1_method_5_code
def yX4_tear : MethodName := ⟨RX4, "tear", "(I)I"⟩
abbrev cX4_copy : ByteArray := prog_1_method_6_code
def yX4_copy : MethodName := ⟨RX4, "copy", "(IIIII)I"⟩
abbrev cX4_mean : ByteArray := prog_1_method_7_code
def yX4_mean : MethodName := ⟨RX4, "mean", "(I)I"⟩
abbrev cX4_text : ByteArray := prog_1_method_8_code
def yX4_text : MethodName := ⟨RX4, "text", "(II)I"⟩
abbrev cX4_put : ByteArray := prog_1_method_9_code
def yX4_put : MethodName := ⟨RX4, "put", "(III)I"⟩
abbrev cX4_fault : ByteArray := prog_1_method_10_code
def yX4_fault : MethodName := ⟨RX4, "fault", "(I)I"⟩
abbrev cX4_land : ByteArray := prog_1_method_11_code
def yX4_land : MethodName := ⟨RX4, "land", "(I)I"⟩
abbrev cX4_one : ByteArray := prog_1_method_12_code
def yX4_one : MethodName := ⟨RX4, "one", "(II)I"⟩
abbrev cX4_mark : ByteArray := prog_1_method_13_code
def yX4_mark : MethodName := ⟨RX4, "mark", "(II)I"⟩
abbrev cX4_coast : ByteArray := prog_1_method_14_code
def yX4_coast : MethodName := ⟨RX4, "coast", "(I)I"⟩
abbrev cX4_year : ByteArray := prog_1_method_15_code
def yX4_year : MethodName := ⟨RX4, "year", "()I"⟩
abbrev cX4_step : ByteArray := prog_1_method_16_code
def yX4_step : MethodName := ⟨RX4, "step", "(II)I"⟩
abbrev cX4_walk : ByteArray := prog_1_method_17_code
def yX4_walk : MethodName := ⟨RX4, "walk", "(II)I"⟩
abbrev cX4_undo : ByteArray := prog_1_method_18_code
def yX4_undo : MethodName := ⟨RX4, "undo", "(I)I"⟩
abbrev cX4_keep : ByteArray := prog_1_method_19_code
def yX4_keep : MethodName := ⟨RX4, "keep", "(I)I"⟩
abbrev cX4_on : ByteArray := prog_1_method_20_code
def yX4_on : MethodName := ⟨RX4, "on", "(I)I"⟩
abbrev cX4_belong : ByteArray := prog_1_method_21_code
def yX4_belong : MethodName := ⟨RX4, "belong", "()I"⟩
abbrev cX4_laws : ByteArray := prog_1_method_22_code
def yX4_laws : MethodName := ⟨RX4, "laws", "()I"⟩
abbrev cX4_seats : ByteArray := prog_1_method_23_code
def yX4_seats : MethodName := ⟨RX4, "seats", "(II)I"⟩
abbrev cX4_fewest : ByteArray := prog_1_method_24_code
def yX4_fewest : MethodName := ⟨RX4, "fewest", "()I"⟩
abbrev cX4_then : ByteArray := prog_1_method_25_code
def yX4_then : MethodName := ⟨RX4, "then", "(I)I"⟩
abbrev cX4_when : ByteArray := prog_1_method_26_code
def yX4_when : MethodName := ⟨RX4, "when", "(II)I"⟩
abbrev cX4_round : ByteArray := prog_1_method_27_code
def yX4_round : MethodName := ⟨RX4, "round", "()I"⟩
abbrev cX4_duel : ByteArray := prog_1_method_28_code
def yX4_duel : MethodName := ⟨RX4, "duel", "(I)I"⟩
abbrev cX4_peace : ByteArray := prog_1_method_29_code
def yX4_peace : MethodName := ⟨RX4, "peace", "(II)I"⟩
abbrev cX4_way : ByteArray := prog_1_method_30_code
def yX4_way : MethodName := ⟨RX4, "way", "(II)I"⟩
abbrev cX4_far : ByteArray := prog_1_method_31_code
def yX4_far : MethodName := ⟨RX4, "far", "(I)I"⟩
abbrev cX4_kinds : ByteArray := prog_1_method_32_code
def yX4_kinds : MethodName := ⟨RX4, "kinds", "(II)I"⟩
abbrev cX4_spots : ByteArray := prog_1_method_33_code
def yX4_spots : MethodName := ⟨RX4, "spots", "(II)I"⟩
abbrev cX4_odds : ByteArray := prog_1_method_34_code
def yX4_odds : MethodName := ⟨RX4, "odds", "(II)I"⟩
abbrev cX4_mid : ByteArray := prog_1_method_35_code
def yX4_mid : MethodName := ⟨RX4, "mid", "(I)I"⟩
abbrev cX4_lots : ByteArray := prog_1_method_36_code
def yX4_lots : MethodName := ⟨RX4, "lots", "(II)I"⟩
abbrev cX4_asked : ByteArray := prog_1_method_37_code
def yX4_asked : MethodName := ⟨RX4, "asked", "()I"⟩
abbrev cX4_upper : ByteArray := prog_1_method_38_code
def yX4_upper : MethodName := ⟨RX4, "upper", "()J"⟩
abbrev cX4_lower : ByteArray := prog_1_method_39_code
def yX4_lower : MethodName := ⟨RX4, "lower", "()J"⟩
abbrev cX4_count : ByteArray := prog_1_method_40_code
def yX4_count : MethodName := ⟨RX4, "count", "(I)I"⟩
abbrev cX4_finding : ByteArray := prog_1_method_41_code
def yX4_finding : MethodName := ⟨RX4, "finding", "()I"⟩
abbrev cX4_findings : ByteArray := prog_1_method_42_code
def yX4_findings : MethodName := ⟨RX4, "findings", "(I)I"⟩
abbrev cX4_digest : ByteArray := prog_1_method_43_code
def yX4_digest : MethodName := ⟨RX4, "digest", "()J"⟩
abbrev cX4_isRow : ByteArray := prog_1_method_44_code
def yX4_isRow : MethodName := ⟨RX4, "isRow", "(I)Z"⟩
abbrev cX4_isText : ByteArray := prog_1_method_45_code
def yX4_isText : MethodName := ⟨RX4, "isText", "(I)Z"⟩
abbrev cX4_isKept : ByteArray := prog_1_method_46_code
def yX4_isKept : MethodName := ⟨RX4, "isKept", "(I)Z"⟩
abbrev cX4_refuse : ByteArray := prog_1_method_47_code
def yX4_refuse : MethodName := ⟨RX4, "refuse", "(I)I"⟩
abbrev cX4_refuseMissing : ByteArray := prog_1_method_48_code
def yX4_refuseMissing : MethodName := ⟨RX4, "refuseMissing", "([LShyStrip$Row;I)I"⟩
abbrev cX4_refusePlace : ByteArray := prog_1_method_49_code
def yX4_refusePlace : MethodName := ⟨RX4, "refusePlace", "([LShyStrip$Row;II)I"⟩
abbrev cX4_ofOne : ByteArray := prog_1_method_50_code
def yX4_ofOne : MethodName := ⟨RX4, "ofOne", "(II)I"⟩
abbrev cX4_thereOf : ByteArray := prog_1_method_51_code
def yX4_thereOf : MethodName := ⟨RX4, "thereOf", "([LShyStrip$Row;)I"⟩
abbrev cX4_keptLands : ByteArray := prog_1_method_52_code
def yX4_keptLands : MethodName := ⟨RX4, "keptLands", "()I"⟩
abbrev cX4_nextSeated : ByteArray := prog_1_method_53_code
def yX4_nextSeated : MethodName := ⟨RX4, "nextSeated", "(LShyStrip$Row;)I"⟩
abbrev cX4_votesByTurns : ByteArray := prog_1_method_54_code
def yX4_votesByTurns : MethodName := ⟨RX4, "votesByTurns", "(LShyStrip$Land;IIII)I"⟩
abbrev cX4_betterFor : ByteArray := prog_1_method_55_code
def yX4_betterFor : MethodName := ⟨RX4, "betterFor", "(III)I"⟩
abbrev cX4_shareCrowns : ByteArray := prog_1_method_56_code
def yX4_shareCrowns : MethodName := ⟨RX4, "shareCrowns", "(IILShyStrip$Row;)V"⟩
abbrev cX4_isWronged : ByteArray := prog_1_method_57_code
def yX4_isWronged : MethodName := ⟨RX4, "isWronged", "(ILShyStrip$Row;)Z"⟩
abbrev cX4_refusePapers : ByteArray := prog_1_method_58_code
def yX4_refusePapers : MethodName := ⟨RX4, "refusePapers", "(II)I"⟩
abbrev cX4_agrees : ByteArray := prog_1_method_59_code
def yX4_agrees : MethodName := ⟨RX4, "agrees", "(IIILShyStrip$Row;)Z"⟩
abbrev cX4_waysToBeHere : ByteArray := prog_1_method_60_code
def yX4_waysToBeHere : MethodName := ⟨RX4, "waysToBeHere", "(III)J"⟩
abbrev cX4_power : ByteArray := prog_1_method_61_code
def yX4_power : MethodName := ⟨RX4, "power", "(II)J"⟩
abbrev cX4_tellFraction : ByteArray := prog_1_method_62_code
def yX4_tellFraction : MethodName := ⟨RX4, "tellFraction", "(JJ)V"⟩
abbrev cX4_coastsOf : ByteArray := prog_1_method_63_code
def yX4_coastsOf : MethodName := ⟨RX4, "coastsOf", "(II)I"⟩
abbrev cX4_westOf : ByteArray := prog_1_method_64_code
def yX4_westOf : MethodName := ⟨RX4, "westOf", "(I)I"⟩
abbrev cX4_eastOf : ByteArray := prog_1_method_65_code
def yX4_eastOf : MethodName := ⟨RX4, "eastOf", "(I)I"⟩
abbrev cX4_middleOf : ByteArray := prog_1_method_66_code
def yX4_middleOf : MethodName := ⟨RX4, "middleOf", "(II)I"⟩
def RX5 : String := "ShyStripModel"
def TX5 : u_T := fun k => match k with
  | 0 => ("ShyStripModel", "sizes", "[I", true)
  | 1 => ("ShyStripModel", "items", "[I", true)
  | 2 => ("ShyStripModel", "spare", "[I", true)
  | 3 => ("ShyStripModel", "lengths", "[I", true)
  | 4 => ("ShyStripModel", "bytes", "[I", true)
  | 5 => ("ShyStripModel", "now", "[I", true)
  | 6 => ("ShyStripModel", "draft", "[I", true)
  | 7 => ("ShyStripModel", "kept", "[I", true)
  | 8 => ("ShyStripModel", "isKept", "[Z", true)
  | 9 => ("ShyStripModel", "found", "[I", true)
  | 10 => ("ShyStripModel", "finding", "I", false)
  | 11 => ("ShyStripModel", "asked", "I", false)
  | 12 => ("ShyStripModel", "upper", "J", false)
  | 13 => ("ShyStripModel", "lower", "J", false)
  | 14 => ("ShyStripModel", "shares", "[I", true)
  | 15 => ("ShyStripModel", "years", "[I", true)
  | 16 => ("ShyStripModel", "move", "[I", true)
  | 17 => ("ShyStripModel", "best", "[I", true)
  | 18 => ("ShyStripModel", "coastW", "[I", true)
  | 19 => ("ShyStripModel", "coastE", "[I", true)
  | 20 => ("ShyStripModel", "place", "I", false)
  | _ => ("ShyStripModel", "isWell", "Z", false)
def tyX5 : Nat → FieldType := fun k => match k with
  | 0 => .array .int
  | 1 => .array .int
  | 2 => .array .int
  | 3 => .array .int
  | 4 => .array .int
  | 5 => .array .int
  | 6 => .array .int
  | 7 => .array .int
  | 8 => .array .boolean
  | 9 => .array .int
  | 10 => .int
  | 11 => .int
  | 12 => .long
  | 13 => .long
  | 14 => .array .int
  | 15 => .array .int
  | 16 => .array .int
  | 17 => .array .int
  | 18 => .array .int
  | 19 => .array .int
  | 20 => .int
  | _ => .boolean
abbrev wsX50 : List Cond := u_ws RX5 TX5 22
theorem nmX5 : ∀ a, a < 22 → ∀ b, b < 22 → a ≠ b → (TX5 a).2.1 ≠ (TX5 b).2.1 := by decide +kernel
theorem tyX5_ok : ∀ k, k < 22 → parseFieldDescriptor (TX5 k).2.2.1 = some (tyX5 k) := by decide +kernel
abbrev cX5_init : ByteArray := prog_7_method_1_code
def yX5_init : MethodName := ⟨RX5, "<init>", "()V"⟩
abbrev cX5_in : ByteArray := prog_7_method_3_code
def yX5_in : MethodName := ⟨RX5, "in", "(III)Z"⟩
abbrev cX5_has : ByteArray := prog_7_method_4_code
def yX5_has : MethodName := ⟨RX5, "has", "(II)Z"⟩
abbrev cX5_ones : ByteArray := prog_7_method_5_code
def yX5_ones : MethodName := ⟨RX5, "ones", "(I)I"⟩
abbrev cX5_off : ByteArray := prog_7_method_6_code
def yX5_off : MethodName := ⟨RX5, "off", "(II)I"⟩
abbrev cX5_finds : ByteArray := prog_7_method_7_code
def yX5_finds : MethodName := ⟨RX5, "finds", "(I)I"⟩
abbrev cX5_tells : ByteArray := prog_7_method_8_code
def yX5_tells : MethodName := ⟨RX5, "tells", "(II)I"⟩
abbrev cX5_tellsParts : ByteArray := prog_7_method_9_code
def yX5_tellsParts : MethodName := ⟨RX5, "tellsParts", "(JJ)I"⟩
abbrev cX5_isRow : ByteArray := prog_7_method_10_code
def yX5_isRow : MethodName := ⟨RX5, "isRow", "(I)Z"⟩
abbrev cX5_isText : ByteArray := prog_7_method_11_code
def yX5_isText : MethodName := ⟨RX5, "isText", "(I)Z"⟩
abbrev cX5_lays : ByteArray := prog_7_method_12_code
def yX5_lays : MethodName := ⟨RX5, "lays", "(II)V"⟩
abbrev cX5_row : ByteArray := prog_7_method_13_code
def yX5_row : MethodName := ⟨RX5, "row", "(II)I"⟩
abbrev cX5_lay : ByteArray := prog_7_method_14_code
def yX5_lay : MethodName := ⟨RX5, "lay", "(III)I"⟩
abbrev cX5_at : ByteArray := prog_7_method_15_code
def yX5_at : MethodName := ⟨RX5, "at", "(II)I"⟩
abbrev cX5_tear : ByteArray := prog_7_method_16_code
def yX5_tear : MethodName := ⟨RX5, "tear", "(I)I"⟩
abbrev cX5_copy : ByteArray := prog_7_method_17_code
def yX5_copy : MethodName := ⟨RX5, "copy", "(IIIII)I"⟩
abbrev cX5_mean : ByteArray := prog_7_method_18_code
def yX5_mean : MethodName := ⟨RX5, "mean", "(I)I"⟩
abbrev cX5_text : ByteArray := prog_7_method_19_code
def yX5_text : MethodName := ⟨RX5, "text", "(II)I"⟩
abbrev cX5_put : ByteArray := prog_7_method_20_code
def yX5_put : MethodName := ⟨RX5, "put", "(III)I"⟩
abbrev cX5_look : ByteArray := prog_7_method_21_code
def yX5_look : MethodName := ⟨RX5, "look", "(I)I"⟩
abbrev cX5_skips : ByteArray := prog_7_method_22_code
def yX5_skips : MethodName := ⟨RX5, "skips", "(I)V"⟩
abbrev cX5_figure : ByteArray := prog_7_method_23_code
def yX5_figure : MethodName := ⟨RX5, "figure", "(III)I"⟩
abbrev cX5_kindOf : ByteArray := prog_7_method_24_code
def yX5_kindOf : MethodName := ⟨RX5, "kindOf", "(I)I"⟩
abbrev cX5_readsHead : ByteArray := prog_7_method_25_code
def yX5_readsHead : MethodName := ⟨RX5, "readsHead", "(I)V"⟩
abbrev cX5_readsOne : ByteArray := prog_7_method_26_code
def yX5_readsOne : MethodName := ⟨RX5, "readsOne", "(I)V"⟩
abbrev cX5_reads : ByteArray := prog_7_method_27_code
def yX5_reads : MethodName := ⟨RX5, "reads", "(I)I"⟩
abbrev cX5_fault : ByteArray := prog_7_method_28_code
def yX5_fault : MethodName := ⟨RX5, "fault", "(I)I"⟩
abbrev cX5_copies : ByteArray := prog_7_method_29_code
def yX5_copies : MethodName := ⟨RX5, "copies", "([II[II)V"⟩
abbrev cX5_land : ByteArray := prog_7_method_30_code
def yX5_land : MethodName := ⟨RX5, "land", "(I)I"⟩
abbrev cX5_isOne : ByteArray := prog_7_method_31_code
def yX5_isOne : MethodName := ⟨RX5, "isOne", "(I)Z"⟩
abbrev cX5_are : ByteArray := prog_7_method_32_code
def yX5_are : MethodName := ⟨RX5, "are", "()Z"⟩
abbrev cX5_isCell : ByteArray := prog_7_method_33_code
def yX5_isCell : MethodName := ⟨RX5, "isCell", "(I)Z"⟩
abbrev cX5_areCoasts : ByteArray := prog_7_method_34_code
def yX5_areCoasts : MethodName := ⟨RX5, "areCoasts", "(II)Z"⟩
abbrev cX5_isOf : ByteArray := prog_7_method_35_code
def yX5_isOf : MethodName := ⟨RX5, "isOf", "(II)Z"⟩
abbrev cX5_belongsBy : ByteArray := prog_7_method_36_code
def yX5_belongsBy : MethodName := ⟨RX5, "belongsBy", "(IIIII)Z"⟩
abbrev cX5_belongs : ByteArray := prog_7_method_37_code
def yX5_belongs : MethodName := ⟨RX5, "belongs", "(III)Z"⟩
abbrev cX5_votesOf : ByteArray := prog_7_method_38_code
def yX5_votesOf : MethodName := ⟨RX5, "votesOf", "(I)I"⟩
abbrev cX5_belongers : ByteArray := prog_7_method_39_code
def yX5_belongers : MethodName := ⟨RX5, "belongers", "(II)I"⟩
abbrev cX5_belongersNow : ByteArray := prog_7_method_40_code
def yX5_belongersNow : MethodName := ⟨RX5, "belongersNow", "()I"⟩
abbrev cX5_votesIn : ByteArray := prog_7_method_41_code
def yX5_votesIn : MethodName := ⟨RX5, "votesIn", "(I)I"⟩
abbrev cX5_votesOut : ByteArray := prog_7_method_42_code
def yX5_votesOut : MethodName := ⟨RX5, "votesOut", "(IIII)I"⟩
abbrev cX5_oneHas : ByteArray := prog_7_method_43_code
def yX5_oneHas : MethodName := ⟨RX5, "oneHas", "(II)I"⟩
abbrev cX5_one : ByteArray := prog_7_method_44_code
def yX5_one : MethodName := ⟨RX5, "one", "(II)I"⟩
abbrev cX5_distance : ByteArray := prog_7_method_45_code
def yX5_distance : MethodName := ⟨RX5, "distance", "(I)I"⟩
abbrev cX5_mark : ByteArray := prog_7_method_46_code
def yX5_mark : MethodName := ⟨RX5, "mark", "(II)I"⟩
abbrev cX5_coastHas : ByteArray := prog_7_method_47_code
def yX5_coastHas : MethodName := ⟨RX5, "coastHas", "(I)I"⟩
abbrev cX5_coast : ByteArray := prog_7_method_48_code
def yX5_coast : MethodName := ⟨RX5, "coast", "(I)I"⟩
abbrev cX5_notes : ByteArray := prog_7_method_49_code
def yX5_notes : MethodName := ⟨RX5, "notes", "()V"⟩
abbrev cX5_later : ByteArray := prog_7_method_50_code
def yX5_later : MethodName := ⟨RX5, "later", "(II)I"⟩
abbrev cX5_ages : ByteArray := prog_7_method_51_code
def yX5_ages : MethodName := ⟨RX5, "ages", "()V"⟩
abbrev cX5_year : ByteArray := prog_7_method_52_code
def yX5_year : MethodName := ⟨RX5, "year", "()I"⟩
abbrev cX5_step : ByteArray := prog_7_method_53_code
def yX5_step : MethodName := ⟨RX5, "step", "(II)I"⟩
abbrev cX5_walk : ByteArray := prog_7_method_54_code
def yX5_walk : MethodName := ⟨RX5, "walk", "(II)I"⟩
abbrev cX5_undo : ByteArray := prog_7_method_55_code
def yX5_undo : MethodName := ⟨RX5, "undo", "(I)I"⟩
abbrev cX5_keep : ByteArray := prog_7_method_56_code
def yX5_keep : MethodName := ⟨RX5, "keep", "(I)I"⟩
abbrev cX5_on : ByteArray := prog_7_method_57_code
def yX5_on : MethodName := ⟨RX5, "on", "(I)I"⟩
abbrev cX5_belong : ByteArray := prog_7_method_58_code
def yX5_belong : MethodName := ⟨RX5, "belong", "()I"⟩
abbrev cX5_laws : ByteArray := prog_7_method_59_code
def yX5_laws : MethodName := ⟨RX5, "laws", "()I"⟩
abbrev cX5_laysShares : ByteArray := prog_7_method_60_code
def yX5_laysShares : MethodName := ⟨RX5, "laysShares", "(I)V"⟩
abbrev cX5_seats : ByteArray := prog_7_method_61_code
def yX5_seats : MethodName := ⟨RX5, "seats", "(II)I"⟩
abbrev cX5_fewest : ByteArray := prog_7_method_62_code
def yX5_fewest : MethodName := ⟨RX5, "fewest", "()I"⟩
abbrev cX5_coastsIn : ByteArray := prog_7_method_63_code
def yX5_coastsIn : MethodName := ⟨RX5, "coastsIn", "(I)I"⟩
abbrev cX5_then : ByteArray := prog_7_method_64_code
def yX5_then : MethodName := ⟨RX5, "then", "(I)I"⟩
abbrev cX5_when : ByteArray := prog_7_method_65_code
def yX5_when : MethodName := ⟨RX5, "when", "(II)I"⟩
abbrev cX5_round : ByteArray := prog_7_method_66_code
def yX5_round : MethodName := ⟨RX5, "round", "()I"⟩
abbrev cX5_moves : ByteArray := prog_7_method_67_code
def yX5_moves : MethodName := ⟨RX5, "moves", "(I)Z"⟩
abbrev cX5_comes : ByteArray := prog_7_method_68_code
def yX5_comes : MethodName := ⟨RX5, "comes", "(II)V"⟩
abbrev cX5_duel : ByteArray := prog_7_method_69_code
def yX5_duel : MethodName := ⟨RX5, "duel", "(I)I"⟩
abbrev cX5_peace : ByteArray := prog_7_method_70_code
def yX5_peace : MethodName := ⟨RX5, "peace", "(II)I"⟩
abbrev cX5_costOf : ByteArray := prog_7_method_71_code
def yX5_costOf : MethodName := ⟨RX5, "costOf", "(I)I"⟩
abbrev cX5_wayTo : ByteArray := prog_7_method_72_code
def yX5_wayTo : MethodName := ⟨RX5, "wayTo", "(II)I"⟩
abbrev cX5_way : ByteArray := prog_7_method_73_code
def yX5_way : MethodName := ⟨RX5, "way", "(II)I"⟩
abbrev cX5_farFrom : ByteArray := prog_7_method_74_code
def yX5_farFrom : MethodName := ⟨RX5, "farFrom", "(I)I"⟩
abbrev cX5_far : ByteArray := prog_7_method_75_code
def yX5_far : MethodName := ⟨RX5, "far", "(I)I"⟩
abbrev cX5_barred : ByteArray := prog_7_method_76_code
def yX5_barred : MethodName := ⟨RX5, "barred", "(II)I"⟩
abbrev cX5_goesWith : ByteArray := prog_7_method_77_code
def yX5_goesWith : MethodName := ⟨RX5, "goesWith", "(IIII)Z"⟩
abbrev cX5_kinds : ByteArray := prog_7_method_78_code
def yX5_kinds : MethodName := ⟨RX5, "kinds", "(II)I"⟩
abbrev cX5_spots : ByteArray := prog_7_method_79_code
def yX5_spots : MethodName := ⟨RX5, "spots", "(II)I"⟩
abbrev cX5_waysOf : ByteArray := prog_7_method_80_code
def yX5_waysOf : MethodName := ⟨RX5, "waysOf", "(III)J"⟩
abbrev cX5_belowOf : ByteArray := prog_7_method_81_code
def yX5_belowOf : MethodName := ⟨RX5, "belowOf", "(I)J"⟩
abbrev cX5_odds : ByteArray := prog_7_method_82_code
def yX5_odds : MethodName := ⟨RX5, "odds", "(II)I"⟩
abbrev cX5_mid : ByteArray := prog_7_method_83_code
def yX5_mid : MethodName := ⟨RX5, "mid", "(I)I"⟩
abbrev cX5_lots : ByteArray := prog_7_method_84_code
def yX5_lots : MethodName := ⟨RX5, "lots", "(II)I"⟩
abbrev cX5_asked : ByteArray := prog_7_method_85_code
def yX5_asked : MethodName := ⟨RX5, "asked", "()I"⟩
abbrev cX5_upper : ByteArray := prog_7_method_86_code
def yX5_upper : MethodName := ⟨RX5, "upper", "()J"⟩
abbrev cX5_lower : ByteArray := prog_7_method_87_code
def yX5_lower : MethodName := ⟨RX5, "lower", "()J"⟩
abbrev cX5_count : ByteArray := prog_7_method_88_code
def yX5_count : MethodName := ⟨RX5, "count", "(I)I"⟩
abbrev cX5_finding : ByteArray := prog_7_method_89_code
def yX5_finding : MethodName := ⟨RX5, "finding", "()I"⟩
abbrev cX5_findings : ByteArray := prog_7_method_90_code
def yX5_findings : MethodName := ⟨RX5, "findings", "(I)I"⟩
abbrev cX5_digest : ByteArray := prog_7_method_91_code
def yX5_digest : MethodName := ⟨RX5, "digest", "()J"⟩
def RJ6 : String := "java/lang/Integer"
def TJ6 : u_T := fun k => match k with
  | _ => ("", "", "", false)
def tyJ6 : Nat → FieldType := fun k => match k with
  | _ => .int
abbrev cJ6_bitCount_0f7a4 : ByteArray := prog_8_method_49_code
def yJ6_bitCount_0f7a4 : MethodName := ⟨RJ6, "bitCount", "(I)I"⟩
def RJ9 : String := "java/lang/Math"
def TJ9 : u_T := fun k => match k with
  | _ => ("", "", "", false)
def tyJ9 : Nat → FieldType := fun k => match k with
  | _ => .int
abbrev cJ9_floorMod_7cf53 : ByteArray := prog_9_method_50_code
def yJ9_floorMod_7cf53 : MethodName := ⟨RJ9, "floorMod", "(II)I"⟩
abbrev cJ9_abs_0f7a4 : ByteArray := prog_9_method_59_code
def yJ9_abs_0f7a4 : MethodName := ⟨RJ9, "abs", "(I)I"⟩
abbrev cJ9_max_7cf53 : ByteArray := prog_9_method_65_code
def yJ9_max_7cf53 : MethodName := ⟨RJ9, "max", "(II)I"⟩
abbrev cJ9_min_7cf53 : ByteArray := prog_9_method_69_code
def yJ9_min_7cf53 : MethodName := ⟨RJ9, "min", "(II)I"⟩
def RJ10 : String := "java/lang/System"
def TJ10 : u_T := fun k => match k with
  | _ => ("", "", "", false)
def tyJ10 : Nat → FieldType := fun k => match k with
  | _ => .int
def RL : String := "ShyStripLaw"
abbrev cL_law : ByteArray := code
def yL_law : MethodName := ⟨RL, "law", "([I)Z"⟩
abbrev vwCl : List vw_C := [(RX0, TX0, 6), (RX1, TX1, 15), (RX2, TX2, 1), (RX3, TX3, 2), (RX4, TX4, 12), (RX5, TX5, 22)]
end
section
theorem dX0_init_0 : decode cX0_init 0 = .ok (.aload_n 0, 1) := by decide +kernel
theorem dX0_init_1 : decode cX0_init 1 = .ok (.invokespecial 3, 3) := by decide +kernel
theorem dX0_init_4 : decode cX0_init 4 = .ok (.aload_n 0, 1) := by decide +kernel
theorem dX0_init_5 : decode cX0_init 5 = .ok (.bipush 40, 2) := by decide +kernel
theorem dX0_init_7 : decode cX0_init 7 = .ok (.newarray .int, 2) := by decide +kernel
theorem dX0_init_9 : decode cX0_init 9 = .ok (.putfield 9, 3) := by decide +kernel
theorem dX0_init_12 : decode cX0_init 12 = .ok (.aload_n 0, 1) := by decide +kernel
theorem dX0_init_13 : decode cX0_init 13 = .ok (.bipush 40, 2) := by decide +kernel
theorem dX0_init_15 : decode cX0_init 15 = .ok (.newarray .int, 2) := by decide +kernel
theorem dX0_init_17 : decode cX0_init 17 = .ok (.putfield 15, 3) := by decide +kernel
theorem dX0_init_20 : decode cX0_init 20 = .ok (.aload_n 0, 1) := by decide +kernel
theorem dX0_init_21 : decode cX0_init 21 = .ok (.bipush 40, 2) := by decide +kernel
theorem dX0_init_23 : decode cX0_init 23 = .ok (.newarray .int, 2) := by decide +kernel
theorem dX0_init_25 : decode cX0_init 25 = .ok (.putfield 18, 3) := by decide +kernel
theorem dX0_init_28 : decode cX0_init 28 = .ok (.aload_n 0, 1) := by decide +kernel
theorem dX0_init_29 : decode cX0_init 29 = .ok (.bipush 40, 2) := by decide +kernel
theorem dX0_init_31 : decode cX0_init 31 = .ok (.newarray .int, 2) := by decide +kernel
theorem dX0_init_33 : decode cX0_init 33 = .ok (.putfield 21, 3) := by decide +kernel
theorem dX0_init_36 : decode cX0_init 36 = .ok (.aload_n 0, 1) := by decide +kernel
theorem dX0_init_37 : decode cX0_init 37 = .ok (.bipush 40, 2) := by decide +kernel
theorem dX0_init_39 : decode cX0_init 39 = .ok (.newarray .int, 2) := by decide +kernel
theorem dX0_init_41 : decode cX0_init 41 = .ok (.putfield 24, 3) := by decide +kernel
theorem dX0_init_44 : decode cX0_init 44 = .ok (.aload_n 0, 1) := by decide +kernel
theorem dX0_init_45 : decode cX0_init 45 = .ok (.iconst 0, 1) := by decide +kernel
theorem dX0_init_46 : decode cX0_init 46 = .ok (.putfield 27, 3) := by decide +kernel
theorem dX0_init_49 : decode cX0_init 49 = .ok (.return_, 1) := by decide +kernel
theorem dX0_becomeAs_0 : decode cX0_becomeAs 0 = .ok (.aload_n 0, 1) := by decide +kernel
theorem dX0_becomeAs_1 : decode cX0_becomeAs 1 = .ok (.aload_n 1, 1) := by decide +kernel
theorem dX0_becomeAs_2 : decode cX0_becomeAs 2 = .ok (.getfield 27, 3) := by decide +kernel
theorem dX0_becomeAs_5 : decode cX0_becomeAs 5 = .ok (.putfield 27, 3) := by decide +kernel
theorem dX0_becomeAs_8 : decode cX0_becomeAs 8 = .ok (.aload_n 1, 1) := by decide +kernel
theorem dX0_becomeAs_9 : decode cX0_becomeAs 9 = .ok (.getfield 9, 3) := by decide +kernel
theorem dX0_becomeAs_12 : decode cX0_becomeAs 12 = .ok (.iconst 0, 1) := by decide +kernel
theorem dX0_becomeAs_13 : decode cX0_becomeAs 13 = .ok (.aload_n 0, 1) := by decide +kernel
theorem dX0_becomeAs_14 : decode cX0_becomeAs 14 = .ok (.getfield 9, 3) := by decide +kernel
theorem dX0_becomeAs_17 : decode cX0_becomeAs 17 = .ok (.iconst 0, 1) := by decide +kernel
theorem dX0_becomeAs_18 : decode cX0_becomeAs 18 = .ok (.bipush 40, 2) := by decide +kernel
theorem dX0_becomeAs_20 : decode cX0_becomeAs 20 = .ok (.invokestatic 31, 3) := by decide +kernel
theorem dX0_becomeAs_23 : decode cX0_becomeAs 23 = .ok (.aload_n 1, 1) := by decide +kernel
theorem dX0_becomeAs_24 : decode cX0_becomeAs 24 = .ok (.getfield 15, 3) := by decide +kernel
theorem dX0_becomeAs_27 : decode cX0_becomeAs 27 = .ok (.iconst 0, 1) := by decide +kernel
theorem dX0_becomeAs_28 : decode cX0_becomeAs 28 = .ok (.aload_n 0, 1) := by decide +kernel
theorem dX0_becomeAs_29 : decode cX0_becomeAs 29 = .ok (.getfield 15, 3) := by decide +kernel
theorem dX0_becomeAs_32 : decode cX0_becomeAs 32 = .ok (.iconst 0, 1) := by decide +kernel
theorem dX0_becomeAs_33 : decode cX0_becomeAs 33 = .ok (.bipush 40, 2) := by decide +kernel
theorem dX0_becomeAs_35 : decode cX0_becomeAs 35 = .ok (.invokestatic 31, 3) := by decide +kernel
theorem dX0_becomeAs_38 : decode cX0_becomeAs 38 = .ok (.aload_n 1, 1) := by decide +kernel
theorem dX0_becomeAs_39 : decode cX0_becomeAs 39 = .ok (.getfield 18, 3) := by decide +kernel
theorem dX0_becomeAs_42 : decode cX0_becomeAs 42 = .ok (.iconst 0, 1) := by decide +kernel
theorem dX0_becomeAs_43 : decode cX0_becomeAs 43 = .ok (.aload_n 0, 1) := by decide +kernel
theorem dX0_becomeAs_44 : decode cX0_becomeAs 44 = .ok (.getfield 18, 3) := by decide +kernel
theorem dX0_becomeAs_47 : decode cX0_becomeAs 47 = .ok (.iconst 0, 1) := by decide +kernel
theorem dX0_becomeAs_48 : decode cX0_becomeAs 48 = .ok (.bipush 40, 2) := by decide +kernel
theorem dX0_becomeAs_50 : decode cX0_becomeAs 50 = .ok (.invokestatic 31, 3) := by decide +kernel
theorem dX0_becomeAs_53 : decode cX0_becomeAs 53 = .ok (.aload_n 1, 1) := by decide +kernel
theorem dX0_becomeAs_54 : decode cX0_becomeAs 54 = .ok (.getfield 21, 3) := by decide +kernel
theorem dX0_becomeAs_57 : decode cX0_becomeAs 57 = .ok (.iconst 0, 1) := by decide +kernel
theorem dX0_becomeAs_58 : decode cX0_becomeAs 58 = .ok (.aload_n 0, 1) := by decide +kernel
theorem dX0_becomeAs_59 : decode cX0_becomeAs 59 = .ok (.getfield 21, 3) := by decide +kernel
theorem dX0_becomeAs_62 : decode cX0_becomeAs 62 = .ok (.iconst 0, 1) := by decide +kernel
theorem dX0_becomeAs_63 : decode cX0_becomeAs 63 = .ok (.bipush 40, 2) := by decide +kernel
theorem dX0_becomeAs_65 : decode cX0_becomeAs 65 = .ok (.invokestatic 31, 3) := by decide +kernel
theorem dX0_becomeAs_68 : decode cX0_becomeAs 68 = .ok (.aload_n 1, 1) := by decide +kernel
theorem dX0_becomeAs_69 : decode cX0_becomeAs 69 = .ok (.getfield 24, 3) := by decide +kernel
theorem dX0_becomeAs_72 : decode cX0_becomeAs 72 = .ok (.iconst 0, 1) := by decide +kernel
theorem dX0_becomeAs_73 : decode cX0_becomeAs 73 = .ok (.aload_n 0, 1) := by decide +kernel
theorem dX0_becomeAs_74 : decode cX0_becomeAs 74 = .ok (.getfield 24, 3) := by decide +kernel
theorem dX0_becomeAs_77 : decode cX0_becomeAs 77 = .ok (.iconst 0, 1) := by decide +kernel
theorem dX0_becomeAs_78 : decode cX0_becomeAs 78 = .ok (.bipush 40, 2) := by decide +kernel
theorem dX0_becomeAs_80 : decode cX0_becomeAs 80 = .ok (.invokestatic 31, 3) := by decide +kernel
theorem dX0_becomeAs_83 : decode cX0_becomeAs 83 = .ok (.return_, 1) := by decide +kernel
theorem dX1_init_0 : decode cX1_init 0 = .ok (.aload_n 0, 1) := by decide +kernel
theorem dX1_init_1 : decode cX1_init 1 = .ok (.invokespecial 3, 3) := by decide +kernel
theorem dX1_init_4 : decode cX1_init 4 = .ok (.aload_n 0, 1) := by decide +kernel
theorem dX1_init_5 : decode cX1_init 5 = .ok (.iconst 0, 1) := by decide +kernel
theorem dX1_init_6 : decode cX1_init 6 = .ok (.putfield 9, 3) := by decide +kernel
theorem dX1_init_9 : decode cX1_init 9 = .ok (.aload_n 0, 1) := by decide +kernel
theorem dX1_init_10 : decode cX1_init 10 = .ok (.iconst 0, 1) := by decide +kernel
theorem dX1_init_11 : decode cX1_init 11 = .ok (.putfield 15, 3) := by decide +kernel
theorem dX1_init_14 : decode cX1_init 14 = .ok (.aload_n 0, 1) := by decide +kernel
theorem dX1_init_15 : decode cX1_init 15 = .ok (.iconst 0, 1) := by decide +kernel
theorem dX1_init_16 : decode cX1_init 16 = .ok (.putfield 18, 3) := by decide +kernel
theorem dX1_init_19 : decode cX1_init 19 = .ok (.aload_n 0, 1) := by decide +kernel
theorem dX1_init_20 : decode cX1_init 20 = .ok (.iconst 0, 1) := by decide +kernel
theorem dX1_init_21 : decode cX1_init 21 = .ok (.putfield 21, 3) := by decide +kernel
theorem dX1_init_24 : decode cX1_init 24 = .ok (.aload_n 0, 1) := by decide +kernel
theorem dX1_init_25 : decode cX1_init 25 = .ok (.iconst 0, 1) := by decide +kernel
theorem dX1_init_26 : decode cX1_init 26 = .ok (.putfield 24, 3) := by decide +kernel
theorem dX1_init_29 : decode cX1_init 29 = .ok (.aload_n 0, 1) := by decide +kernel
theorem dX1_init_30 : decode cX1_init 30 = .ok (.iconst 0, 1) := by decide +kernel
theorem dX1_init_31 : decode cX1_init 31 = .ok (.putfield 27, 3) := by decide +kernel
theorem dX1_init_34 : decode cX1_init 34 = .ok (.aload_n 0, 1) := by decide +kernel
theorem dX1_init_35 : decode cX1_init 35 = .ok (.iconst 0, 1) := by decide +kernel
theorem dX1_init_36 : decode cX1_init 36 = .ok (.putfield 30, 3) := by decide +kernel
theorem dX1_init_39 : decode cX1_init 39 = .ok (.aload_n 0, 1) := by decide +kernel
theorem dX1_init_40 : decode cX1_init 40 = .ok (.iconst 0, 1) := by decide +kernel
theorem dX1_init_41 : decode cX1_init 41 = .ok (.putfield 33, 3) := by decide +kernel
theorem dX1_init_44 : decode cX1_init 44 = .ok (.aload_n 0, 1) := by decide +kernel
theorem dX1_init_45 : decode cX1_init 45 = .ok (.iconst 0, 1) := by decide +kernel
theorem dX1_init_46 : decode cX1_init 46 = .ok (.putfield 36, 3) := by decide +kernel
theorem dX1_init_49 : decode cX1_init 49 = .ok (.aload_n 0, 1) := by decide +kernel
theorem dX1_init_50 : decode cX1_init 50 = .ok (.bipush 6, 2) := by decide +kernel
theorem dX1_init_52 : decode cX1_init 52 = .ok (.newarray .int, 2) := by decide +kernel
theorem dX1_init_54 : decode cX1_init 54 = .ok (.putfield 39, 3) := by decide +kernel
theorem dX1_init_57 : decode cX1_init 57 = .ok (.aload_n 0, 1) := by decide +kernel
theorem dX1_init_58 : decode cX1_init 58 = .ok (.bipush 6, 2) := by decide +kernel
theorem dX1_init_60 : decode cX1_init 60 = .ok (.newarray .int, 2) := by decide +kernel
theorem dX1_init_62 : decode cX1_init 62 = .ok (.putfield 43, 3) := by decide +kernel
theorem dX1_init_65 : decode cX1_init 65 = .ok (.aload_n 0, 1) := by decide +kernel
theorem dX1_init_66 : decode cX1_init 66 = .ok (.bipush 6, 2) := by decide +kernel
theorem dX1_init_68 : decode cX1_init 68 = .ok (.newarray .int, 2) := by decide +kernel
theorem dX1_init_70 : decode cX1_init 70 = .ok (.putfield 46, 3) := by decide +kernel
theorem dX1_init_73 : decode cX1_init 73 = .ok (.aload_n 0, 1) := by decide +kernel
theorem dX1_init_74 : decode cX1_init 74 = .ok (.bipush 6, 2) := by decide +kernel
theorem dX1_init_76 : decode cX1_init 76 = .ok (.newarray .int, 2) := by decide +kernel
theorem dX1_init_78 : decode cX1_init 78 = .ok (.putfield 49, 3) := by decide +kernel
theorem dX1_init_81 : decode cX1_init 81 = .ok (.aload_n 0, 1) := by decide +kernel
theorem dX1_init_82 : decode cX1_init 82 = .ok (.bipush 6, 2) := by decide +kernel
theorem dX1_init_84 : decode cX1_init 84 = .ok (.newarray .int, 2) := by decide +kernel
theorem dX1_init_86 : decode cX1_init 86 = .ok (.putfield 52, 3) := by decide +kernel
theorem dX1_init_89 : decode cX1_init 89 = .ok (.aload_n 0, 1) := by decide +kernel
theorem dX1_init_90 : decode cX1_init 90 = .ok (.new 55, 3) := by decide +kernel
theorem dX1_init_93 : decode cX1_init 93 = .ok (.dup, 1) := by decide +kernel
theorem dX1_init_94 : decode cX1_init 94 = .ok (.invokespecial 57, 3) := by decide +kernel
theorem dX1_init_97 : decode cX1_init 97 = .ok (.putfield 58, 3) := by decide +kernel
theorem dX1_init_100 : decode cX1_init 100 = .ok (.return_, 1) := by decide +kernel
theorem dX1_isThere_0 : decode cX1_isThere 0 = .ok (.aload_n 0, 1) := by decide +kernel
theorem dX1_isThere_1 : decode cX1_isThere 1 = .ok (.getfield 9, 3) := by decide +kernel
theorem dX1_isThere_4 : decode cX1_isThere 4 = .ok (.ifCond .le 7, 3) := by decide +kernel
theorem dX1_isThere_7 : decode cX1_isThere 7 = .ok (.iconst 1, 1) := by decide +kernel
theorem dX1_isThere_8 : decode cX1_isThere 8 = .ok (.goto 4, 3) := by decide +kernel
theorem dX1_isThere_11 : decode cX1_isThere 11 = .ok (.iconst 0, 1) := by decide +kernel
theorem dX1_isThere_12 : decode cX1_isThere 12 = .ok (.ireturn, 1) := by decide +kernel
theorem dX1_hasCell_0 : decode cX1_hasCell 0 = .ok (.iload_n 1, 1) := by decide +kernel
theorem dX1_hasCell_1 : decode cX1_hasCell 1 = .ok (.ifCond .lt 15, 3) := by decide +kernel
theorem dX1_hasCell_4 : decode cX1_hasCell 4 = .ok (.iload_n 1, 1) := by decide +kernel
theorem dX1_hasCell_5 : decode cX1_hasCell 5 = .ok (.aload_n 0, 1) := by decide +kernel
theorem dX1_hasCell_6 : decode cX1_hasCell 6 = .ok (.getfield 9, 3) := by decide +kernel
theorem dX1_hasCell_9 : decode cX1_hasCell 9 = .ok (.if_icmp .ge 7, 3) := by decide +kernel
theorem dX1_hasCell_12 : decode cX1_hasCell 12 = .ok (.iconst 1, 1) := by decide +kernel
theorem dX1_hasCell_13 : decode cX1_hasCell 13 = .ok (.goto 4, 3) := by decide +kernel
theorem dX1_hasCell_16 : decode cX1_hasCell 16 = .ok (.iconst 0, 1) := by decide +kernel
theorem dX1_hasCell_17 : decode cX1_hasCell 17 = .ok (.ireturn, 1) := by decide +kernel
theorem dX1_hasOne_0 : decode cX1_hasOne 0 = .ok (.iload_n 1, 1) := by decide +kernel
theorem dX1_hasOne_1 : decode cX1_hasOne 1 = .ok (.ifCond .lt 15, 3) := by decide +kernel
theorem dX1_hasOne_4 : decode cX1_hasOne 4 = .ok (.iload_n 1, 1) := by decide +kernel
theorem dX1_hasOne_5 : decode cX1_hasOne 5 = .ok (.aload_n 0, 1) := by decide +kernel
theorem dX1_hasOne_6 : decode cX1_hasOne 6 = .ok (.getfield 36, 3) := by decide +kernel
theorem dX1_hasOne_9 : decode cX1_hasOne 9 = .ok (.if_icmp .ge 7, 3) := by decide +kernel
theorem dX1_hasOne_12 : decode cX1_hasOne 12 = .ok (.iconst 1, 1) := by decide +kernel
theorem dX1_hasOne_13 : decode cX1_hasOne 13 = .ok (.goto 4, 3) := by decide +kernel
theorem dX1_hasOne_16 : decode cX1_hasOne 16 = .ok (.iconst 0, 1) := by decide +kernel
theorem dX1_hasOne_17 : decode cX1_hasOne 17 = .ok (.ireturn, 1) := by decide +kernel
theorem dX1_hasRoomFor_0 : decode cX1_hasRoomFor 0 = .ok (.aload_n 0, 1) := by decide +kernel
theorem dX1_hasRoomFor_1 : decode cX1_hasRoomFor 1 = .ok (.getfield 58, 3) := by decide +kernel
theorem dX1_hasRoomFor_4 : decode cX1_hasRoomFor 4 = .ok (.getfield 62, 3) := by decide +kernel
theorem dX1_hasRoomFor_7 : decode cX1_hasRoomFor 7 = .ok (.iload_n 1, 1) := by decide +kernel
theorem dX1_hasRoomFor_8 : decode cX1_hasRoomFor 8 = .ok (.iadd, 1) := by decide +kernel
theorem dX1_hasRoomFor_9 : decode cX1_hasRoomFor 9 = .ok (.bipush 40, 2) := by decide +kernel
theorem dX1_hasRoomFor_11 : decode cX1_hasRoomFor 11 = .ok (.if_icmp .gt 7, 3) := by decide +kernel
theorem dX1_hasRoomFor_14 : decode cX1_hasRoomFor 14 = .ok (.iconst 1, 1) := by decide +kernel
theorem dX1_hasRoomFor_15 : decode cX1_hasRoomFor 15 = .ok (.goto 4, 3) := by decide +kernel
theorem dX1_hasRoomFor_18 : decode cX1_hasRoomFor 18 = .ok (.iconst 0, 1) := by decide +kernel
theorem dX1_hasRoomFor_19 : decode cX1_hasRoomFor 19 = .ok (.ireturn, 1) := by decide +kernel
theorem dX1_canBeCoasts_0 : decode cX1_canBeCoasts 0 = .ok (.iload_n 1, 1) := by decide +kernel
theorem dX1_canBeCoasts_1 : decode cX1_canBeCoasts 1 = .ok (.ifCond .lt 20, 3) := by decide +kernel
theorem dX1_canBeCoasts_4 : decode cX1_canBeCoasts 4 = .ok (.iload_n 1, 1) := by decide +kernel
theorem dX1_canBeCoasts_5 : decode cX1_canBeCoasts 5 = .ok (.iload_n 2, 1) := by decide +kernel
theorem dX1_canBeCoasts_6 : decode cX1_canBeCoasts 6 = .ok (.if_icmp .gt 15, 3) := by decide +kernel
theorem dX1_canBeCoasts_9 : decode cX1_canBeCoasts 9 = .ok (.iload_n 2, 1) := by decide +kernel
theorem dX1_canBeCoasts_10 : decode cX1_canBeCoasts 10 = .ok (.aload_n 0, 1) := by decide +kernel
theorem dX1_canBeCoasts_11 : decode cX1_canBeCoasts 11 = .ok (.getfield 9, 3) := by decide +kernel
theorem dX1_canBeCoasts_14 : decode cX1_canBeCoasts 14 = .ok (.if_icmp .gt 7, 3) := by decide +kernel
theorem dX1_canBeCoasts_17 : decode cX1_canBeCoasts 17 = .ok (.iconst 1, 1) := by decide +kernel
theorem dX1_canBeCoasts_18 : decode cX1_canBeCoasts 18 = .ok (.goto 4, 3) := by decide +kernel
theorem dX1_canBeCoasts_21 : decode cX1_canBeCoasts 21 = .ok (.iconst 0, 1) := by decide +kernel
theorem dX1_canBeCoasts_22 : decode cX1_canBeCoasts 22 = .ok (.ireturn, 1) := by decide +kernel
theorem dX1_strip_0 : decode cX1_strip 0 = .ok (.aload_n 0, 1) := by decide +kernel
theorem dX1_strip_1 : decode cX1_strip 1 = .ok (.getfield 18, 3) := by decide +kernel
theorem dX1_strip_4 : decode cX1_strip 4 = .ok (.aload_n 0, 1) := by decide +kernel
theorem dX1_strip_5 : decode cX1_strip 5 = .ok (.getfield 15, 3) := by decide +kernel
theorem dX1_strip_8 : decode cX1_strip 8 = .ok (.isub, 1) := by decide +kernel
theorem dX1_strip_9 : decode cX1_strip 9 = .ok (.ireturn, 1) := by decide +kernel
theorem dX1_coasts_0 : decode cX1_coasts 0 = .ok (.aload_n 0, 1) := by decide +kernel
theorem dX1_coasts_1 : decode cX1_coasts 1 = .ok (.getfield 15, 3) := by decide +kernel
theorem dX1_coasts_4 : decode cX1_coasts 4 = .ok (.aload_n 0, 1) := by decide +kernel
theorem dX1_coasts_5 : decode cX1_coasts 5 = .ok (.getfield 18, 3) := by decide +kernel
theorem dX1_coasts_8 : decode cX1_coasts 8 = .ok (.invokestatic 65, 3) := by decide +kernel
theorem dX1_coasts_11 : decode cX1_coasts 11 = .ok (.ireturn, 1) := by decide +kernel
theorem dX1_becomeAs_0 : decode cX1_becomeAs 0 = .ok (.aload_n 0, 1) := by decide +kernel
theorem dX1_becomeAs_1 : decode cX1_becomeAs 1 = .ok (.aload_n 1, 1) := by decide +kernel
theorem dX1_becomeAs_2 : decode cX1_becomeAs 2 = .ok (.getfield 9, 3) := by decide +kernel
theorem dX1_becomeAs_5 : decode cX1_becomeAs 5 = .ok (.putfield 9, 3) := by decide +kernel
theorem dX1_becomeAs_8 : decode cX1_becomeAs 8 = .ok (.aload_n 0, 1) := by decide +kernel
theorem dX1_becomeAs_9 : decode cX1_becomeAs 9 = .ok (.aload_n 1, 1) := by decide +kernel
theorem dX1_becomeAs_10 : decode cX1_becomeAs 10 = .ok (.getfield 15, 3) := by decide +kernel
theorem dX1_becomeAs_13 : decode cX1_becomeAs 13 = .ok (.putfield 15, 3) := by decide +kernel
theorem dX1_becomeAs_16 : decode cX1_becomeAs 16 = .ok (.aload_n 0, 1) := by decide +kernel
theorem dX1_becomeAs_17 : decode cX1_becomeAs 17 = .ok (.aload_n 1, 1) := by decide +kernel
theorem dX1_becomeAs_18 : decode cX1_becomeAs 18 = .ok (.getfield 18, 3) := by decide +kernel
theorem dX1_becomeAs_21 : decode cX1_becomeAs 21 = .ok (.putfield 18, 3) := by decide +kernel
theorem dX1_becomeAs_24 : decode cX1_becomeAs 24 = .ok (.aload_n 0, 1) := by decide +kernel
theorem dX1_becomeAs_25 : decode cX1_becomeAs 25 = .ok (.aload_n 1, 1) := by decide +kernel
theorem dX1_becomeAs_26 : decode cX1_becomeAs 26 = .ok (.getfield 21, 3) := by decide +kernel
theorem dX1_becomeAs_29 : decode cX1_becomeAs 29 = .ok (.putfield 21, 3) := by decide +kernel
theorem dX1_becomeAs_32 : decode cX1_becomeAs 32 = .ok (.aload_n 0, 1) := by decide +kernel
theorem dX1_becomeAs_33 : decode cX1_becomeAs 33 = .ok (.aload_n 1, 1) := by decide +kernel
theorem dX1_becomeAs_34 : decode cX1_becomeAs 34 = .ok (.getfield 24, 3) := by decide +kernel
theorem dX1_becomeAs_37 : decode cX1_becomeAs 37 = .ok (.putfield 24, 3) := by decide +kernel
theorem dX1_becomeAs_40 : decode cX1_becomeAs 40 = .ok (.aload_n 0, 1) := by decide +kernel
theorem dX1_becomeAs_41 : decode cX1_becomeAs 41 = .ok (.aload_n 1, 1) := by decide +kernel
theorem dX1_becomeAs_42 : decode cX1_becomeAs 42 = .ok (.getfield 27, 3) := by decide +kernel
theorem dX1_becomeAs_45 : decode cX1_becomeAs 45 = .ok (.putfield 27, 3) := by decide +kernel
theorem dX1_becomeAs_48 : decode cX1_becomeAs 48 = .ok (.aload_n 0, 1) := by decide +kernel
theorem dX1_becomeAs_49 : decode cX1_becomeAs 49 = .ok (.aload_n 1, 1) := by decide +kernel
theorem dX1_becomeAs_50 : decode cX1_becomeAs 50 = .ok (.getfield 30, 3) := by decide +kernel
theorem dX1_becomeAs_53 : decode cX1_becomeAs 53 = .ok (.putfield 30, 3) := by decide +kernel
theorem dX1_becomeAs_56 : decode cX1_becomeAs 56 = .ok (.aload_n 0, 1) := by decide +kernel
theorem dX1_becomeAs_57 : decode cX1_becomeAs 57 = .ok (.aload_n 1, 1) := by decide +kernel
theorem dX1_becomeAs_58 : decode cX1_becomeAs 58 = .ok (.getfield 33, 3) := by decide +kernel
theorem dX1_becomeAs_61 : decode cX1_becomeAs 61 = .ok (.putfield 33, 3) := by decide +kernel
theorem dX1_becomeAs_64 : decode cX1_becomeAs 64 = .ok (.aload_n 0, 1) := by decide +kernel
theorem dX1_becomeAs_65 : decode cX1_becomeAs 65 = .ok (.aload_n 1, 1) := by decide +kernel
theorem dX1_becomeAs_66 : decode cX1_becomeAs 66 = .ok (.getfield 36, 3) := by decide +kernel
theorem dX1_becomeAs_69 : decode cX1_becomeAs 69 = .ok (.putfield 36, 3) := by decide +kernel
theorem dX1_becomeAs_72 : decode cX1_becomeAs 72 = .ok (.aload_n 1, 1) := by decide +kernel
theorem dX1_becomeAs_73 : decode cX1_becomeAs 73 = .ok (.getfield 39, 3) := by decide +kernel
theorem dX1_becomeAs_76 : decode cX1_becomeAs 76 = .ok (.iconst 0, 1) := by decide +kernel
theorem dX1_becomeAs_77 : decode cX1_becomeAs 77 = .ok (.aload_n 0, 1) := by decide +kernel
theorem dX1_becomeAs_78 : decode cX1_becomeAs 78 = .ok (.getfield 39, 3) := by decide +kernel
theorem dX1_becomeAs_81 : decode cX1_becomeAs 81 = .ok (.iconst 0, 1) := by decide +kernel
theorem dX1_becomeAs_82 : decode cX1_becomeAs 82 = .ok (.bipush 6, 2) := by decide +kernel
theorem dX1_becomeAs_84 : decode cX1_becomeAs 84 = .ok (.invokestatic 69, 3) := by decide +kernel
theorem dX1_becomeAs_87 : decode cX1_becomeAs 87 = .ok (.aload_n 1, 1) := by decide +kernel
theorem dX1_becomeAs_88 : decode cX1_becomeAs 88 = .ok (.getfield 43, 3) := by decide +kernel
theorem dX1_becomeAs_91 : decode cX1_becomeAs 91 = .ok (.iconst 0, 1) := by decide +kernel
theorem dX1_becomeAs_92 : decode cX1_becomeAs 92 = .ok (.aload_n 0, 1) := by decide +kernel
theorem dX1_becomeAs_93 : decode cX1_becomeAs 93 = .ok (.getfield 43, 3) := by decide +kernel
theorem dX1_becomeAs_96 : decode cX1_becomeAs 96 = .ok (.iconst 0, 1) := by decide +kernel
theorem dX1_becomeAs_97 : decode cX1_becomeAs 97 = .ok (.bipush 6, 2) := by decide +kernel
theorem dX1_becomeAs_99 : decode cX1_becomeAs 99 = .ok (.invokestatic 69, 3) := by decide +kernel
theorem dX1_becomeAs_102 : decode cX1_becomeAs 102 = .ok (.aload_n 1, 1) := by decide +kernel
theorem dX1_becomeAs_103 : decode cX1_becomeAs 103 = .ok (.getfield 46, 3) := by decide +kernel
theorem dX1_becomeAs_106 : decode cX1_becomeAs 106 = .ok (.iconst 0, 1) := by decide +kernel
theorem dX1_becomeAs_107 : decode cX1_becomeAs 107 = .ok (.aload_n 0, 1) := by decide +kernel
theorem dX1_becomeAs_108 : decode cX1_becomeAs 108 = .ok (.getfield 46, 3) := by decide +kernel
theorem dX1_becomeAs_111 : decode cX1_becomeAs 111 = .ok (.iconst 0, 1) := by decide +kernel
theorem dX1_becomeAs_112 : decode cX1_becomeAs 112 = .ok (.bipush 6, 2) := by decide +kernel
theorem dX1_becomeAs_114 : decode cX1_becomeAs 114 = .ok (.invokestatic 69, 3) := by decide +kernel
theorem dX1_becomeAs_117 : decode cX1_becomeAs 117 = .ok (.aload_n 1, 1) := by decide +kernel
theorem dX1_becomeAs_118 : decode cX1_becomeAs 118 = .ok (.getfield 49, 3) := by decide +kernel
theorem dX1_becomeAs_121 : decode cX1_becomeAs 121 = .ok (.iconst 0, 1) := by decide +kernel
theorem dX1_becomeAs_122 : decode cX1_becomeAs 122 = .ok (.aload_n 0, 1) := by decide +kernel
theorem dX1_becomeAs_123 : decode cX1_becomeAs 123 = .ok (.getfield 49, 3) := by decide +kernel
theorem dX1_becomeAs_126 : decode cX1_becomeAs 126 = .ok (.iconst 0, 1) := by decide +kernel
theorem dX1_becomeAs_127 : decode cX1_becomeAs 127 = .ok (.bipush 6, 2) := by decide +kernel
theorem dX1_becomeAs_129 : decode cX1_becomeAs 129 = .ok (.invokestatic 69, 3) := by decide +kernel
theorem dX1_becomeAs_132 : decode cX1_becomeAs 132 = .ok (.aload_n 1, 1) := by decide +kernel
theorem dX1_becomeAs_133 : decode cX1_becomeAs 133 = .ok (.getfield 52, 3) := by decide +kernel
theorem dX1_becomeAs_136 : decode cX1_becomeAs 136 = .ok (.iconst 0, 1) := by decide +kernel
theorem dX1_becomeAs_137 : decode cX1_becomeAs 137 = .ok (.aload_n 0, 1) := by decide +kernel
theorem dX1_becomeAs_138 : decode cX1_becomeAs 138 = .ok (.getfield 52, 3) := by decide +kernel
theorem dX1_becomeAs_141 : decode cX1_becomeAs 141 = .ok (.iconst 0, 1) := by decide +kernel
theorem dX1_becomeAs_142 : decode cX1_becomeAs 142 = .ok (.bipush 6, 2) := by decide +kernel
theorem dX1_becomeAs_144 : decode cX1_becomeAs 144 = .ok (.invokestatic 69, 3) := by decide +kernel
theorem dX1_becomeAs_147 : decode cX1_becomeAs 147 = .ok (.aload_n 0, 1) := by decide +kernel
theorem dX1_becomeAs_148 : decode cX1_becomeAs 148 = .ok (.getfield 58, 3) := by decide +kernel
theorem dX1_becomeAs_151 : decode cX1_becomeAs 151 = .ok (.aload_n 1, 1) := by decide +kernel
theorem dX1_becomeAs_152 : decode cX1_becomeAs 152 = .ok (.getfield 58, 3) := by decide +kernel
theorem dX1_becomeAs_155 : decode cX1_becomeAs 155 = .ok (.invokevirtual 75, 3) := by decide +kernel
theorem dX1_becomeAs_158 : decode cX1_becomeAs 158 = .ok (.return_, 1) := by decide +kernel
theorem dX1_isOf_0 : decode cX1_isOf 0 = .ok (.aload_n 0, 1) := by decide +kernel
theorem dX1_isOf_1 : decode cX1_isOf 1 = .ok (.getfield 39, 3) := by decide +kernel
theorem dX1_isOf_4 : decode cX1_isOf 4 = .ok (.iload_n 1, 1) := by decide +kernel
theorem dX1_isOf_5 : decode cX1_isOf 5 = .ok (.iaload, 1) := by decide +kernel
theorem dX1_isOf_6 : decode cX1_isOf 6 = .ok (.istore_n 3, 1) := by decide +kernel
theorem dX1_isOf_7 : decode cX1_isOf 7 = .ok (.iload_n 2, 1) := by decide +kernel
theorem dX1_isOf_8 : decode cX1_isOf 8 = .ok (.ifCond .eq 28, 3) := by decide +kernel
theorem dX1_isOf_11 : decode cX1_isOf 11 = .ok (.iload_n 3, 1) := by decide +kernel
theorem dX1_isOf_12 : decode cX1_isOf 12 = .ok (.iload_n 2, 1) := by decide +kernel
theorem dX1_isOf_13 : decode cX1_isOf 13 = .ok (.if_icmp .eq 23, 3) := by decide +kernel
theorem dX1_isOf_16 : decode cX1_isOf 16 = .ok (.iload_n 2, 1) := by decide +kernel
theorem dX1_isOf_17 : decode cX1_isOf 17 = .ok (.iconst 1, 1) := by decide +kernel
theorem dX1_isOf_18 : decode cX1_isOf 18 = .ok (.if_icmp .ne 8, 3) := by decide +kernel
theorem dX1_isOf_21 : decode cX1_isOf 21 = .ok (.iload_n 3, 1) := by decide +kernel
theorem dX1_isOf_22 : decode cX1_isOf 22 = .ok (.iconst 4, 1) := by decide +kernel
theorem dX1_isOf_23 : decode cX1_isOf 23 = .ok (.if_icmp .eq 13, 3) := by decide +kernel
theorem dX1_isOf_26 : decode cX1_isOf 26 = .ok (.iload_n 2, 1) := by decide +kernel
theorem dX1_isOf_27 : decode cX1_isOf 27 = .ok (.iconst 2, 1) := by decide +kernel
theorem dX1_isOf_28 : decode cX1_isOf 28 = .ok (.if_icmp .ne 12, 3) := by decide +kernel
theorem dX1_isOf_31 : decode cX1_isOf 31 = .ok (.iload_n 3, 1) := by decide +kernel
theorem dX1_isOf_32 : decode cX1_isOf 32 = .ok (.iconst 5, 1) := by decide +kernel
theorem dX1_isOf_33 : decode cX1_isOf 33 = .ok (.if_icmp .ne 7, 3) := by decide +kernel
theorem dX1_isOf_36 : decode cX1_isOf 36 = .ok (.iconst 1, 1) := by decide +kernel
theorem dX1_isOf_37 : decode cX1_isOf 37 = .ok (.goto 4, 3) := by decide +kernel
theorem dX1_isOf_40 : decode cX1_isOf 40 = .ok (.iconst 0, 1) := by decide +kernel
theorem dX1_isOf_41 : decode cX1_isOf 41 = .ok (.ireturn, 1) := by decide +kernel
theorem dX1_ladies_0 : decode cX1_ladies 0 = .ok (.iconst 0, 1) := by decide +kernel
theorem dX1_ladies_1 : decode cX1_ladies 1 = .ok (.istore_n 1, 1) := by decide +kernel
theorem dX1_ladies_2 : decode cX1_ladies 2 = .ok (.iconst 0, 1) := by decide +kernel
theorem dX1_ladies_3 : decode cX1_ladies 3 = .ok (.istore_n 2, 1) := by decide +kernel
theorem dX1_ladies_4 : decode cX1_ladies 4 = .ok (.iload_n 2, 1) := by decide +kernel
theorem dX1_ladies_5 : decode cX1_ladies 5 = .ok (.aload_n 0, 1) := by decide +kernel
theorem dX1_ladies_6 : decode cX1_ladies 6 = .ok (.getfield 36, 3) := by decide +kernel
theorem dX1_ladies_9 : decode cX1_ladies 9 = .ok (.if_icmp .ge 21, 3) := by decide +kernel
theorem dX1_ladies_12 : decode cX1_ladies 12 = .ok (.aload_n 0, 1) := by decide +kernel
theorem dX1_ladies_13 : decode cX1_ladies 13 = .ok (.iload_n 2, 1) := by decide +kernel
theorem dX1_ladies_14 : decode cX1_ladies 14 = .ok (.iconst 2, 1) := by decide +kernel
theorem dX1_ladies_15 : decode cX1_ladies 15 = .ok (.invokevirtual 79, 3) := by decide +kernel
theorem dX1_ladies_18 : decode cX1_ladies 18 = .ok (.ifCond .eq 6, 3) := by decide +kernel
theorem dX1_ladies_21 : decode cX1_ladies 21 = .ok (.iinc 1 1, 3) := by decide +kernel
theorem dX1_ladies_24 : decode cX1_ladies 24 = .ok (.iinc 2 1, 3) := by decide +kernel
theorem dX1_ladies_27 : decode cX1_ladies 27 = .ok (.goto (-23), 3) := by decide +kernel
theorem dX1_ladies_30 : decode cX1_ladies 30 = .ok (.iload_n 1, 1) := by decide +kernel
theorem dX1_ladies_31 : decode cX1_ladies 31 = .ok (.ireturn, 1) := by decide +kernel
theorem dX1_votes_0 : decode cX1_votes 0 = .ok (.aload_n 0, 1) := by decide +kernel
theorem dX1_votes_1 : decode cX1_votes 1 = .ok (.getfield 39, 3) := by decide +kernel
theorem dX1_votes_4 : decode cX1_votes 4 = .ok (.iload_n 1, 1) := by decide +kernel
theorem dX1_votes_5 : decode cX1_votes 5 = .ok (.iaload, 1) := by decide +kernel
theorem dX1_votes_6 : decode cX1_votes 6 = .ok (.tableswitch 61 2 5 #[30, 59, 50, 39], 30) := by decide +kernel
theorem dX1_votes_36 : decode cX1_votes 36 = .ok (.aload_n 0, 1) := by decide +kernel
theorem dX1_votes_37 : decode cX1_votes 37 = .ok (.getfield 49, 3) := by decide +kernel
theorem dX1_votes_40 : decode cX1_votes 40 = .ok (.iload_n 1, 1) := by decide +kernel
theorem dX1_votes_41 : decode cX1_votes 41 = .ok (.iaload, 1) := by decide +kernel
theorem dX1_votes_42 : decode cX1_votes 42 = .ok (.iconst 2, 1) := by decide +kernel
theorem dX1_votes_43 : decode cX1_votes 43 = .ok (.idiv, 1) := by decide +kernel
theorem dX1_votes_44 : decode cX1_votes 44 = .ok (.ireturn, 1) := by decide +kernel
theorem dX1_votes_45 : decode cX1_votes 45 = .ok (.aload_n 0, 1) := by decide +kernel
theorem dX1_votes_46 : decode cX1_votes 46 = .ok (.getfield 49, 3) := by decide +kernel
theorem dX1_votes_49 : decode cX1_votes 49 = .ok (.iload_n 1, 1) := by decide +kernel
theorem dX1_votes_50 : decode cX1_votes 50 = .ok (.iaload, 1) := by decide +kernel
theorem dX1_votes_51 : decode cX1_votes 51 = .ok (.iconst 2, 1) := by decide +kernel
theorem dX1_votes_52 : decode cX1_votes 52 = .ok (.idiv, 1) := by decide +kernel
theorem dX1_votes_53 : decode cX1_votes 53 = .ok (.iconst 1, 1) := by decide +kernel
theorem dX1_votes_54 : decode cX1_votes 54 = .ok (.iadd, 1) := by decide +kernel
theorem dX1_votes_55 : decode cX1_votes 55 = .ok (.ireturn, 1) := by decide +kernel
theorem dX1_votes_56 : decode cX1_votes 56 = .ok (.aload_n 0, 1) := by decide +kernel
theorem dX1_votes_57 : decode cX1_votes 57 = .ok (.getfield 49, 3) := by decide +kernel
theorem dX1_votes_60 : decode cX1_votes 60 = .ok (.iload_n 1, 1) := by decide +kernel
theorem dX1_votes_61 : decode cX1_votes 61 = .ok (.iaload, 1) := by decide +kernel
theorem dX1_votes_62 : decode cX1_votes 62 = .ok (.iconst 2, 1) := by decide +kernel
theorem dX1_votes_63 : decode cX1_votes 63 = .ok (.imul, 1) := by decide +kernel
theorem dX1_votes_64 : decode cX1_votes 64 = .ok (.ireturn, 1) := by decide +kernel
theorem dX1_votes_65 : decode cX1_votes 65 = .ok (.iconst 1, 1) := by decide +kernel
theorem dX1_votes_66 : decode cX1_votes 66 = .ok (.ireturn, 1) := by decide +kernel
theorem dX1_votes_67 : decode cX1_votes 67 = .ok (.aload_n 0, 1) := by decide +kernel
theorem dX1_votes_68 : decode cX1_votes 68 = .ok (.getfield 49, 3) := by decide +kernel
theorem dX1_votes_71 : decode cX1_votes 71 = .ok (.iload_n 1, 1) := by decide +kernel
theorem dX1_votes_72 : decode cX1_votes 72 = .ok (.iaload, 1) := by decide +kernel
theorem dX1_votes_73 : decode cX1_votes 73 = .ok (.ireturn, 1) := by decide +kernel
theorem dX1_wouldBelong_0 : decode cX1_wouldBelong 0 = .ok (.iload 4, 2) := by decide +kernel
theorem dX1_wouldBelong_2 : decode cX1_wouldBelong 2 = .ok (.iload_n 2, 1) := by decide +kernel
theorem dX1_wouldBelong_3 : decode cX1_wouldBelong 3 = .ok (.if_icmp .gt 13, 3) := by decide +kernel
theorem dX1_wouldBelong_6 : decode cX1_wouldBelong 6 = .ok (.iload_n 2, 1) := by decide +kernel
theorem dX1_wouldBelong_7 : decode cX1_wouldBelong 7 = .ok (.iload 5, 2) := by decide +kernel
theorem dX1_wouldBelong_9 : decode cX1_wouldBelong 9 = .ok (.if_icmp .ge 7, 3) := by decide +kernel
theorem dX1_wouldBelong_12 : decode cX1_wouldBelong 12 = .ok (.iconst 1, 1) := by decide +kernel
theorem dX1_wouldBelong_13 : decode cX1_wouldBelong 13 = .ok (.goto 4, 3) := by decide +kernel
theorem dX1_wouldBelong_16 : decode cX1_wouldBelong 16 = .ok (.iconst 0, 1) := by decide +kernel
theorem dX1_wouldBelong_17 : decode cX1_wouldBelong 17 = .ok (.istore 6, 2) := by decide +kernel
theorem dX1_wouldBelong_19 : decode cX1_wouldBelong 19 = .ok (.aload_n 0, 1) := by decide +kernel
theorem dX1_wouldBelong_20 : decode cX1_wouldBelong 20 = .ok (.getfield 21, 3) := by decide +kernel
theorem dX1_wouldBelong_23 : decode cX1_wouldBelong 23 = .ok (.iload_n 3, 1) := by decide +kernel
theorem dX1_wouldBelong_24 : decode cX1_wouldBelong 24 = .ok (.if_icmp .gt 15, 3) := by decide +kernel
theorem dX1_wouldBelong_27 : decode cX1_wouldBelong 27 = .ok (.iload_n 3, 1) := by decide +kernel
theorem dX1_wouldBelong_28 : decode cX1_wouldBelong 28 = .ok (.aload_n 0, 1) := by decide +kernel
theorem dX1_wouldBelong_29 : decode cX1_wouldBelong 29 = .ok (.getfield 24, 3) := by decide +kernel
theorem dX1_wouldBelong_32 : decode cX1_wouldBelong 32 = .ok (.if_icmp .ge 7, 3) := by decide +kernel
theorem dX1_wouldBelong_35 : decode cX1_wouldBelong 35 = .ok (.iconst 1, 1) := by decide +kernel
theorem dX1_wouldBelong_36 : decode cX1_wouldBelong 36 = .ok (.goto 4, 3) := by decide +kernel
theorem dX1_wouldBelong_39 : decode cX1_wouldBelong 39 = .ok (.iconst 0, 1) := by decide +kernel
theorem dX1_wouldBelong_40 : decode cX1_wouldBelong 40 = .ok (.istore 7, 2) := by decide +kernel
theorem dX1_wouldBelong_42 : decode cX1_wouldBelong 42 = .ok (.iload_n 2, 1) := by decide +kernel
theorem dX1_wouldBelong_43 : decode cX1_wouldBelong 43 = .ok (.iload 4, 2) := by decide +kernel
theorem dX1_wouldBelong_45 : decode cX1_wouldBelong 45 = .ok (.iconst 1, 1) := by decide +kernel
theorem dX1_wouldBelong_46 : decode cX1_wouldBelong 46 = .ok (.isub, 1) := by decide +kernel
theorem dX1_wouldBelong_47 : decode cX1_wouldBelong 47 = .ok (.if_icmp .eq 9, 3) := by decide +kernel
theorem dX1_wouldBelong_50 : decode cX1_wouldBelong 50 = .ok (.iload_n 2, 1) := by decide +kernel
theorem dX1_wouldBelong_51 : decode cX1_wouldBelong 51 = .ok (.iload 5, 2) := by decide +kernel
theorem dX1_wouldBelong_53 : decode cX1_wouldBelong 53 = .ok (.if_icmp .ne 7, 3) := by decide +kernel
theorem dX1_wouldBelong_56 : decode cX1_wouldBelong 56 = .ok (.iconst 1, 1) := by decide +kernel
theorem dX1_wouldBelong_57 : decode cX1_wouldBelong 57 = .ok (.goto 4, 3) := by decide +kernel
theorem dX1_wouldBelong_60 : decode cX1_wouldBelong 60 = .ok (.iconst 0, 1) := by decide +kernel
theorem dX1_wouldBelong_61 : decode cX1_wouldBelong 61 = .ok (.istore 8, 2) := by decide +kernel
theorem dX1_wouldBelong_63 : decode cX1_wouldBelong 63 = .ok (.iload_n 1, 1) := by decide +kernel
theorem dX1_wouldBelong_64 : decode cX1_wouldBelong 64 = .ok (.tableswitch 119 1 5 #[36, 56, 99, 39, 72], 36) := by decide +kernel
theorem dX1_wouldBelong_100 : decode cX1_wouldBelong 100 = .ok (.iload 7, 2) := by decide +kernel
theorem dX1_wouldBelong_102 : decode cX1_wouldBelong 102 = .ok (.ireturn, 1) := by decide +kernel
theorem dX1_wouldBelong_103 : decode cX1_wouldBelong 103 = .ok (.iload 7, 2) := by decide +kernel
theorem dX1_wouldBelong_105 : decode cX1_wouldBelong 105 = .ok (.ifCond .eq 13, 3) := by decide +kernel
theorem dX1_wouldBelong_108 : decode cX1_wouldBelong 108 = .ok (.iload_n 2, 1) := by decide +kernel
theorem dX1_wouldBelong_109 : decode cX1_wouldBelong 109 = .ok (.iload 4, 2) := by decide +kernel
theorem dX1_wouldBelong_111 : decode cX1_wouldBelong 111 = .ok (.if_icmp .lt 7, 3) := by decide +kernel
theorem dX1_wouldBelong_114 : decode cX1_wouldBelong 114 = .ok (.iconst 1, 1) := by decide +kernel
theorem dX1_wouldBelong_115 : decode cX1_wouldBelong 115 = .ok (.goto 4, 3) := by decide +kernel
theorem dX1_wouldBelong_118 : decode cX1_wouldBelong 118 = .ok (.iconst 0, 1) := by decide +kernel
theorem dX1_wouldBelong_119 : decode cX1_wouldBelong 119 = .ok (.ireturn, 1) := by decide +kernel
theorem dX1_wouldBelong_120 : decode cX1_wouldBelong 120 = .ok (.iload 6, 2) := by decide +kernel
theorem dX1_wouldBelong_122 : decode cX1_wouldBelong 122 = .ok (.ifCond .ne 8, 3) := by decide +kernel
theorem dX1_wouldBelong_125 : decode cX1_wouldBelong 125 = .ok (.iload 8, 2) := by decide +kernel
theorem dX1_wouldBelong_127 : decode cX1_wouldBelong 127 = .ok (.ifCond .eq 7, 3) := by decide +kernel
theorem dX1_wouldBelong_130 : decode cX1_wouldBelong 130 = .ok (.iconst 1, 1) := by decide +kernel
theorem dX1_wouldBelong_131 : decode cX1_wouldBelong 131 = .ok (.goto 4, 3) := by decide +kernel
theorem dX1_wouldBelong_134 : decode cX1_wouldBelong 134 = .ok (.iconst 0, 1) := by decide +kernel
theorem dX1_wouldBelong_135 : decode cX1_wouldBelong 135 = .ok (.ireturn, 1) := by decide +kernel
theorem dX1_wouldBelong_136 : decode cX1_wouldBelong 136 = .ok (.iload 6, 2) := by decide +kernel
theorem dX1_wouldBelong_138 : decode cX1_wouldBelong 138 = .ok (.ifCond .ne 8, 3) := by decide +kernel
theorem dX1_wouldBelong_141 : decode cX1_wouldBelong 141 = .ok (.iload 8, 2) := by decide +kernel
theorem dX1_wouldBelong_143 : decode cX1_wouldBelong 143 = .ok (.ifCond .eq 18, 3) := by decide +kernel
theorem dX1_wouldBelong_146 : decode cX1_wouldBelong 146 = .ok (.iload_n 2, 1) := by decide +kernel
theorem dX1_wouldBelong_147 : decode cX1_wouldBelong 147 = .ok (.iload 4, 2) := by decide +kernel
theorem dX1_wouldBelong_149 : decode cX1_wouldBelong 149 = .ok (.iload 5, 2) := by decide +kernel
theorem dX1_wouldBelong_151 : decode cX1_wouldBelong 151 = .ok (.invokestatic 83, 3) := by decide +kernel
theorem dX1_wouldBelong_154 : decode cX1_wouldBelong 154 = .ok (.if_icmp .ne 7, 3) := by decide +kernel
theorem dX1_wouldBelong_157 : decode cX1_wouldBelong 157 = .ok (.iconst 1, 1) := by decide +kernel
theorem dX1_wouldBelong_158 : decode cX1_wouldBelong 158 = .ok (.goto 4, 3) := by decide +kernel
theorem dX1_wouldBelong_161 : decode cX1_wouldBelong 161 = .ok (.iconst 0, 1) := by decide +kernel
theorem dX1_wouldBelong_162 : decode cX1_wouldBelong 162 = .ok (.ireturn, 1) := by decide +kernel
theorem dX1_wouldBelong_163 : decode cX1_wouldBelong 163 = .ok (.iload 6, 2) := by decide +kernel
theorem dX1_wouldBelong_165 : decode cX1_wouldBelong 165 = .ok (.ifCond .eq 16, 3) := by decide +kernel
theorem dX1_wouldBelong_168 : decode cX1_wouldBelong 168 = .ok (.iload 5, 2) := by decide +kernel
theorem dX1_wouldBelong_170 : decode cX1_wouldBelong 170 = .ok (.iload 4, 2) := by decide +kernel
theorem dX1_wouldBelong_172 : decode cX1_wouldBelong 172 = .ok (.isub, 1) := by decide +kernel
theorem dX1_wouldBelong_173 : decode cX1_wouldBelong 173 = .ok (.iconst 3, 1) := by decide +kernel
theorem dX1_wouldBelong_174 : decode cX1_wouldBelong 174 = .ok (.if_icmp .lt 7, 3) := by decide +kernel
theorem dX1_wouldBelong_177 : decode cX1_wouldBelong 177 = .ok (.iconst 1, 1) := by decide +kernel
theorem dX1_wouldBelong_178 : decode cX1_wouldBelong 178 = .ok (.goto 4, 3) := by decide +kernel
theorem dX1_wouldBelong_181 : decode cX1_wouldBelong 181 = .ok (.iconst 0, 1) := by decide +kernel
theorem dX1_wouldBelong_182 : decode cX1_wouldBelong 182 = .ok (.ireturn, 1) := by decide +kernel
theorem dX1_wouldBelong_183 : decode cX1_wouldBelong 183 = .ok (.iload 6, 2) := by decide +kernel
theorem dX1_wouldBelong_185 : decode cX1_wouldBelong 185 = .ok (.ireturn, 1) := by decide +kernel
theorem dX1_belongs_0 : decode cX1_belongs 0 = .ok (.aload_n 0, 1) := by decide +kernel
theorem dX1_belongs_1 : decode cX1_belongs 1 = .ok (.aload_n 0, 1) := by decide +kernel
theorem dX1_belongs_2 : decode cX1_belongs 2 = .ok (.getfield 39, 3) := by decide +kernel
theorem dX1_belongs_5 : decode cX1_belongs 5 = .ok (.iload_n 1, 1) := by decide +kernel
theorem dX1_belongs_6 : decode cX1_belongs 6 = .ok (.iaload, 1) := by decide +kernel
theorem dX1_belongs_7 : decode cX1_belongs 7 = .ok (.aload_n 0, 1) := by decide +kernel
theorem dX1_belongs_8 : decode cX1_belongs 8 = .ok (.getfield 43, 3) := by decide +kernel
theorem dX1_belongs_11 : decode cX1_belongs 11 = .ok (.iload_n 1, 1) := by decide +kernel
theorem dX1_belongs_12 : decode cX1_belongs 12 = .ok (.iaload, 1) := by decide +kernel
theorem dX1_belongs_13 : decode cX1_belongs 13 = .ok (.aload_n 0, 1) := by decide +kernel
theorem dX1_belongs_14 : decode cX1_belongs 14 = .ok (.getfield 46, 3) := by decide +kernel
theorem dX1_belongs_17 : decode cX1_belongs 17 = .ok (.iload_n 1, 1) := by decide +kernel
theorem dX1_belongs_18 : decode cX1_belongs 18 = .ok (.iaload, 1) := by decide +kernel
theorem dX1_belongs_19 : decode cX1_belongs 19 = .ok (.aload_n 0, 1) := by decide +kernel
theorem dX1_belongs_20 : decode cX1_belongs 20 = .ok (.getfield 15, 3) := by decide +kernel
theorem dX1_belongs_23 : decode cX1_belongs 23 = .ok (.aload_n 0, 1) := by decide +kernel
theorem dX1_belongs_24 : decode cX1_belongs 24 = .ok (.getfield 18, 3) := by decide +kernel
theorem dX1_belongs_27 : decode cX1_belongs 27 = .ok (.invokevirtual 86, 3) := by decide +kernel
theorem dX1_belongs_30 : decode cX1_belongs 30 = .ok (.ireturn, 1) := by decide +kernel
theorem dX1_belonging_0 : decode cX1_belonging 0 = .ok (.iconst 0, 1) := by decide +kernel
theorem dX1_belonging_1 : decode cX1_belonging 1 = .ok (.istore_n 3, 1) := by decide +kernel
theorem dX1_belonging_2 : decode cX1_belonging 2 = .ok (.iconst 0, 1) := by decide +kernel
theorem dX1_belonging_3 : decode cX1_belonging 3 = .ok (.istore 4, 2) := by decide +kernel
theorem dX1_belonging_5 : decode cX1_belonging 5 = .ok (.iload 4, 2) := by decide +kernel
theorem dX1_belonging_7 : decode cX1_belonging 7 = .ok (.aload_n 0, 1) := by decide +kernel
theorem dX1_belonging_8 : decode cX1_belonging 8 = .ok (.getfield 36, 3) := by decide +kernel
theorem dX1_belonging_11 : decode cX1_belonging 11 = .ok (.if_icmp .ge 46, 3) := by decide +kernel
theorem dX1_belonging_14 : decode cX1_belonging 14 = .ok (.aload_n 0, 1) := by decide +kernel
theorem dX1_belonging_15 : decode cX1_belonging 15 = .ok (.aload_n 0, 1) := by decide +kernel
theorem dX1_belonging_16 : decode cX1_belonging 16 = .ok (.getfield 39, 3) := by decide +kernel
theorem dX1_belonging_19 : decode cX1_belonging 19 = .ok (.iload 4, 2) := by decide +kernel
theorem dX1_belonging_21 : decode cX1_belonging 21 = .ok (.iaload, 1) := by decide +kernel
theorem dX1_belonging_22 : decode cX1_belonging 22 = .ok (.aload_n 0, 1) := by decide +kernel
theorem dX1_belonging_23 : decode cX1_belonging 23 = .ok (.getfield 43, 3) := by decide +kernel
theorem dX1_belonging_26 : decode cX1_belonging 26 = .ok (.iload 4, 2) := by decide +kernel
theorem dX1_belonging_28 : decode cX1_belonging 28 = .ok (.iaload, 1) := by decide +kernel
theorem dX1_belonging_29 : decode cX1_belonging 29 = .ok (.aload_n 0, 1) := by decide +kernel
theorem dX1_belonging_30 : decode cX1_belonging 30 = .ok (.getfield 46, 3) := by decide +kernel
theorem dX1_belonging_33 : decode cX1_belonging 33 = .ok (.iload 4, 2) := by decide +kernel
theorem dX1_belonging_35 : decode cX1_belonging 35 = .ok (.iaload, 1) := by decide +kernel
theorem dX1_belonging_36 : decode cX1_belonging 36 = .ok (.iload_n 1, 1) := by decide +kernel
theorem dX1_belonging_37 : decode cX1_belonging 37 = .ok (.iload_n 2, 1) := by decide +kernel
theorem dX1_belonging_38 : decode cX1_belonging 38 = .ok (.invokevirtual 86, 3) := by decide +kernel
theorem dX1_belonging_41 : decode cX1_belonging 41 = .ok (.ifCond .eq 10, 3) := by decide +kernel
theorem dX1_belonging_44 : decode cX1_belonging 44 = .ok (.iload_n 3, 1) := by decide +kernel
theorem dX1_belonging_45 : decode cX1_belonging 45 = .ok (.iconst 1, 1) := by decide +kernel
theorem dX1_belonging_46 : decode cX1_belonging 46 = .ok (.iload 4, 2) := by decide +kernel
theorem dX1_belonging_48 : decode cX1_belonging 48 = .ok (.ishl, 1) := by decide +kernel
theorem dX1_belonging_49 : decode cX1_belonging 49 = .ok (.ior, 1) := by decide +kernel
theorem dX1_belonging_50 : decode cX1_belonging 50 = .ok (.istore_n 3, 1) := by decide +kernel
theorem dX1_belonging_51 : decode cX1_belonging 51 = .ok (.iinc 4 1, 3) := by decide +kernel
theorem dX1_belonging_54 : decode cX1_belonging 54 = .ok (.goto (-49), 3) := by decide +kernel
theorem dX1_belonging_57 : decode cX1_belonging 57 = .ok (.iload_n 3, 1) := by decide +kernel
theorem dX1_belonging_58 : decode cX1_belonging 58 = .ok (.ireturn, 1) := by decide +kernel
theorem dX1_votesOf_0 : decode cX1_votesOf 0 = .ok (.iconst 0, 1) := by decide +kernel
theorem dX1_votesOf_1 : decode cX1_votesOf 1 = .ok (.istore_n 2, 1) := by decide +kernel
theorem dX1_votesOf_2 : decode cX1_votesOf 2 = .ok (.iconst 0, 1) := by decide +kernel
theorem dX1_votesOf_3 : decode cX1_votesOf 3 = .ok (.istore_n 3, 1) := by decide +kernel
theorem dX1_votesOf_4 : decode cX1_votesOf 4 = .ok (.iload_n 3, 1) := by decide +kernel
theorem dX1_votesOf_5 : decode cX1_votesOf 5 = .ok (.aload_n 0, 1) := by decide +kernel
theorem dX1_votesOf_6 : decode cX1_votesOf 6 = .ok (.getfield 36, 3) := by decide +kernel
theorem dX1_votesOf_9 : decode cX1_votesOf 9 = .ok (.if_icmp .ge 25, 3) := by decide +kernel
theorem dX1_votesOf_12 : decode cX1_votesOf 12 = .ok (.iload_n 1, 1) := by decide +kernel
theorem dX1_votesOf_13 : decode cX1_votesOf 13 = .ok (.iload_n 3, 1) := by decide +kernel
theorem dX1_votesOf_14 : decode cX1_votesOf 14 = .ok (.ishr, 1) := by decide +kernel
theorem dX1_votesOf_15 : decode cX1_votesOf 15 = .ok (.iconst 1, 1) := by decide +kernel
theorem dX1_votesOf_16 : decode cX1_votesOf 16 = .ok (.iand, 1) := by decide +kernel
theorem dX1_votesOf_17 : decode cX1_votesOf 17 = .ok (.ifCond .eq 11, 3) := by decide +kernel
theorem dX1_votesOf_20 : decode cX1_votesOf 20 = .ok (.iload_n 2, 1) := by decide +kernel
theorem dX1_votesOf_21 : decode cX1_votesOf 21 = .ok (.aload_n 0, 1) := by decide +kernel
theorem dX1_votesOf_22 : decode cX1_votesOf 22 = .ok (.iload_n 3, 1) := by decide +kernel
theorem dX1_votesOf_23 : decode cX1_votesOf 23 = .ok (.invokevirtual 90, 3) := by decide +kernel
theorem dX1_votesOf_26 : decode cX1_votesOf 26 = .ok (.iadd, 1) := by decide +kernel
theorem dX1_votesOf_27 : decode cX1_votesOf 27 = .ok (.istore_n 2, 1) := by decide +kernel
theorem dX1_votesOf_28 : decode cX1_votesOf 28 = .ok (.iinc 3 1, 3) := by decide +kernel
theorem dX1_votesOf_31 : decode cX1_votesOf 31 = .ok (.goto (-27), 3) := by decide +kernel
theorem dX1_votesOf_34 : decode cX1_votesOf 34 = .ok (.iload_n 2, 1) := by decide +kernel
theorem dX1_votesOf_35 : decode cX1_votesOf 35 = .ok (.ireturn, 1) := by decide +kernel
theorem dX1_mostVotesIn_0 : decode cX1_mostVotesIn 0 = .ok (.iconst 0, 1) := by decide +kernel
theorem dX1_mostVotesIn_1 : decode cX1_mostVotesIn 1 = .ok (.istore_n 2, 1) := by decide +kernel
theorem dX1_mostVotesIn_2 : decode cX1_mostVotesIn 2 = .ok (.iconst 0, 1) := by decide +kernel
theorem dX1_mostVotesIn_3 : decode cX1_mostVotesIn 3 = .ok (.istore_n 3, 1) := by decide +kernel
theorem dX1_mostVotesIn_4 : decode cX1_mostVotesIn 4 = .ok (.iload_n 3, 1) := by decide +kernel
theorem dX1_mostVotesIn_5 : decode cX1_mostVotesIn 5 = .ok (.aload_n 0, 1) := by decide +kernel
theorem dX1_mostVotesIn_6 : decode cX1_mostVotesIn 6 = .ok (.getfield 36, 3) := by decide +kernel
theorem dX1_mostVotesIn_9 : decode cX1_mostVotesIn 9 = .ok (.if_icmp .ge 27, 3) := by decide +kernel
theorem dX1_mostVotesIn_12 : decode cX1_mostVotesIn 12 = .ok (.iload_n 1, 1) := by decide +kernel
theorem dX1_mostVotesIn_13 : decode cX1_mostVotesIn 13 = .ok (.iload_n 3, 1) := by decide +kernel
theorem dX1_mostVotesIn_14 : decode cX1_mostVotesIn 14 = .ok (.ishr, 1) := by decide +kernel
theorem dX1_mostVotesIn_15 : decode cX1_mostVotesIn 15 = .ok (.iconst 1, 1) := by decide +kernel
theorem dX1_mostVotesIn_16 : decode cX1_mostVotesIn 16 = .ok (.iand, 1) := by decide +kernel
theorem dX1_mostVotesIn_17 : decode cX1_mostVotesIn 17 = .ok (.ifCond .eq 13, 3) := by decide +kernel
theorem dX1_mostVotesIn_20 : decode cX1_mostVotesIn 20 = .ok (.iload_n 2, 1) := by decide +kernel
theorem dX1_mostVotesIn_21 : decode cX1_mostVotesIn 21 = .ok (.aload_n 0, 1) := by decide +kernel
theorem dX1_mostVotesIn_22 : decode cX1_mostVotesIn 22 = .ok (.iload_n 3, 1) := by decide +kernel
theorem dX1_mostVotesIn_23 : decode cX1_mostVotesIn 23 = .ok (.invokevirtual 90, 3) := by decide +kernel
theorem dX1_mostVotesIn_26 : decode cX1_mostVotesIn 26 = .ok (.invokestatic 94, 3) := by decide +kernel
theorem dX1_mostVotesIn_29 : decode cX1_mostVotesIn 29 = .ok (.istore_n 2, 1) := by decide +kernel
theorem dX1_mostVotesIn_30 : decode cX1_mostVotesIn 30 = .ok (.iinc 3 1, 3) := by decide +kernel
theorem dX1_mostVotesIn_33 : decode cX1_mostVotesIn 33 = .ok (.goto (-29), 3) := by decide +kernel
theorem dX1_mostVotesIn_36 : decode cX1_mostVotesIn 36 = .ok (.iload_n 2, 1) := by decide +kernel
theorem dX1_mostVotesIn_37 : decode cX1_mostVotesIn 37 = .ok (.ireturn, 1) := by decide +kernel
theorem dX1_votesBelonging_0 : decode cX1_votesBelonging 0 = .ok (.aload_n 0, 1) := by decide +kernel
theorem dX1_votesBelonging_1 : decode cX1_votesBelonging 1 = .ok (.aload_n 0, 1) := by decide +kernel
theorem dX1_votesBelonging_2 : decode cX1_votesBelonging 2 = .ok (.iload_n 1, 1) := by decide +kernel
theorem dX1_votesBelonging_3 : decode cX1_votesBelonging 3 = .ok (.iload_n 2, 1) := by decide +kernel
theorem dX1_votesBelonging_4 : decode cX1_votesBelonging 4 = .ok (.invokevirtual 99, 3) := by decide +kernel
theorem dX1_votesBelonging_7 : decode cX1_votesBelonging 7 = .ok (.invokevirtual 102, 3) := by decide +kernel
theorem dX1_votesBelonging_10 : decode cX1_votesBelonging 10 = .ok (.ireturn, 1) := by decide +kernel
theorem dX1_votesOfWest_0 : decode cX1_votesOfWest 0 = .ok (.aload_n 0, 1) := by decide +kernel
theorem dX1_votesOfWest_1 : decode cX1_votesOfWest 1 = .ok (.iconst 0, 1) := by decide +kernel
theorem dX1_votesOfWest_2 : decode cX1_votesOfWest 2 = .ok (.iload_n 1, 1) := by decide +kernel
theorem dX1_votesOfWest_3 : decode cX1_votesOfWest 3 = .ok (.iload_n 1, 1) := by decide +kernel
theorem dX1_votesOfWest_4 : decode cX1_votesOfWest 4 = .ok (.iload_n 2, 1) := by decide +kernel
theorem dX1_votesOfWest_5 : decode cX1_votesOfWest 5 = .ok (.invokevirtual 105, 3) := by decide +kernel
theorem dX1_votesOfWest_8 : decode cX1_votesOfWest 8 = .ok (.ireturn, 1) := by decide +kernel
theorem dX1_votesOfEast_0 : decode cX1_votesOfEast 0 = .ok (.aload_n 0, 1) := by decide +kernel
theorem dX1_votesOfEast_1 : decode cX1_votesOfEast 1 = .ok (.iload_n 2, 1) := by decide +kernel
theorem dX1_votesOfEast_2 : decode cX1_votesOfEast 2 = .ok (.aload_n 0, 1) := by decide +kernel
theorem dX1_votesOfEast_3 : decode cX1_votesOfEast 3 = .ok (.getfield 9, 3) := by decide +kernel
theorem dX1_votesOfEast_6 : decode cX1_votesOfEast 6 = .ok (.iload_n 1, 1) := by decide +kernel
theorem dX1_votesOfEast_7 : decode cX1_votesOfEast 7 = .ok (.iload_n 2, 1) := by decide +kernel
theorem dX1_votesOfEast_8 : decode cX1_votesOfEast 8 = .ok (.invokevirtual 105, 3) := by decide +kernel
theorem dX1_votesOfEast_11 : decode cX1_votesOfEast 11 = .ok (.ireturn, 1) := by decide +kernel
theorem dX1_votesOfStrangers_0 : decode cX1_votesOfStrangers 0 = .ok (.iconst 0, 1) := by decide +kernel
theorem dX1_votesOfStrangers_1 : decode cX1_votesOfStrangers 1 = .ok (.istore 5, 2) := by decide +kernel
theorem dX1_votesOfStrangers_3 : decode cX1_votesOfStrangers 3 = .ok (.iconst 0, 1) := by decide +kernel
theorem dX1_votesOfStrangers_4 : decode cX1_votesOfStrangers 4 = .ok (.istore 6, 2) := by decide +kernel
theorem dX1_votesOfStrangers_6 : decode cX1_votesOfStrangers 6 = .ok (.iload 6, 2) := by decide +kernel
theorem dX1_votesOfStrangers_8 : decode cX1_votesOfStrangers 8 = .ok (.aload_n 0, 1) := by decide +kernel
theorem dX1_votesOfStrangers_9 : decode cX1_votesOfStrangers 9 = .ok (.getfield 36, 3) := by decide +kernel
theorem dX1_votesOfStrangers_12 : decode cX1_votesOfStrangers 12 = .ok (.if_icmp .ge 73, 3) := by decide +kernel
theorem dX1_votesOfStrangers_15 : decode cX1_votesOfStrangers 15 = .ok (.iload_n 1, 1) := by decide +kernel
theorem dX1_votesOfStrangers_16 : decode cX1_votesOfStrangers 16 = .ok (.aload_n 0, 1) := by decide +kernel
theorem dX1_votesOfStrangers_17 : decode cX1_votesOfStrangers 17 = .ok (.getfield 43, 3) := by decide +kernel
theorem dX1_votesOfStrangers_20 : decode cX1_votesOfStrangers 20 = .ok (.iload 6, 2) := by decide +kernel
theorem dX1_votesOfStrangers_22 : decode cX1_votesOfStrangers 22 = .ok (.iaload, 1) := by decide +kernel
theorem dX1_votesOfStrangers_23 : decode cX1_votesOfStrangers 23 = .ok (.if_icmp .gt 56, 3) := by decide +kernel
theorem dX1_votesOfStrangers_26 : decode cX1_votesOfStrangers 26 = .ok (.aload_n 0, 1) := by decide +kernel
theorem dX1_votesOfStrangers_27 : decode cX1_votesOfStrangers 27 = .ok (.getfield 43, 3) := by decide +kernel
theorem dX1_votesOfStrangers_30 : decode cX1_votesOfStrangers 30 = .ok (.iload 6, 2) := by decide +kernel
theorem dX1_votesOfStrangers_32 : decode cX1_votesOfStrangers 32 = .ok (.iaload, 1) := by decide +kernel
theorem dX1_votesOfStrangers_33 : decode cX1_votesOfStrangers 33 = .ok (.iload_n 2, 1) := by decide +kernel
theorem dX1_votesOfStrangers_34 : decode cX1_votesOfStrangers 34 = .ok (.if_icmp .ge 45, 3) := by decide +kernel
theorem dX1_votesOfStrangers_37 : decode cX1_votesOfStrangers 37 = .ok (.aload_n 0, 1) := by decide +kernel
theorem dX1_votesOfStrangers_38 : decode cX1_votesOfStrangers 38 = .ok (.aload_n 0, 1) := by decide +kernel
theorem dX1_votesOfStrangers_39 : decode cX1_votesOfStrangers 39 = .ok (.getfield 39, 3) := by decide +kernel
theorem dX1_votesOfStrangers_42 : decode cX1_votesOfStrangers 42 = .ok (.iload 6, 2) := by decide +kernel
theorem dX1_votesOfStrangers_44 : decode cX1_votesOfStrangers 44 = .ok (.iaload, 1) := by decide +kernel
theorem dX1_votesOfStrangers_45 : decode cX1_votesOfStrangers 45 = .ok (.aload_n 0, 1) := by decide +kernel
theorem dX1_votesOfStrangers_46 : decode cX1_votesOfStrangers 46 = .ok (.getfield 43, 3) := by decide +kernel
theorem dX1_votesOfStrangers_49 : decode cX1_votesOfStrangers 49 = .ok (.iload 6, 2) := by decide +kernel
theorem dX1_votesOfStrangers_51 : decode cX1_votesOfStrangers 51 = .ok (.iaload, 1) := by decide +kernel
theorem dX1_votesOfStrangers_52 : decode cX1_votesOfStrangers 52 = .ok (.aload_n 0, 1) := by decide +kernel
theorem dX1_votesOfStrangers_53 : decode cX1_votesOfStrangers 53 = .ok (.getfield 46, 3) := by decide +kernel
theorem dX1_votesOfStrangers_56 : decode cX1_votesOfStrangers 56 = .ok (.iload 6, 2) := by decide +kernel
theorem dX1_votesOfStrangers_58 : decode cX1_votesOfStrangers 58 = .ok (.iaload, 1) := by decide +kernel
theorem dX1_votesOfStrangers_59 : decode cX1_votesOfStrangers 59 = .ok (.iload_n 3, 1) := by decide +kernel
theorem dX1_votesOfStrangers_60 : decode cX1_votesOfStrangers 60 = .ok (.iload 4, 2) := by decide +kernel
theorem dX1_votesOfStrangers_62 : decode cX1_votesOfStrangers 62 = .ok (.invokevirtual 86, 3) := by decide +kernel
theorem dX1_votesOfStrangers_65 : decode cX1_votesOfStrangers 65 = .ok (.ifCond .ne 14, 3) := by decide +kernel
theorem dX1_votesOfStrangers_68 : decode cX1_votesOfStrangers 68 = .ok (.iload 5, 2) := by decide +kernel
theorem dX1_votesOfStrangers_70 : decode cX1_votesOfStrangers 70 = .ok (.aload_n 0, 1) := by decide +kernel
theorem dX1_votesOfStrangers_71 : decode cX1_votesOfStrangers 71 = .ok (.iload 6, 2) := by decide +kernel
theorem dX1_votesOfStrangers_73 : decode cX1_votesOfStrangers 73 = .ok (.invokevirtual 90, 3) := by decide +kernel
theorem dX1_votesOfStrangers_76 : decode cX1_votesOfStrangers 76 = .ok (.iadd, 1) := by decide +kernel
theorem dX1_votesOfStrangers_77 : decode cX1_votesOfStrangers 77 = .ok (.istore 5, 2) := by decide +kernel
theorem dX1_votesOfStrangers_79 : decode cX1_votesOfStrangers 79 = .ok (.iinc 6 1, 3) := by decide +kernel
theorem dX1_votesOfStrangers_82 : decode cX1_votesOfStrangers 82 = .ok (.goto (-76), 3) := by decide +kernel
theorem dX1_votesOfStrangers_85 : decode cX1_votesOfStrangers 85 = .ok (.iload 5, 2) := by decide +kernel
theorem dX1_votesOfStrangers_87 : decode cX1_votesOfStrangers 87 = .ok (.ireturn, 1) := by decide +kernel
theorem dX1_votesFor_0 : decode cX1_votesFor 0 = .ok (.iconst 0, 1) := by decide +kernel
theorem dX1_votesFor_1 : decode cX1_votesFor 1 = .ok (.istore_n 2, 1) := by decide +kernel
theorem dX1_votesFor_2 : decode cX1_votesFor 2 = .ok (.iconst 0, 1) := by decide +kernel
theorem dX1_votesFor_3 : decode cX1_votesFor 3 = .ok (.istore_n 3, 1) := by decide +kernel
theorem dX1_votesFor_4 : decode cX1_votesFor 4 = .ok (.iload_n 3, 1) := by decide +kernel
theorem dX1_votesFor_5 : decode cX1_votesFor 5 = .ok (.aload_n 0, 1) := by decide +kernel
theorem dX1_votesFor_6 : decode cX1_votesFor 6 = .ok (.getfield 36, 3) := by decide +kernel
theorem dX1_votesFor_9 : decode cX1_votesFor 9 = .ok (.if_icmp .ge 36, 3) := by decide +kernel
theorem dX1_votesFor_12 : decode cX1_votesFor 12 = .ok (.aload_n 0, 1) := by decide +kernel
theorem dX1_votesFor_13 : decode cX1_votesFor 13 = .ok (.iload_n 3, 1) := by decide +kernel
theorem dX1_votesFor_14 : decode cX1_votesFor 14 = .ok (.invokevirtual 109, 3) := by decide +kernel
theorem dX1_votesFor_17 : decode cX1_votesFor 17 = .ok (.ifCond .eq 22, 3) := by decide +kernel
theorem dX1_votesFor_20 : decode cX1_votesFor 20 = .ok (.aload_n 0, 1) := by decide +kernel
theorem dX1_votesFor_21 : decode cX1_votesFor 21 = .ok (.getfield 52, 3) := by decide +kernel
theorem dX1_votesFor_24 : decode cX1_votesFor 24 = .ok (.iload_n 3, 1) := by decide +kernel
theorem dX1_votesFor_25 : decode cX1_votesFor 25 = .ok (.iaload, 1) := by decide +kernel
theorem dX1_votesFor_26 : decode cX1_votesFor 26 = .ok (.iload_n 1, 1) := by decide +kernel
theorem dX1_votesFor_27 : decode cX1_votesFor 27 = .ok (.iand, 1) := by decide +kernel
theorem dX1_votesFor_28 : decode cX1_votesFor 28 = .ok (.ifCond .eq 11, 3) := by decide +kernel
theorem dX1_votesFor_31 : decode cX1_votesFor 31 = .ok (.iload_n 2, 1) := by decide +kernel
theorem dX1_votesFor_32 : decode cX1_votesFor 32 = .ok (.aload_n 0, 1) := by decide +kernel
theorem dX1_votesFor_33 : decode cX1_votesFor 33 = .ok (.iload_n 3, 1) := by decide +kernel
theorem dX1_votesFor_34 : decode cX1_votesFor 34 = .ok (.invokevirtual 90, 3) := by decide +kernel
theorem dX1_votesFor_37 : decode cX1_votesFor 37 = .ok (.iadd, 1) := by decide +kernel
theorem dX1_votesFor_38 : decode cX1_votesFor 38 = .ok (.istore_n 2, 1) := by decide +kernel
theorem dX1_votesFor_39 : decode cX1_votesFor 39 = .ok (.iinc 3 1, 3) := by decide +kernel
theorem dX1_votesFor_42 : decode cX1_votesFor 42 = .ok (.goto (-38), 3) := by decide +kernel
theorem dX1_votesFor_45 : decode cX1_votesFor 45 = .ok (.iload_n 2, 1) := by decide +kernel
theorem dX1_votesFor_46 : decode cX1_votesFor 46 = .ok (.ireturn, 1) := by decide +kernel
theorem dX1_farFromStrip_0 : decode cX1_farFromStrip 0 = .ok (.aload_n 0, 1) := by decide +kernel
theorem dX1_farFromStrip_1 : decode cX1_farFromStrip 1 = .ok (.getfield 18, 3) := by decide +kernel
theorem dX1_farFromStrip_4 : decode cX1_farFromStrip 4 = .ok (.aload_n 0, 1) := by decide +kernel
theorem dX1_farFromStrip_5 : decode cX1_farFromStrip 5 = .ok (.getfield 15, 3) := by decide +kernel
theorem dX1_farFromStrip_8 : decode cX1_farFromStrip 8 = .ok (.if_icmp .ne 13, 3) := by decide +kernel
theorem dX1_farFromStrip_11 : decode cX1_farFromStrip 11 = .ok (.iload_n 1, 1) := by decide +kernel
theorem dX1_farFromStrip_12 : decode cX1_farFromStrip 12 = .ok (.aload_n 0, 1) := by decide +kernel
theorem dX1_farFromStrip_13 : decode cX1_farFromStrip 13 = .ok (.getfield 15, 3) := by decide +kernel
theorem dX1_farFromStrip_16 : decode cX1_farFromStrip 16 = .ok (.isub, 1) := by decide +kernel
theorem dX1_farFromStrip_17 : decode cX1_farFromStrip 17 = .ok (.invokestatic 113, 3) := by decide +kernel
theorem dX1_farFromStrip_20 : decode cX1_farFromStrip 20 = .ok (.ireturn, 1) := by decide +kernel
theorem dX1_farFromStrip_21 : decode cX1_farFromStrip 21 = .ok (.iconst 0, 1) := by decide +kernel
theorem dX1_farFromStrip_22 : decode cX1_farFromStrip 22 = .ok (.aload_n 0, 1) := by decide +kernel
theorem dX1_farFromStrip_23 : decode cX1_farFromStrip 23 = .ok (.getfield 15, 3) := by decide +kernel
theorem dX1_farFromStrip_26 : decode cX1_farFromStrip 26 = .ok (.iload_n 1, 1) := by decide +kernel
theorem dX1_farFromStrip_27 : decode cX1_farFromStrip 27 = .ok (.isub, 1) := by decide +kernel
theorem dX1_farFromStrip_28 : decode cX1_farFromStrip 28 = .ok (.iload_n 1, 1) := by decide +kernel
theorem dX1_farFromStrip_29 : decode cX1_farFromStrip 29 = .ok (.aload_n 0, 1) := by decide +kernel
theorem dX1_farFromStrip_30 : decode cX1_farFromStrip 30 = .ok (.getfield 18, 3) := by decide +kernel
theorem dX1_farFromStrip_33 : decode cX1_farFromStrip 33 = .ok (.iconst 1, 1) := by decide +kernel
theorem dX1_farFromStrip_34 : decode cX1_farFromStrip 34 = .ok (.isub, 1) := by decide +kernel
theorem dX1_farFromStrip_35 : decode cX1_farFromStrip 35 = .ok (.isub, 1) := by decide +kernel
theorem dX1_farFromStrip_36 : decode cX1_farFromStrip 36 = .ok (.invokestatic 94, 3) := by decide +kernel
theorem dX1_farFromStrip_39 : decode cX1_farFromStrip 39 = .ok (.invokestatic 94, 3) := by decide +kernel
theorem dX1_farFromStrip_42 : decode cX1_farFromStrip 42 = .ok (.ireturn, 1) := by decide +kernel
theorem dX1_othersWith_0 : decode cX1_othersWith 0 = .ok (.iconst 0, 1) := by decide +kernel
theorem dX1_othersWith_1 : decode cX1_othersWith 1 = .ok (.istore_n 2, 1) := by decide +kernel
theorem dX1_othersWith_2 : decode cX1_othersWith 2 = .ok (.iconst 0, 1) := by decide +kernel
theorem dX1_othersWith_3 : decode cX1_othersWith 3 = .ok (.istore_n 3, 1) := by decide +kernel
theorem dX1_othersWith_4 : decode cX1_othersWith 4 = .ok (.iload_n 3, 1) := by decide +kernel
theorem dX1_othersWith_5 : decode cX1_othersWith 5 = .ok (.aload_n 0, 1) := by decide +kernel
theorem dX1_othersWith_6 : decode cX1_othersWith 6 = .ok (.getfield 36, 3) := by decide +kernel
theorem dX1_othersWith_9 : decode cX1_othersWith 9 = .ok (.if_icmp .ge 32, 3) := by decide +kernel
theorem dX1_othersWith_12 : decode cX1_othersWith 12 = .ok (.iload_n 3, 1) := by decide +kernel
theorem dX1_othersWith_13 : decode cX1_othersWith 13 = .ok (.iload_n 1, 1) := by decide +kernel
theorem dX1_othersWith_14 : decode cX1_othersWith 14 = .ok (.if_icmp .eq 21, 3) := by decide +kernel
theorem dX1_othersWith_17 : decode cX1_othersWith 17 = .ok (.aload_n 0, 1) := by decide +kernel
theorem dX1_othersWith_18 : decode cX1_othersWith 18 = .ok (.getfield 43, 3) := by decide +kernel
theorem dX1_othersWith_21 : decode cX1_othersWith 21 = .ok (.iload_n 3, 1) := by decide +kernel
theorem dX1_othersWith_22 : decode cX1_othersWith 22 = .ok (.iaload, 1) := by decide +kernel
theorem dX1_othersWith_23 : decode cX1_othersWith 23 = .ok (.aload_n 0, 1) := by decide +kernel
theorem dX1_othersWith_24 : decode cX1_othersWith 24 = .ok (.getfield 43, 3) := by decide +kernel
theorem dX1_othersWith_27 : decode cX1_othersWith 27 = .ok (.iload_n 1, 1) := by decide +kernel
theorem dX1_othersWith_28 : decode cX1_othersWith 28 = .ok (.iaload, 1) := by decide +kernel
theorem dX1_othersWith_29 : decode cX1_othersWith 29 = .ok (.if_icmp .ne 6, 3) := by decide +kernel
theorem dX1_othersWith_32 : decode cX1_othersWith 32 = .ok (.iinc 2 1, 3) := by decide +kernel
theorem dX1_othersWith_35 : decode cX1_othersWith 35 = .ok (.iinc 3 1, 3) := by decide +kernel
theorem dX1_othersWith_38 : decode cX1_othersWith 38 = .ok (.goto (-34), 3) := by decide +kernel
theorem dX1_othersWith_41 : decode cX1_othersWith 41 = .ok (.iload_n 2, 1) := by decide +kernel
theorem dX1_othersWith_42 : decode cX1_othersWith 42 = .ok (.ireturn, 1) := by decide +kernel
theorem dX1_canMove_0 : decode cX1_canMove 0 = .ok (.iload_n 2, 1) := by decide +kernel
theorem dX1_canMove_1 : decode cX1_canMove 1 = .ok (.iconst (-1), 1) := by decide +kernel
theorem dX1_canMove_2 : decode cX1_canMove 2 = .ok (.if_icmp .ne 15, 3) := by decide +kernel
theorem dX1_canMove_5 : decode cX1_canMove 5 = .ok (.iload 4, 2) := by decide +kernel
theorem dX1_canMove_7 : decode cX1_canMove 7 = .ok (.iload_n 3, 1) := by decide +kernel
theorem dX1_canMove_8 : decode cX1_canMove 8 = .ok (.if_icmp .le 7, 3) := by decide +kernel
theorem dX1_canMove_11 : decode cX1_canMove 11 = .ok (.iconst 1, 1) := by decide +kernel
theorem dX1_canMove_12 : decode cX1_canMove 12 = .ok (.goto 4, 3) := by decide +kernel
theorem dX1_canMove_15 : decode cX1_canMove 15 = .ok (.iconst 0, 1) := by decide +kernel
theorem dX1_canMove_16 : decode cX1_canMove 16 = .ok (.ireturn, 1) := by decide +kernel
theorem dX1_canMove_17 : decode cX1_canMove 17 = .ok (.iload_n 1, 1) := by decide +kernel
theorem dX1_canMove_18 : decode cX1_canMove 18 = .ok (.ifCond .ne 15, 3) := by decide +kernel
theorem dX1_canMove_21 : decode cX1_canMove 21 = .ok (.iload_n 3, 1) := by decide +kernel
theorem dX1_canMove_22 : decode cX1_canMove 22 = .ok (.ifCond .le 7, 3) := by decide +kernel
theorem dX1_canMove_25 : decode cX1_canMove 25 = .ok (.iconst 1, 1) := by decide +kernel
theorem dX1_canMove_26 : decode cX1_canMove 26 = .ok (.goto 21, 3) := by decide +kernel
theorem dX1_canMove_29 : decode cX1_canMove 29 = .ok (.iconst 0, 1) := by decide +kernel
theorem dX1_canMove_30 : decode cX1_canMove 30 = .ok (.goto 17, 3) := by decide +kernel
theorem dX1_canMove_33 : decode cX1_canMove 33 = .ok (.iload 4, 2) := by decide +kernel
theorem dX1_canMove_35 : decode cX1_canMove 35 = .ok (.aload_n 0, 1) := by decide +kernel
theorem dX1_canMove_36 : decode cX1_canMove 36 = .ok (.getfield 9, 3) := by decide +kernel
theorem dX1_canMove_39 : decode cX1_canMove 39 = .ok (.if_icmp .ge 7, 3) := by decide +kernel
theorem dX1_canMove_42 : decode cX1_canMove 42 = .ok (.iconst 1, 1) := by decide +kernel
theorem dX1_canMove_43 : decode cX1_canMove 43 = .ok (.goto 4, 3) := by decide +kernel
theorem dX1_canMove_46 : decode cX1_canMove 46 = .ok (.iconst 0, 1) := by decide +kernel
theorem dX1_canMove_47 : decode cX1_canMove 47 = .ok (.ireturn, 1) := by decide +kernel
theorem dX1_yearOn_0 : decode cX1_yearOn 0 = .ok (.iload_n 1, 1) := by decide +kernel
theorem dX1_yearOn_1 : decode cX1_yearOn 1 = .ok (.invokestatic 116, 3) := by decide +kernel
theorem dX1_yearOn_4 : decode cX1_yearOn 4 = .ok (.istore_n 2, 1) := by decide +kernel
theorem dX1_yearOn_5 : decode cX1_yearOn 5 = .ok (.iload_n 1, 1) := by decide +kernel
theorem dX1_yearOn_6 : decode cX1_yearOn 6 = .ok (.invokestatic 119, 3) := by decide +kernel
theorem dX1_yearOn_9 : decode cX1_yearOn 9 = .ok (.istore_n 3, 1) := by decide +kernel
theorem dX1_yearOn_10 : decode cX1_yearOn 10 = .ok (.aload_n 0, 1) := by decide +kernel
theorem dX1_yearOn_11 : decode cX1_yearOn 11 = .ok (.iload_n 2, 1) := by decide +kernel
theorem dX1_yearOn_12 : decode cX1_yearOn 12 = .ok (.iload_n 3, 1) := by decide +kernel
theorem dX1_yearOn_13 : decode cX1_yearOn 13 = .ok (.invokevirtual 122, 3) := by decide +kernel
theorem dX1_yearOn_16 : decode cX1_yearOn 16 = .ok (.istore 4, 2) := by decide +kernel
theorem dX1_yearOn_18 : decode cX1_yearOn 18 = .ok (.iload 4, 2) := by decide +kernel
theorem dX1_yearOn_20 : decode cX1_yearOn 20 = .ok (.aload_n 0, 1) := by decide +kernel
theorem dX1_yearOn_21 : decode cX1_yearOn 21 = .ok (.iload_n 2, 1) := by decide +kernel
theorem dX1_yearOn_22 : decode cX1_yearOn 22 = .ok (.iload_n 3, 1) := by decide +kernel
theorem dX1_yearOn_23 : decode cX1_yearOn 23 = .ok (.invokevirtual 125, 3) := by decide +kernel
theorem dX1_yearOn_26 : decode cX1_yearOn 26 = .ok (.if_icmp .le 7, 3) := by decide +kernel
theorem dX1_yearOn_29 : decode cX1_yearOn 29 = .ok (.iconst 1, 1) := by decide +kernel
theorem dX1_yearOn_30 : decode cX1_yearOn 30 = .ok (.goto 4, 3) := by decide +kernel
theorem dX1_yearOn_33 : decode cX1_yearOn 33 = .ok (.iconst (-1), 1) := by decide +kernel
theorem dX1_yearOn_34 : decode cX1_yearOn 34 = .ok (.istore 5, 2) := by decide +kernel
theorem dX1_yearOn_36 : decode cX1_yearOn 36 = .ok (.iload 4, 2) := by decide +kernel
theorem dX1_yearOn_38 : decode cX1_yearOn 38 = .ok (.aload_n 0, 1) := by decide +kernel
theorem dX1_yearOn_39 : decode cX1_yearOn 39 = .ok (.iload_n 2, 1) := by decide +kernel
theorem dX1_yearOn_40 : decode cX1_yearOn 40 = .ok (.iload_n 3, 1) := by decide +kernel
theorem dX1_yearOn_41 : decode cX1_yearOn 41 = .ok (.invokevirtual 128, 3) := by decide +kernel
theorem dX1_yearOn_44 : decode cX1_yearOn 44 = .ok (.if_icmp .le 7, 3) := by decide +kernel
theorem dX1_yearOn_47 : decode cX1_yearOn 47 = .ok (.iconst 1, 1) := by decide +kernel
theorem dX1_yearOn_48 : decode cX1_yearOn 48 = .ok (.goto 4, 3) := by decide +kernel
theorem dX1_yearOn_51 : decode cX1_yearOn 51 = .ok (.iconst (-1), 1) := by decide +kernel
theorem dX1_yearOn_52 : decode cX1_yearOn 52 = .ok (.istore 6, 2) := by decide +kernel
theorem dX1_yearOn_54 : decode cX1_yearOn 54 = .ok (.iload 5, 2) := by decide +kernel
theorem dX1_yearOn_56 : decode cX1_yearOn 56 = .ok (.iconst (-1), 1) := by decide +kernel
theorem dX1_yearOn_57 : decode cX1_yearOn 57 = .ok (.if_icmp .ne 20, 3) := by decide +kernel
theorem dX1_yearOn_60 : decode cX1_yearOn 60 = .ok (.iload 6, 2) := by decide +kernel
theorem dX1_yearOn_62 : decode cX1_yearOn 62 = .ok (.iconst (-1), 1) := by decide +kernel
theorem dX1_yearOn_63 : decode cX1_yearOn 63 = .ok (.if_icmp .ne 14, 3) := by decide +kernel
theorem dX1_yearOn_66 : decode cX1_yearOn 66 = .ok (.iload_n 3, 1) := by decide +kernel
theorem dX1_yearOn_67 : decode cX1_yearOn 67 = .ok (.iload_n 2, 1) := by decide +kernel
theorem dX1_yearOn_68 : decode cX1_yearOn 68 = .ok (.isub, 1) := by decide +kernel
theorem dX1_yearOn_69 : decode cX1_yearOn 69 = .ok (.iconst 1, 1) := by decide +kernel
theorem dX1_yearOn_70 : decode cX1_yearOn 70 = .ok (.if_icmp .ne 7, 3) := by decide +kernel
theorem dX1_yearOn_73 : decode cX1_yearOn 73 = .ok (.iconst 1, 1) := by decide +kernel
theorem dX1_yearOn_74 : decode cX1_yearOn 74 = .ok (.goto 4, 3) := by decide +kernel
theorem dX1_yearOn_77 : decode cX1_yearOn 77 = .ok (.iconst 0, 1) := by decide +kernel
theorem dX1_yearOn_78 : decode cX1_yearOn 78 = .ok (.istore 7, 2) := by decide +kernel
theorem dX1_yearOn_80 : decode cX1_yearOn 80 = .ok (.aload_n 0, 1) := by decide +kernel
theorem dX1_yearOn_81 : decode cX1_yearOn 81 = .ok (.iconst 0, 1) := by decide +kernel
theorem dX1_yearOn_82 : decode cX1_yearOn 82 = .ok (.iload 5, 2) := by decide +kernel
theorem dX1_yearOn_84 : decode cX1_yearOn 84 = .ok (.iload_n 2, 1) := by decide +kernel
theorem dX1_yearOn_85 : decode cX1_yearOn 85 = .ok (.iload_n 3, 1) := by decide +kernel
theorem dX1_yearOn_86 : decode cX1_yearOn 86 = .ok (.invokevirtual 131, 3) := by decide +kernel
theorem dX1_yearOn_89 : decode cX1_yearOn 89 = .ok (.ifCond .eq 10, 3) := by decide +kernel
theorem dX1_yearOn_92 : decode cX1_yearOn 92 = .ok (.iload_n 2, 1) := by decide +kernel
theorem dX1_yearOn_93 : decode cX1_yearOn 93 = .ok (.iload 5, 2) := by decide +kernel
theorem dX1_yearOn_95 : decode cX1_yearOn 95 = .ok (.isub, 1) := by decide +kernel
theorem dX1_yearOn_96 : decode cX1_yearOn 96 = .ok (.goto 4, 3) := by decide +kernel
theorem dX1_yearOn_99 : decode cX1_yearOn 99 = .ok (.iload_n 2, 1) := by decide +kernel
theorem dX1_yearOn_100 : decode cX1_yearOn 100 = .ok (.istore 8, 2) := by decide +kernel
theorem dX1_yearOn_102 : decode cX1_yearOn 102 = .ok (.aload_n 0, 1) := by decide +kernel
theorem dX1_yearOn_103 : decode cX1_yearOn 103 = .ok (.iconst 1, 1) := by decide +kernel
theorem dX1_yearOn_104 : decode cX1_yearOn 104 = .ok (.iload 6, 2) := by decide +kernel
theorem dX1_yearOn_106 : decode cX1_yearOn 106 = .ok (.iload_n 2, 1) := by decide +kernel
theorem dX1_yearOn_107 : decode cX1_yearOn 107 = .ok (.iload_n 3, 1) := by decide +kernel
theorem dX1_yearOn_108 : decode cX1_yearOn 108 = .ok (.invokevirtual 131, 3) := by decide +kernel
theorem dX1_yearOn_111 : decode cX1_yearOn 111 = .ok (.ifCond .eq 15, 3) := by decide +kernel
theorem dX1_yearOn_114 : decode cX1_yearOn 114 = .ok (.iload 7, 2) := by decide +kernel
theorem dX1_yearOn_116 : decode cX1_yearOn 116 = .ok (.ifCond .ne 10, 3) := by decide +kernel
theorem dX1_yearOn_119 : decode cX1_yearOn 119 = .ok (.iload_n 3, 1) := by decide +kernel
theorem dX1_yearOn_120 : decode cX1_yearOn 120 = .ok (.iload 6, 2) := by decide +kernel
theorem dX1_yearOn_122 : decode cX1_yearOn 122 = .ok (.iadd, 1) := by decide +kernel
theorem dX1_yearOn_123 : decode cX1_yearOn 123 = .ok (.goto 4, 3) := by decide +kernel
theorem dX1_yearOn_126 : decode cX1_yearOn 126 = .ok (.iload_n 3, 1) := by decide +kernel
theorem dX1_yearOn_127 : decode cX1_yearOn 127 = .ok (.istore 9, 2) := by decide +kernel
theorem dX1_yearOn_129 : decode cX1_yearOn 129 = .ok (.iload 8, 2) := by decide +kernel
theorem dX1_yearOn_131 : decode cX1_yearOn 131 = .ok (.iload 9, 2) := by decide +kernel
theorem dX1_yearOn_133 : decode cX1_yearOn 133 = .ok (.invokestatic 65, 3) := by decide +kernel
theorem dX1_yearOn_136 : decode cX1_yearOn 136 = .ok (.ireturn, 1) := by decide +kernel
theorem dX1_act_0 : decode cX1_act 0 = .ok (.aload_n 0, 1) := by decide +kernel
theorem dX1_act_1 : decode cX1_act 1 = .ok (.iconst 1, 1) := by decide +kernel
theorem dX1_act_2 : decode cX1_act 2 = .ok (.invokevirtual 135, 3) := by decide +kernel
theorem dX1_act_5 : decode cX1_act 5 = .ok (.ifCond .eq 12, 3) := by decide +kernel
theorem dX1_act_8 : decode cX1_act 8 = .ok (.aload_n 0, 1) := by decide +kernel
theorem dX1_act_9 : decode cX1_act 9 = .ok (.iload 4, 2) := by decide +kernel
theorem dX1_act_11 : decode cX1_act 11 = .ok (.invokevirtual 138, 3) := by decide +kernel
theorem dX1_act_14 : decode cX1_act 14 = .ok (.ifCond .ne 4, 3) := by decide +kernel
theorem dX1_act_17 : decode cX1_act 17 = .ok (.return_, 1) := by decide +kernel
theorem dX1_act_18 : decode cX1_act 18 = .ok (.aload_n 0, 1) := by decide +kernel
theorem dX1_act_19 : decode cX1_act 19 = .ok (.getfield 58, 3) := by decide +kernel
theorem dX1_act_22 : decode cX1_act 22 = .ok (.getfield 62, 3) := by decide +kernel
theorem dX1_act_25 : decode cX1_act 25 = .ok (.istore 6, 2) := by decide +kernel
theorem dX1_act_27 : decode cX1_act 27 = .ok (.aload_n 0, 1) := by decide +kernel
theorem dX1_act_28 : decode cX1_act 28 = .ok (.getfield 58, 3) := by decide +kernel
theorem dX1_act_31 : decode cX1_act 31 = .ok (.getfield 141, 3) := by decide +kernel
theorem dX1_act_34 : decode cX1_act 34 = .ok (.iload 6, 2) := by decide +kernel
theorem dX1_act_36 : decode cX1_act 36 = .ok (.iload_n 1, 1) := by decide +kernel
theorem dX1_act_37 : decode cX1_act 37 = .ok (.iastore, 1) := by decide +kernel
theorem dX1_act_38 : decode cX1_act 38 = .ok (.aload_n 0, 1) := by decide +kernel
theorem dX1_act_39 : decode cX1_act 39 = .ok (.getfield 58, 3) := by decide +kernel
theorem dX1_act_42 : decode cX1_act 42 = .ok (.getfield 144, 3) := by decide +kernel
theorem dX1_act_45 : decode cX1_act 45 = .ok (.iload 6, 2) := by decide +kernel
theorem dX1_act_47 : decode cX1_act 47 = .ok (.iload_n 2, 1) := by decide +kernel
theorem dX1_act_48 : decode cX1_act 48 = .ok (.iastore, 1) := by decide +kernel
theorem dX1_act_49 : decode cX1_act 49 = .ok (.aload_n 0, 1) := by decide +kernel
theorem dX1_act_50 : decode cX1_act 50 = .ok (.getfield 58, 3) := by decide +kernel
theorem dX1_act_53 : decode cX1_act 53 = .ok (.getfield 147, 3) := by decide +kernel
theorem dX1_act_56 : decode cX1_act 56 = .ok (.iload 6, 2) := by decide +kernel
theorem dX1_act_58 : decode cX1_act 58 = .ok (.iload_n 3, 1) := by decide +kernel
theorem dX1_act_59 : decode cX1_act 59 = .ok (.iastore, 1) := by decide +kernel
theorem dX1_act_60 : decode cX1_act 60 = .ok (.aload_n 0, 1) := by decide +kernel
theorem dX1_act_61 : decode cX1_act 61 = .ok (.getfield 58, 3) := by decide +kernel
theorem dX1_act_64 : decode cX1_act 64 = .ok (.getfield 150, 3) := by decide +kernel
theorem dX1_act_67 : decode cX1_act 67 = .ok (.iload 6, 2) := by decide +kernel
theorem dX1_act_69 : decode cX1_act 69 = .ok (.iload 4, 2) := by decide +kernel
theorem dX1_act_71 : decode cX1_act 71 = .ok (.iastore, 1) := by decide +kernel
theorem dX1_act_72 : decode cX1_act 72 = .ok (.aload_n 0, 1) := by decide +kernel
theorem dX1_act_73 : decode cX1_act 73 = .ok (.getfield 58, 3) := by decide +kernel
theorem dX1_act_76 : decode cX1_act 76 = .ok (.getfield 153, 3) := by decide +kernel
theorem dX1_act_79 : decode cX1_act 79 = .ok (.iload 6, 2) := by decide +kernel
theorem dX1_act_81 : decode cX1_act 81 = .ok (.iload 5, 2) := by decide +kernel
theorem dX1_act_83 : decode cX1_act 83 = .ok (.iastore, 1) := by decide +kernel
theorem dX1_act_84 : decode cX1_act 84 = .ok (.aload_n 0, 1) := by decide +kernel
theorem dX1_act_85 : decode cX1_act 85 = .ok (.getfield 58, 3) := by decide +kernel
theorem dX1_act_88 : decode cX1_act 88 = .ok (.iload 6, 2) := by decide +kernel
theorem dX1_act_90 : decode cX1_act 90 = .ok (.iconst 1, 1) := by decide +kernel
theorem dX1_act_91 : decode cX1_act 91 = .ok (.iadd, 1) := by decide +kernel
theorem dX1_act_92 : decode cX1_act 92 = .ok (.putfield 62, 3) := by decide +kernel
theorem dX1_act_95 : decode cX1_act 95 = .ok (.aload_n 0, 1) := by decide +kernel
theorem dX1_act_96 : decode cX1_act 96 = .ok (.dup, 1) := by decide +kernel
theorem dX1_act_97 : decode cX1_act 97 = .ok (.getfield 15, 3) := by decide +kernel
theorem dX1_act_100 : decode cX1_act 100 = .ok (.iload_n 1, 1) := by decide +kernel
theorem dX1_act_101 : decode cX1_act 101 = .ok (.iadd, 1) := by decide +kernel
theorem dX1_act_102 : decode cX1_act 102 = .ok (.putfield 15, 3) := by decide +kernel
theorem dX1_act_105 : decode cX1_act 105 = .ok (.aload_n 0, 1) := by decide +kernel
theorem dX1_act_106 : decode cX1_act 106 = .ok (.dup, 1) := by decide +kernel
theorem dX1_act_107 : decode cX1_act 107 = .ok (.getfield 18, 3) := by decide +kernel
theorem dX1_act_110 : decode cX1_act 110 = .ok (.iload_n 2, 1) := by decide +kernel
theorem dX1_act_111 : decode cX1_act 111 = .ok (.iadd, 1) := by decide +kernel
theorem dX1_act_112 : decode cX1_act 112 = .ok (.putfield 18, 3) := by decide +kernel
theorem dX1_act_115 : decode cX1_act 115 = .ok (.aload_n 0, 1) := by decide +kernel
theorem dX1_act_116 : decode cX1_act 116 = .ok (.dup, 1) := by decide +kernel
theorem dX1_act_117 : decode cX1_act 117 = .ok (.getfield 33, 3) := by decide +kernel
theorem dX1_act_120 : decode cX1_act 120 = .ok (.iload_n 3, 1) := by decide +kernel
theorem dX1_act_121 : decode cX1_act 121 = .ok (.iadd, 1) := by decide +kernel
theorem dX1_act_122 : decode cX1_act 122 = .ok (.putfield 33, 3) := by decide +kernel
theorem dX1_act_125 : decode cX1_act 125 = .ok (.aload_n 0, 1) := by decide +kernel
theorem dX1_act_126 : decode cX1_act 126 = .ok (.getfield 43, 3) := by decide +kernel
theorem dX1_act_129 : decode cX1_act 129 = .ok (.iload 4, 2) := by decide +kernel
theorem dX1_act_131 : decode cX1_act 131 = .ok (.dup2, 1) := by decide +kernel
theorem dX1_act_132 : decode cX1_act 132 = .ok (.iaload, 1) := by decide +kernel
theorem dX1_act_133 : decode cX1_act 133 = .ok (.iload 5, 2) := by decide +kernel
theorem dX1_act_135 : decode cX1_act 135 = .ok (.iadd, 1) := by decide +kernel
theorem dX1_act_136 : decode cX1_act 136 = .ok (.iastore, 1) := by decide +kernel
theorem dX1_act_137 : decode cX1_act 137 = .ok (.return_, 1) := by decide +kernel
theorem dX1_takeBack_0 : decode cX1_takeBack 0 = .ok (.iconst 0, 1) := by decide +kernel
theorem dX1_takeBack_1 : decode cX1_takeBack 1 = .ok (.istore_n 2, 1) := by decide +kernel
theorem dX1_takeBack_2 : decode cX1_takeBack 2 = .ok (.iload_n 2, 1) := by decide +kernel
theorem dX1_takeBack_3 : decode cX1_takeBack 3 = .ok (.iload_n 1, 1) := by decide +kernel
theorem dX1_takeBack_4 : decode cX1_takeBack 4 = .ok (.if_icmp .ge 117, 3) := by decide +kernel
theorem dX1_takeBack_7 : decode cX1_takeBack 7 = .ok (.aload_n 0, 1) := by decide +kernel
theorem dX1_takeBack_8 : decode cX1_takeBack 8 = .ok (.getfield 58, 3) := by decide +kernel
theorem dX1_takeBack_11 : decode cX1_takeBack 11 = .ok (.getfield 62, 3) := by decide +kernel
theorem dX1_takeBack_14 : decode cX1_takeBack 14 = .ok (.ifCond .le 107, 3) := by decide +kernel
theorem dX1_takeBack_17 : decode cX1_takeBack 17 = .ok (.aload_n 0, 1) := by decide +kernel
theorem dX1_takeBack_18 : decode cX1_takeBack 18 = .ok (.getfield 58, 3) := by decide +kernel
theorem dX1_takeBack_21 : decode cX1_takeBack 21 = .ok (.getfield 62, 3) := by decide +kernel
theorem dX1_takeBack_24 : decode cX1_takeBack 24 = .ok (.iconst 1, 1) := by decide +kernel
theorem dX1_takeBack_25 : decode cX1_takeBack 25 = .ok (.isub, 1) := by decide +kernel
theorem dX1_takeBack_26 : decode cX1_takeBack 26 = .ok (.istore_n 3, 1) := by decide +kernel
theorem dX1_takeBack_27 : decode cX1_takeBack 27 = .ok (.aload_n 0, 1) := by decide +kernel
theorem dX1_takeBack_28 : decode cX1_takeBack 28 = .ok (.dup, 1) := by decide +kernel
theorem dX1_takeBack_29 : decode cX1_takeBack 29 = .ok (.getfield 15, 3) := by decide +kernel
theorem dX1_takeBack_32 : decode cX1_takeBack 32 = .ok (.aload_n 0, 1) := by decide +kernel
theorem dX1_takeBack_33 : decode cX1_takeBack 33 = .ok (.getfield 58, 3) := by decide +kernel
theorem dX1_takeBack_36 : decode cX1_takeBack 36 = .ok (.getfield 141, 3) := by decide +kernel
theorem dX1_takeBack_39 : decode cX1_takeBack 39 = .ok (.iload_n 3, 1) := by decide +kernel
theorem dX1_takeBack_40 : decode cX1_takeBack 40 = .ok (.iaload, 1) := by decide +kernel
theorem dX1_takeBack_41 : decode cX1_takeBack 41 = .ok (.isub, 1) := by decide +kernel
theorem dX1_takeBack_42 : decode cX1_takeBack 42 = .ok (.putfield 15, 3) := by decide +kernel
theorem dX1_takeBack_45 : decode cX1_takeBack 45 = .ok (.aload_n 0, 1) := by decide +kernel
theorem dX1_takeBack_46 : decode cX1_takeBack 46 = .ok (.dup, 1) := by decide +kernel
theorem dX1_takeBack_47 : decode cX1_takeBack 47 = .ok (.getfield 18, 3) := by decide +kernel
theorem dX1_takeBack_50 : decode cX1_takeBack 50 = .ok (.aload_n 0, 1) := by decide +kernel
theorem dX1_takeBack_51 : decode cX1_takeBack 51 = .ok (.getfield 58, 3) := by decide +kernel
theorem dX1_takeBack_54 : decode cX1_takeBack 54 = .ok (.getfield 144, 3) := by decide +kernel
theorem dX1_takeBack_57 : decode cX1_takeBack 57 = .ok (.iload_n 3, 1) := by decide +kernel
theorem dX1_takeBack_58 : decode cX1_takeBack 58 = .ok (.iaload, 1) := by decide +kernel
theorem dX1_takeBack_59 : decode cX1_takeBack 59 = .ok (.isub, 1) := by decide +kernel
theorem dX1_takeBack_60 : decode cX1_takeBack 60 = .ok (.putfield 18, 3) := by decide +kernel
theorem dX1_takeBack_63 : decode cX1_takeBack 63 = .ok (.aload_n 0, 1) := by decide +kernel
theorem dX1_takeBack_64 : decode cX1_takeBack 64 = .ok (.dup, 1) := by decide +kernel
theorem dX1_takeBack_65 : decode cX1_takeBack 65 = .ok (.getfield 33, 3) := by decide +kernel
theorem dX1_takeBack_68 : decode cX1_takeBack 68 = .ok (.aload_n 0, 1) := by decide +kernel
theorem dX1_takeBack_69 : decode cX1_takeBack 69 = .ok (.getfield 58, 3) := by decide +kernel
theorem dX1_takeBack_72 : decode cX1_takeBack 72 = .ok (.getfield 147, 3) := by decide +kernel
theorem dX1_takeBack_75 : decode cX1_takeBack 75 = .ok (.iload_n 3, 1) := by decide +kernel
theorem dX1_takeBack_76 : decode cX1_takeBack 76 = .ok (.iaload, 1) := by decide +kernel
theorem dX1_takeBack_77 : decode cX1_takeBack 77 = .ok (.isub, 1) := by decide +kernel
theorem dX1_takeBack_78 : decode cX1_takeBack 78 = .ok (.putfield 33, 3) := by decide +kernel
theorem dX1_takeBack_81 : decode cX1_takeBack 81 = .ok (.aload_n 0, 1) := by decide +kernel
theorem dX1_takeBack_82 : decode cX1_takeBack 82 = .ok (.getfield 43, 3) := by decide +kernel
theorem dX1_takeBack_85 : decode cX1_takeBack 85 = .ok (.aload_n 0, 1) := by decide +kernel
theorem dX1_takeBack_86 : decode cX1_takeBack 86 = .ok (.getfield 58, 3) := by decide +kernel
theorem dX1_takeBack_89 : decode cX1_takeBack 89 = .ok (.getfield 150, 3) := by decide +kernel
theorem dX1_takeBack_92 : decode cX1_takeBack 92 = .ok (.iload_n 3, 1) := by decide +kernel
theorem dX1_takeBack_93 : decode cX1_takeBack 93 = .ok (.iaload, 1) := by decide +kernel
theorem dX1_takeBack_94 : decode cX1_takeBack 94 = .ok (.dup2, 1) := by decide +kernel
theorem dX1_takeBack_95 : decode cX1_takeBack 95 = .ok (.iaload, 1) := by decide +kernel
theorem dX1_takeBack_96 : decode cX1_takeBack 96 = .ok (.aload_n 0, 1) := by decide +kernel
theorem dX1_takeBack_97 : decode cX1_takeBack 97 = .ok (.getfield 58, 3) := by decide +kernel
theorem dX1_takeBack_100 : decode cX1_takeBack 100 = .ok (.getfield 153, 3) := by decide +kernel
theorem dX1_takeBack_103 : decode cX1_takeBack 103 = .ok (.iload_n 3, 1) := by decide +kernel
theorem dX1_takeBack_104 : decode cX1_takeBack 104 = .ok (.iaload, 1) := by decide +kernel
theorem dX1_takeBack_105 : decode cX1_takeBack 105 = .ok (.isub, 1) := by decide +kernel
theorem dX1_takeBack_106 : decode cX1_takeBack 106 = .ok (.iastore, 1) := by decide +kernel
theorem dX1_takeBack_107 : decode cX1_takeBack 107 = .ok (.aload_n 0, 1) := by decide +kernel
theorem dX1_takeBack_108 : decode cX1_takeBack 108 = .ok (.getfield 58, 3) := by decide +kernel
theorem dX1_takeBack_111 : decode cX1_takeBack 111 = .ok (.iload_n 3, 1) := by decide +kernel
theorem dX1_takeBack_112 : decode cX1_takeBack 112 = .ok (.putfield 62, 3) := by decide +kernel
theorem dX1_takeBack_115 : decode cX1_takeBack 115 = .ok (.iinc 2 1, 3) := by decide +kernel
theorem dX1_takeBack_118 : decode cX1_takeBack 118 = .ok (.goto (-116), 3) := by decide +kernel
theorem dX1_takeBack_121 : decode cX1_takeBack 121 = .ok (.return_, 1) := by decide +kernel
theorem dX1_passYear_0 : decode cX1_passYear 0 = .ok (.aload_n 0, 1) := by decide +kernel
theorem dX1_passYear_1 : decode cX1_passYear 1 = .ok (.aload_n 0, 1) := by decide +kernel
theorem dX1_passYear_2 : decode cX1_passYear 2 = .ok (.invokevirtual 156, 3) := by decide +kernel
theorem dX1_passYear_5 : decode cX1_passYear 5 = .ok (.invokevirtual 160, 3) := by decide +kernel
theorem dX1_passYear_8 : decode cX1_passYear 8 = .ok (.istore_n 1, 1) := by decide +kernel
theorem dX1_passYear_9 : decode cX1_passYear 9 = .ok (.aload_n 0, 1) := by decide +kernel
theorem dX1_passYear_10 : decode cX1_passYear 10 = .ok (.iload_n 1, 1) := by decide +kernel
theorem dX1_passYear_11 : decode cX1_passYear 11 = .ok (.invokestatic 116, 3) := by decide +kernel
theorem dX1_passYear_14 : decode cX1_passYear 14 = .ok (.aload_n 0, 1) := by decide +kernel
theorem dX1_passYear_15 : decode cX1_passYear 15 = .ok (.getfield 15, 3) := by decide +kernel
theorem dX1_passYear_18 : decode cX1_passYear 18 = .ok (.isub, 1) := by decide +kernel
theorem dX1_passYear_19 : decode cX1_passYear 19 = .ok (.iload_n 1, 1) := by decide +kernel
theorem dX1_passYear_20 : decode cX1_passYear 20 = .ok (.invokestatic 119, 3) := by decide +kernel
theorem dX1_passYear_23 : decode cX1_passYear 23 = .ok (.aload_n 0, 1) := by decide +kernel
theorem dX1_passYear_24 : decode cX1_passYear 24 = .ok (.getfield 18, 3) := by decide +kernel
theorem dX1_passYear_27 : decode cX1_passYear 27 = .ok (.isub, 1) := by decide +kernel
theorem dX1_passYear_28 : decode cX1_passYear 28 = .ok (.iconst 1, 1) := by decide +kernel
theorem dX1_passYear_29 : decode cX1_passYear 29 = .ok (.iconst 0, 1) := by decide +kernel
theorem dX1_passYear_30 : decode cX1_passYear 30 = .ok (.iconst 0, 1) := by decide +kernel
theorem dX1_passYear_31 : decode cX1_passYear 31 = .ok (.invokevirtual 163, 3) := by decide +kernel
theorem dX1_passYear_34 : decode cX1_passYear 34 = .ok (.return_, 1) := by decide +kernel
theorem dX1_walkByLot_0 : decode cX1_walkByLot 0 = .ok (.aload_n 0, 1) := by decide +kernel
theorem dX1_walkByLot_1 : decode cX1_walkByLot 1 = .ok (.getfield 36, 3) := by decide +kernel
theorem dX1_walkByLot_4 : decode cX1_walkByLot 4 = .ok (.ifCond .gt 4, 3) := by decide +kernel
theorem dX1_walkByLot_7 : decode cX1_walkByLot 7 = .ok (.return_, 1) := by decide +kernel
theorem dX1_walkByLot_8 : decode cX1_walkByLot 8 = .ok (.iload_n 1, 1) := by decide +kernel
theorem dX1_walkByLot_9 : decode cX1_walkByLot 9 = .ok (.aload_n 0, 1) := by decide +kernel
theorem dX1_walkByLot_10 : decode cX1_walkByLot 10 = .ok (.getfield 36, 3) := by decide +kernel
theorem dX1_walkByLot_13 : decode cX1_walkByLot 13 = .ok (.invokestatic 167, 3) := by decide +kernel
theorem dX1_walkByLot_16 : decode cX1_walkByLot 16 = .ok (.istore_n 3, 1) := by decide +kernel
theorem dX1_walkByLot_17 : decode cX1_walkByLot 17 = .ok (.aload_n 0, 1) := by decide +kernel
theorem dX1_walkByLot_18 : decode cX1_walkByLot 18 = .ok (.iconst 0, 1) := by decide +kernel
theorem dX1_walkByLot_19 : decode cX1_walkByLot 19 = .ok (.iconst 0, 1) := by decide +kernel
theorem dX1_walkByLot_20 : decode cX1_walkByLot 20 = .ok (.iconst 0, 1) := by decide +kernel
theorem dX1_walkByLot_21 : decode cX1_walkByLot 21 = .ok (.iload_n 3, 1) := by decide +kernel
theorem dX1_walkByLot_22 : decode cX1_walkByLot 22 = .ok (.aload_n 0, 1) := by decide +kernel
theorem dX1_walkByLot_23 : decode cX1_walkByLot 23 = .ok (.aload_n 0, 1) := by decide +kernel
theorem dX1_walkByLot_24 : decode cX1_walkByLot 24 = .ok (.getfield 43, 3) := by decide +kernel
theorem dX1_walkByLot_27 : decode cX1_walkByLot 27 = .ok (.iload_n 3, 1) := by decide +kernel
theorem dX1_walkByLot_28 : decode cX1_walkByLot 28 = .ok (.iaload, 1) := by decide +kernel
theorem dX1_walkByLot_29 : decode cX1_walkByLot 29 = .ok (.iload_n 2, 1) := by decide +kernel
theorem dX1_walkByLot_30 : decode cX1_walkByLot 30 = .ok (.iadd, 1) := by decide +kernel
theorem dX1_walkByLot_31 : decode cX1_walkByLot 31 = .ok (.invokevirtual 170, 3) := by decide +kernel
theorem dX1_walkByLot_34 : decode cX1_walkByLot 34 = .ok (.ifCond .eq 7, 3) := by decide +kernel
theorem dX1_walkByLot_37 : decode cX1_walkByLot 37 = .ok (.iload_n 2, 1) := by decide +kernel
theorem dX1_walkByLot_38 : decode cX1_walkByLot 38 = .ok (.goto 4, 3) := by decide +kernel
theorem dX1_walkByLot_41 : decode cX1_walkByLot 41 = .ok (.iconst 0, 1) := by decide +kernel
theorem dX1_walkByLot_42 : decode cX1_walkByLot 42 = .ok (.invokevirtual 163, 3) := by decide +kernel
theorem dX1_walkByLot_45 : decode cX1_walkByLot 45 = .ok (.return_, 1) := by decide +kernel
theorem dX1_enterLong_0 : decode cX1_enterLong 0 = .ok (.aload_n 0, 1) := by decide +kernel
theorem dX1_enterLong_1 : decode cX1_enterLong 1 = .ok (.getfield 15, 3) := by decide +kernel
theorem dX1_enterLong_4 : decode cX1_enterLong 4 = .ok (.iload_n 1, 1) := by decide +kernel
theorem dX1_enterLong_5 : decode cX1_enterLong 5 = .ok (.if_icmp .gt 13, 3) := by decide +kernel
theorem dX1_enterLong_8 : decode cX1_enterLong 8 = .ok (.iload_n 1, 1) := by decide +kernel
theorem dX1_enterLong_9 : decode cX1_enterLong 9 = .ok (.aload_n 0, 1) := by decide +kernel
theorem dX1_enterLong_10 : decode cX1_enterLong 10 = .ok (.getfield 18, 3) := by decide +kernel
theorem dX1_enterLong_13 : decode cX1_enterLong 13 = .ok (.if_icmp .ge 5, 3) := by decide +kernel
theorem dX1_enterLong_16 : decode cX1_enterLong 16 = .ok (.iconst 1, 1) := by decide +kernel
theorem dX1_enterLong_17 : decode cX1_enterLong 17 = .ok (.ireturn, 1) := by decide +kernel
theorem dX1_enterLong_18 : decode cX1_enterLong 18 = .ok (.iload_n 1, 1) := by decide +kernel
theorem dX1_enterLong_19 : decode cX1_enterLong 19 = .ok (.aload_n 0, 1) := by decide +kernel
theorem dX1_enterLong_20 : decode cX1_enterLong 20 = .ok (.getfield 15, 3) := by decide +kernel
theorem dX1_enterLong_23 : decode cX1_enterLong 23 = .ok (.if_icmp .ge 7, 3) := by decide +kernel
theorem dX1_enterLong_26 : decode cX1_enterLong 26 = .ok (.iconst 2, 1) := by decide +kernel
theorem dX1_enterLong_27 : decode cX1_enterLong 27 = .ok (.goto 4, 3) := by decide +kernel
theorem dX1_enterLong_30 : decode cX1_enterLong 30 = .ok (.iconst 3, 1) := by decide +kernel
theorem dX1_enterLong_31 : decode cX1_enterLong 31 = .ok (.istore_n 2, 1) := by decide +kernel
theorem dX1_enterLong_32 : decode cX1_enterLong 32 = .ok (.iconst 0, 1) := by decide +kernel
theorem dX1_enterLong_33 : decode cX1_enterLong 33 = .ok (.istore_n 3, 1) := by decide +kernel
theorem dX1_enterLong_34 : decode cX1_enterLong 34 = .ok (.iload_n 3, 1) := by decide +kernel
theorem dX1_enterLong_35 : decode cX1_enterLong 35 = .ok (.aload_n 0, 1) := by decide +kernel
theorem dX1_enterLong_36 : decode cX1_enterLong 36 = .ok (.getfield 36, 3) := by decide +kernel
theorem dX1_enterLong_39 : decode cX1_enterLong 39 = .ok (.if_icmp .ge 31, 3) := by decide +kernel
theorem dX1_enterLong_42 : decode cX1_enterLong 42 = .ok (.aload_n 0, 1) := by decide +kernel
theorem dX1_enterLong_43 : decode cX1_enterLong 43 = .ok (.getfield 43, 3) := by decide +kernel
theorem dX1_enterLong_46 : decode cX1_enterLong 46 = .ok (.iload_n 3, 1) := by decide +kernel
theorem dX1_enterLong_47 : decode cX1_enterLong 47 = .ok (.iaload, 1) := by decide +kernel
theorem dX1_enterLong_48 : decode cX1_enterLong 48 = .ok (.iload_n 1, 1) := by decide +kernel
theorem dX1_enterLong_49 : decode cX1_enterLong 49 = .ok (.if_icmp .ne 15, 3) := by decide +kernel
theorem dX1_enterLong_52 : decode cX1_enterLong 52 = .ok (.aload_n 0, 1) := by decide +kernel
theorem dX1_enterLong_53 : decode cX1_enterLong 53 = .ok (.iload_n 3, 1) := by decide +kernel
theorem dX1_enterLong_54 : decode cX1_enterLong 54 = .ok (.invokevirtual 109, 3) := by decide +kernel
theorem dX1_enterLong_57 : decode cX1_enterLong 57 = .ok (.ifCond .ne 7, 3) := by decide +kernel
theorem dX1_enterLong_60 : decode cX1_enterLong 60 = .ok (.iload_n 2, 1) := by decide +kernel
theorem dX1_enterLong_61 : decode cX1_enterLong 61 = .ok (.iconst 1, 1) := by decide +kernel
theorem dX1_enterLong_62 : decode cX1_enterLong 62 = .ok (.iadd, 1) := by decide +kernel
theorem dX1_enterLong_63 : decode cX1_enterLong 63 = .ok (.ireturn, 1) := by decide +kernel
theorem dX1_enterLong_64 : decode cX1_enterLong 64 = .ok (.iinc 3 1, 3) := by decide +kernel
theorem dX1_enterLong_67 : decode cX1_enterLong 67 = .ok (.goto (-33), 3) := by decide +kernel
theorem dX1_enterLong_70 : decode cX1_enterLong 70 = .ok (.iload_n 2, 1) := by decide +kernel
theorem dX1_enterLong_71 : decode cX1_enterLong 71 = .ok (.ireturn, 1) := by decide +kernel
theorem dX1_wayLong_0 : decode cX1_wayLong 0 = .ok (.iconst 0, 1) := by decide +kernel
theorem dX1_wayLong_1 : decode cX1_wayLong 1 = .ok (.istore_n 3, 1) := by decide +kernel
theorem dX1_wayLong_2 : decode cX1_wayLong 2 = .ok (.iload_n 1, 1) := by decide +kernel
theorem dX1_wayLong_3 : decode cX1_wayLong 3 = .ok (.iconst 1, 1) := by decide +kernel
theorem dX1_wayLong_4 : decode cX1_wayLong 4 = .ok (.iadd, 1) := by decide +kernel
theorem dX1_wayLong_5 : decode cX1_wayLong 5 = .ok (.istore 4, 2) := by decide +kernel
theorem dX1_wayLong_7 : decode cX1_wayLong 7 = .ok (.iload 4, 2) := by decide +kernel
theorem dX1_wayLong_9 : decode cX1_wayLong 9 = .ok (.iload_n 2, 1) := by decide +kernel
theorem dX1_wayLong_10 : decode cX1_wayLong 10 = .ok (.if_icmp .gt 18, 3) := by decide +kernel
theorem dX1_wayLong_13 : decode cX1_wayLong 13 = .ok (.iload_n 3, 1) := by decide +kernel
theorem dX1_wayLong_14 : decode cX1_wayLong 14 = .ok (.aload_n 0, 1) := by decide +kernel
theorem dX1_wayLong_15 : decode cX1_wayLong 15 = .ok (.iload 4, 2) := by decide +kernel
theorem dX1_wayLong_17 : decode cX1_wayLong 17 = .ok (.invokevirtual 173, 3) := by decide +kernel
theorem dX1_wayLong_20 : decode cX1_wayLong 20 = .ok (.iadd, 1) := by decide +kernel
theorem dX1_wayLong_21 : decode cX1_wayLong 21 = .ok (.istore_n 3, 1) := by decide +kernel
theorem dX1_wayLong_22 : decode cX1_wayLong 22 = .ok (.iinc 4 1, 3) := by decide +kernel
theorem dX1_wayLong_25 : decode cX1_wayLong 25 = .ok (.goto (-18), 3) := by decide +kernel
theorem dX1_wayLong_28 : decode cX1_wayLong 28 = .ok (.iload_n 1, 1) := by decide +kernel
theorem dX1_wayLong_29 : decode cX1_wayLong 29 = .ok (.iconst 1, 1) := by decide +kernel
theorem dX1_wayLong_30 : decode cX1_wayLong 30 = .ok (.isub, 1) := by decide +kernel
theorem dX1_wayLong_31 : decode cX1_wayLong 31 = .ok (.istore 4, 2) := by decide +kernel
theorem dX1_wayLong_33 : decode cX1_wayLong 33 = .ok (.iload 4, 2) := by decide +kernel
theorem dX1_wayLong_35 : decode cX1_wayLong 35 = .ok (.iload_n 2, 1) := by decide +kernel
theorem dX1_wayLong_36 : decode cX1_wayLong 36 = .ok (.if_icmp .lt 18, 3) := by decide +kernel
theorem dX1_wayLong_39 : decode cX1_wayLong 39 = .ok (.iload_n 3, 1) := by decide +kernel
theorem dX1_wayLong_40 : decode cX1_wayLong 40 = .ok (.aload_n 0, 1) := by decide +kernel
theorem dX1_wayLong_41 : decode cX1_wayLong 41 = .ok (.iload 4, 2) := by decide +kernel
theorem dX1_wayLong_43 : decode cX1_wayLong 43 = .ok (.invokevirtual 173, 3) := by decide +kernel
theorem dX1_wayLong_46 : decode cX1_wayLong 46 = .ok (.iadd, 1) := by decide +kernel
theorem dX1_wayLong_47 : decode cX1_wayLong 47 = .ok (.istore_n 3, 1) := by decide +kernel
theorem dX1_wayLong_48 : decode cX1_wayLong 48 = .ok (.iinc 4 (-1), 3) := by decide +kernel
theorem dX1_wayLong_51 : decode cX1_wayLong 51 = .ok (.goto (-18), 3) := by decide +kernel
theorem dX1_wayLong_54 : decode cX1_wayLong 54 = .ok (.iload_n 3, 1) := by decide +kernel
theorem dX1_wayLong_55 : decode cX1_wayLong 55 = .ok (.ireturn, 1) := by decide +kernel
theorem dX1_farLong_0 : decode cX1_farLong 0 = .ok (.iconst 0, 1) := by decide +kernel
theorem dX1_farLong_1 : decode cX1_farLong 1 = .ok (.istore_n 2, 1) := by decide +kernel
theorem dX1_farLong_2 : decode cX1_farLong 2 = .ok (.iconst 0, 1) := by decide +kernel
theorem dX1_farLong_3 : decode cX1_farLong 3 = .ok (.istore_n 3, 1) := by decide +kernel
theorem dX1_farLong_4 : decode cX1_farLong 4 = .ok (.iload_n 3, 1) := by decide +kernel
theorem dX1_farLong_5 : decode cX1_farLong 5 = .ok (.aload_n 0, 1) := by decide +kernel
theorem dX1_farLong_6 : decode cX1_farLong 6 = .ok (.getfield 9, 3) := by decide +kernel
theorem dX1_farLong_9 : decode cX1_farLong 9 = .ok (.if_icmp .ge 18, 3) := by decide +kernel
theorem dX1_farLong_12 : decode cX1_farLong 12 = .ok (.iload_n 2, 1) := by decide +kernel
theorem dX1_farLong_13 : decode cX1_farLong 13 = .ok (.aload_n 0, 1) := by decide +kernel
theorem dX1_farLong_14 : decode cX1_farLong 14 = .ok (.iload_n 1, 1) := by decide +kernel
theorem dX1_farLong_15 : decode cX1_farLong 15 = .ok (.iload_n 3, 1) := by decide +kernel
theorem dX1_farLong_16 : decode cX1_farLong 16 = .ok (.invokevirtual 176, 3) := by decide +kernel
theorem dX1_farLong_19 : decode cX1_farLong 19 = .ok (.iadd, 1) := by decide +kernel
theorem dX1_farLong_20 : decode cX1_farLong 20 = .ok (.istore_n 2, 1) := by decide +kernel
theorem dX1_farLong_21 : decode cX1_farLong 21 = .ok (.iinc 3 1, 3) := by decide +kernel
theorem dX1_farLong_24 : decode cX1_farLong 24 = .ok (.goto (-20), 3) := by decide +kernel
theorem dX1_farLong_27 : decode cX1_farLong 27 = .ok (.iload_n 2, 1) := by decide +kernel
theorem dX1_farLong_28 : decode cX1_farLong 28 = .ok (.ireturn, 1) := by decide +kernel
theorem dX2_init_0 : decode cX2_init 0 = .ok (.aload_n 0, 1) := by decide +kernel
theorem dX2_init_1 : decode cX2_init 1 = .ok (.invokespecial 3, 3) := by decide +kernel
theorem dX2_init_4 : decode cX2_init 4 = .ok (.aload_n 0, 1) := by decide +kernel
theorem dX2_init_5 : decode cX2_init 5 = .ok (.iconst 0, 1) := by decide +kernel
theorem dX2_init_6 : decode cX2_init 6 = .ok (.putfield 9, 3) := by decide +kernel
theorem dX2_init_9 : decode cX2_init 9 = .ok (.return_, 1) := by decide +kernel
theorem dX2_read_0 : decode cX2_read 0 = .ok (.aload_n 0, 1) := by decide +kernel
theorem dX2_read_1 : decode cX2_read 1 = .ok (.iconst 0, 1) := by decide +kernel
theorem dX2_read_2 : decode cX2_read 2 = .ok (.putfield 9, 3) := by decide +kernel
theorem dX2_read_5 : decode cX2_read 5 = .ok (.aload_n 0, 1) := by decide +kernel
theorem dX2_read_6 : decode cX2_read 6 = .ok (.aload_n 1, 1) := by decide +kernel
theorem dX2_read_7 : decode cX2_read 7 = .ok (.aload_n 2, 1) := by decide +kernel
theorem dX2_read_8 : decode cX2_read 8 = .ok (.invokevirtual 15, 3) := by decide +kernel
theorem dX2_read_11 : decode cX2_read 11 = .ok (.ifCond .eq 16, 3) := by decide +kernel
theorem dX2_read_14 : decode cX2_read 14 = .ok (.aload_n 0, 1) := by decide +kernel
theorem dX2_read_15 : decode cX2_read 15 = .ok (.aload_n 1, 1) := by decide +kernel
theorem dX2_read_16 : decode cX2_read 16 = .ok (.aload_n 2, 1) := by decide +kernel
theorem dX2_read_17 : decode cX2_read 17 = .ok (.invokevirtual 19, 3) := by decide +kernel
theorem dX2_read_20 : decode cX2_read 20 = .ok (.ifCond .eq 7, 3) := by decide +kernel
theorem dX2_read_23 : decode cX2_read 23 = .ok (.iconst 1, 1) := by decide +kernel
theorem dX2_read_24 : decode cX2_read 24 = .ok (.goto 4, 3) := by decide +kernel
theorem dX2_read_27 : decode cX2_read 27 = .ok (.iconst 0, 1) := by decide +kernel
theorem dX2_read_28 : decode cX2_read 28 = .ok (.ireturn, 1) := by decide +kernel
theorem dX2_readSides_0 : decode cX2_readSides 0 = .ok (.aload_n 0, 1) := by decide +kernel
theorem dX2_readSides_1 : decode cX2_readSides 1 = .ok (.aload_n 1, 1) := by decide +kernel
theorem dX2_readSides_2 : decode cX2_readSides 2 = .ok (.invokevirtual 22, 3) := by decide +kernel
theorem dX2_readSides_5 : decode cX2_readSides 5 = .ok (.aload_n 0, 1) := by decide +kernel
theorem dX2_readSides_6 : decode cX2_readSides 6 = .ok (.aload_n 1, 1) := by decide +kernel
theorem dX2_readSides_7 : decode cX2_readSides 7 = .ok (.invokevirtual 26, 3) := by decide +kernel
theorem dX2_readSides_10 : decode cX2_readSides 10 = .ok (.bipush 110, 2) := by decide +kernel
theorem dX2_readSides_12 : decode cX2_readSides 12 = .ok (.if_icmp .eq 5, 3) := by decide +kernel
theorem dX2_readSides_15 : decode cX2_readSides 15 = .ok (.iconst 0, 1) := by decide +kernel
theorem dX2_readSides_16 : decode cX2_readSides 16 = .ok (.ireturn, 1) := by decide +kernel
theorem dX2_readSides_17 : decode cX2_readSides 17 = .ok (.aload_n 0, 1) := by decide +kernel
theorem dX2_readSides_18 : decode cX2_readSides 18 = .ok (.dup, 1) := by decide +kernel
theorem dX2_readSides_19 : decode cX2_readSides 19 = .ok (.getfield 9, 3) := by decide +kernel
theorem dX2_readSides_22 : decode cX2_readSides 22 = .ok (.iconst 1, 1) := by decide +kernel
theorem dX2_readSides_23 : decode cX2_readSides 23 = .ok (.iadd, 1) := by decide +kernel
theorem dX2_readSides_24 : decode cX2_readSides 24 = .ok (.putfield 9, 3) := by decide +kernel
theorem dX2_readSides_27 : decode cX2_readSides 27 = .ok (.aload_n 2, 1) := by decide +kernel
theorem dX2_readSides_28 : decode cX2_readSides 28 = .ok (.aload_n 0, 1) := by decide +kernel
theorem dX2_readSides_29 : decode cX2_readSides 29 = .ok (.aload_n 1, 1) := by decide +kernel
theorem dX2_readSides_30 : decode cX2_readSides 30 = .ok (.iconst 3, 1) := by decide +kernel
theorem dX2_readSides_31 : decode cX2_readSides 31 = .ok (.bipush 9, 2) := by decide +kernel
theorem dX2_readSides_33 : decode cX2_readSides 33 = .ok (.invokevirtual 30, 3) := by decide +kernel
theorem dX2_readSides_36 : decode cX2_readSides 36 = .ok (.putfield 34, 3) := by decide +kernel
theorem dX2_readSides_39 : decode cX2_readSides 39 = .ok (.aload_n 2, 1) := by decide +kernel
theorem dX2_readSides_40 : decode cX2_readSides 40 = .ok (.aload_n 2, 1) := by decide +kernel
theorem dX2_readSides_41 : decode cX2_readSides 41 = .ok (.getfield 34, 3) := by decide +kernel
theorem dX2_readSides_44 : decode cX2_readSides 44 = .ok (.ifCond .ge 7, 3) := by decide +kernel
theorem dX2_readSides_47 : decode cX2_readSides 47 = .ok (.iconst (-1), 1) := by decide +kernel
theorem dX2_readSides_48 : decode cX2_readSides 48 = .ok (.goto 13, 3) := by decide +kernel
theorem dX2_readSides_51 : decode cX2_readSides 51 = .ok (.aload_n 0, 1) := by decide +kernel
theorem dX2_readSides_52 : decode cX2_readSides 52 = .ok (.aload_n 1, 1) := by decide +kernel
theorem dX2_readSides_53 : decode cX2_readSides 53 = .ok (.iconst 0, 1) := by decide +kernel
theorem dX2_readSides_54 : decode cX2_readSides 54 = .ok (.aload_n 2, 1) := by decide +kernel
theorem dX2_readSides_55 : decode cX2_readSides 55 = .ok (.getfield 34, 3) := by decide +kernel
theorem dX2_readSides_58 : decode cX2_readSides 58 = .ok (.invokevirtual 30, 3) := by decide +kernel
theorem dX2_readSides_61 : decode cX2_readSides 61 = .ok (.putfield 39, 3) := by decide +kernel
theorem dX2_readSides_64 : decode cX2_readSides 64 = .ok (.aload_n 2, 1) := by decide +kernel
theorem dX2_readSides_65 : decode cX2_readSides 65 = .ok (.aload_n 2, 1) := by decide +kernel
theorem dX2_readSides_66 : decode cX2_readSides 66 = .ok (.getfield 39, 3) := by decide +kernel
theorem dX2_readSides_69 : decode cX2_readSides 69 = .ok (.ifCond .ge 7, 3) := by decide +kernel
theorem dX2_readSides_72 : decode cX2_readSides 72 = .ok (.iconst (-1), 1) := by decide +kernel
theorem dX2_readSides_73 : decode cX2_readSides 73 = .ok (.goto 16, 3) := by decide +kernel
theorem dX2_readSides_76 : decode cX2_readSides 76 = .ok (.aload_n 0, 1) := by decide +kernel
theorem dX2_readSides_77 : decode cX2_readSides 77 = .ok (.aload_n 1, 1) := by decide +kernel
theorem dX2_readSides_78 : decode cX2_readSides 78 = .ok (.aload_n 2, 1) := by decide +kernel
theorem dX2_readSides_79 : decode cX2_readSides 79 = .ok (.getfield 39, 3) := by decide +kernel
theorem dX2_readSides_82 : decode cX2_readSides 82 = .ok (.aload_n 2, 1) := by decide +kernel
theorem dX2_readSides_83 : decode cX2_readSides 83 = .ok (.getfield 34, 3) := by decide +kernel
theorem dX2_readSides_86 : decode cX2_readSides 86 = .ok (.invokevirtual 30, 3) := by decide +kernel
theorem dX2_readSides_89 : decode cX2_readSides 89 = .ok (.putfield 42, 3) := by decide +kernel
theorem dX2_readSides_92 : decode cX2_readSides 92 = .ok (.aload_n 2, 1) := by decide +kernel
theorem dX2_readSides_93 : decode cX2_readSides 93 = .ok (.aload_n 2, 1) := by decide +kernel
theorem dX2_readSides_94 : decode cX2_readSides 94 = .ok (.getfield 42, 3) := by decide +kernel
theorem dX2_readSides_97 : decode cX2_readSides 97 = .ok (.ifCond .ge 7, 3) := by decide +kernel
theorem dX2_readSides_100 : decode cX2_readSides 100 = .ok (.iconst (-1), 1) := by decide +kernel
theorem dX2_readSides_101 : decode cX2_readSides 101 = .ok (.goto 11, 3) := by decide +kernel
theorem dX2_readSides_104 : decode cX2_readSides 104 = .ok (.aload_n 0, 1) := by decide +kernel
theorem dX2_readSides_105 : decode cX2_readSides 105 = .ok (.aload_n 1, 1) := by decide +kernel
theorem dX2_readSides_106 : decode cX2_readSides 106 = .ok (.iconst 0, 1) := by decide +kernel
theorem dX2_readSides_107 : decode cX2_readSides 107 = .ok (.bipush 7, 2) := by decide +kernel
theorem dX2_readSides_109 : decode cX2_readSides 109 = .ok (.invokevirtual 30, 3) := by decide +kernel
theorem dX2_readSides_112 : decode cX2_readSides 112 = .ok (.putfield 45, 3) := by decide +kernel
theorem dX2_readSides_115 : decode cX2_readSides 115 = .ok (.aload_n 2, 1) := by decide +kernel
theorem dX2_readSides_116 : decode cX2_readSides 116 = .ok (.aload_n 2, 1) := by decide +kernel
theorem dX2_readSides_117 : decode cX2_readSides 117 = .ok (.getfield 45, 3) := by decide +kernel
theorem dX2_readSides_120 : decode cX2_readSides 120 = .ok (.ifCond .ge 7, 3) := by decide +kernel
theorem dX2_readSides_123 : decode cX2_readSides 123 = .ok (.iconst (-1), 1) := by decide +kernel
theorem dX2_readSides_124 : decode cX2_readSides 124 = .ok (.goto 11, 3) := by decide +kernel
theorem dX2_readSides_127 : decode cX2_readSides 127 = .ok (.aload_n 0, 1) := by decide +kernel
theorem dX2_readSides_128 : decode cX2_readSides 128 = .ok (.aload_n 1, 1) := by decide +kernel
theorem dX2_readSides_129 : decode cX2_readSides 129 = .ok (.iconst 0, 1) := by decide +kernel
theorem dX2_readSides_130 : decode cX2_readSides 130 = .ok (.bipush 7, 2) := by decide +kernel
theorem dX2_readSides_132 : decode cX2_readSides 132 = .ok (.invokevirtual 30, 3) := by decide +kernel
theorem dX2_readSides_135 : decode cX2_readSides 135 = .ok (.putfield 48, 3) := by decide +kernel
theorem dX2_readSides_138 : decode cX2_readSides 138 = .ok (.aload_n 2, 1) := by decide +kernel
theorem dX2_readSides_139 : decode cX2_readSides 139 = .ok (.aload_n 2, 1) := by decide +kernel
theorem dX2_readSides_140 : decode cX2_readSides 140 = .ok (.getfield 39, 3) := by decide +kernel
theorem dX2_readSides_143 : decode cX2_readSides 143 = .ok (.putfield 51, 3) := by decide +kernel
theorem dX2_readSides_146 : decode cX2_readSides 146 = .ok (.aload_n 2, 1) := by decide +kernel
theorem dX2_readSides_147 : decode cX2_readSides 147 = .ok (.aload_n 2, 1) := by decide +kernel
theorem dX2_readSides_148 : decode cX2_readSides 148 = .ok (.getfield 42, 3) := by decide +kernel
theorem dX2_readSides_151 : decode cX2_readSides 151 = .ok (.putfield 54, 3) := by decide +kernel
theorem dX2_readSides_154 : decode cX2_readSides 154 = .ok (.aload_n 2, 1) := by decide +kernel
theorem dX2_readSides_155 : decode cX2_readSides 155 = .ok (.iconst 0, 1) := by decide +kernel
theorem dX2_readSides_156 : decode cX2_readSides 156 = .ok (.putfield 57, 3) := by decide +kernel
theorem dX2_readSides_159 : decode cX2_readSides 159 = .ok (.aload_n 2, 1) := by decide +kernel
theorem dX2_readSides_160 : decode cX2_readSides 160 = .ok (.iconst 0, 1) := by decide +kernel
theorem dX2_readSides_161 : decode cX2_readSides 161 = .ok (.putfield 60, 3) := by decide +kernel
theorem dX2_readSides_164 : decode cX2_readSides 164 = .ok (.aload_n 2, 1) := by decide +kernel
theorem dX2_readSides_165 : decode cX2_readSides 165 = .ok (.getfield 63, 3) := by decide +kernel
theorem dX2_readSides_168 : decode cX2_readSides 168 = .ok (.iconst 0, 1) := by decide +kernel
theorem dX2_readSides_169 : decode cX2_readSides 169 = .ok (.putfield 67, 3) := by decide +kernel
theorem dX2_readSides_172 : decode cX2_readSides 172 = .ok (.aload_n 2, 1) := by decide +kernel
theorem dX2_readSides_173 : decode cX2_readSides 173 = .ok (.getfield 48, 3) := by decide +kernel
theorem dX2_readSides_176 : decode cX2_readSides 176 = .ok (.ifCond .lt 7, 3) := by decide +kernel
theorem dX2_readSides_179 : decode cX2_readSides 179 = .ok (.iconst 1, 1) := by decide +kernel
theorem dX2_readSides_180 : decode cX2_readSides 180 = .ok (.goto 4, 3) := by decide +kernel
theorem dX2_readSides_183 : decode cX2_readSides 183 = .ok (.iconst 0, 1) := by decide +kernel
theorem dX2_readSides_184 : decode cX2_readSides 184 = .ok (.ireturn, 1) := by decide +kernel
theorem dX2_readPeople_0 : decode cX2_readPeople 0 = .ok (.aload_n 0, 1) := by decide +kernel
theorem dX2_readPeople_1 : decode cX2_readPeople 1 = .ok (.aload_n 1, 1) := by decide +kernel
theorem dX2_readPeople_2 : decode cX2_readPeople 2 = .ok (.invokevirtual 22, 3) := by decide +kernel
theorem dX2_readPeople_5 : decode cX2_readPeople 5 = .ok (.aload_n 2, 1) := by decide +kernel
theorem dX2_readPeople_6 : decode cX2_readPeople 6 = .ok (.getfield 60, 3) := by decide +kernel
theorem dX2_readPeople_9 : decode cX2_readPeople 9 = .ok (.bipush 6, 2) := by decide +kernel
theorem dX2_readPeople_11 : decode cX2_readPeople 11 = .ok (.if_icmp .ge 43, 3) := by decide +kernel
theorem dX2_readPeople_14 : decode cX2_readPeople 14 = .ok (.aload_n 0, 1) := by decide +kernel
theorem dX2_readPeople_15 : decode cX2_readPeople 15 = .ok (.getfield 9, 3) := by decide +kernel
theorem dX2_readPeople_18 : decode cX2_readPeople 18 = .ok (.aload_n 1, 1) := by decide +kernel
theorem dX2_readPeople_19 : decode cX2_readPeople 19 = .ok (.getfield 72, 3) := by decide +kernel
theorem dX2_readPeople_22 : decode cX2_readPeople 22 = .ok (.if_icmp .ge 32, 3) := by decide +kernel
theorem dX2_readPeople_25 : decode cX2_readPeople 25 = .ok (.aload_n 0, 1) := by decide +kernel
theorem dX2_readPeople_26 : decode cX2_readPeople 26 = .ok (.aload_n 1, 1) := by decide +kernel
theorem dX2_readPeople_27 : decode cX2_readPeople 27 = .ok (.aload_n 2, 1) := by decide +kernel
theorem dX2_readPeople_28 : decode cX2_readPeople 28 = .ok (.invokevirtual 77, 3) := by decide +kernel
theorem dX2_readPeople_31 : decode cX2_readPeople 31 = .ok (.ifCond .ne 5, 3) := by decide +kernel
theorem dX2_readPeople_34 : decode cX2_readPeople 34 = .ok (.iconst 0, 1) := by decide +kernel
theorem dX2_readPeople_35 : decode cX2_readPeople 35 = .ok (.ireturn, 1) := by decide +kernel
theorem dX2_readPeople_36 : decode cX2_readPeople 36 = .ok (.aload_n 2, 1) := by decide +kernel
theorem dX2_readPeople_37 : decode cX2_readPeople 37 = .ok (.dup, 1) := by decide +kernel
theorem dX2_readPeople_38 : decode cX2_readPeople 38 = .ok (.getfield 60, 3) := by decide +kernel
theorem dX2_readPeople_41 : decode cX2_readPeople 41 = .ok (.iconst 1, 1) := by decide +kernel
theorem dX2_readPeople_42 : decode cX2_readPeople 42 = .ok (.iadd, 1) := by decide +kernel
theorem dX2_readPeople_43 : decode cX2_readPeople 43 = .ok (.putfield 60, 3) := by decide +kernel
theorem dX2_readPeople_46 : decode cX2_readPeople 46 = .ok (.aload_n 0, 1) := by decide +kernel
theorem dX2_readPeople_47 : decode cX2_readPeople 47 = .ok (.aload_n 1, 1) := by decide +kernel
theorem dX2_readPeople_48 : decode cX2_readPeople 48 = .ok (.invokevirtual 22, 3) := by decide +kernel
theorem dX2_readPeople_51 : decode cX2_readPeople 51 = .ok (.goto (-46), 3) := by decide +kernel
theorem dX2_readPeople_54 : decode cX2_readPeople 54 = .ok (.aload_n 2, 1) := by decide +kernel
theorem dX2_readPeople_55 : decode cX2_readPeople 55 = .ok (.getfield 60, 3) := by decide +kernel
theorem dX2_readPeople_58 : decode cX2_readPeople 58 = .ok (.ifCond .le 18, 3) := by decide +kernel
theorem dX2_readPeople_61 : decode cX2_readPeople 61 = .ok (.aload_n 0, 1) := by decide +kernel
theorem dX2_readPeople_62 : decode cX2_readPeople 62 = .ok (.getfield 9, 3) := by decide +kernel
theorem dX2_readPeople_65 : decode cX2_readPeople 65 = .ok (.aload_n 1, 1) := by decide +kernel
theorem dX2_readPeople_66 : decode cX2_readPeople 66 = .ok (.getfield 72, 3) := by decide +kernel
theorem dX2_readPeople_69 : decode cX2_readPeople 69 = .ok (.if_icmp .lt 7, 3) := by decide +kernel
theorem dX2_readPeople_72 : decode cX2_readPeople 72 = .ok (.iconst 1, 1) := by decide +kernel
theorem dX2_readPeople_73 : decode cX2_readPeople 73 = .ok (.goto 4, 3) := by decide +kernel
theorem dX2_readPeople_76 : decode cX2_readPeople 76 = .ok (.iconst 0, 1) := by decide +kernel
theorem dX2_readPeople_77 : decode cX2_readPeople 77 = .ok (.ireturn, 1) := by decide +kernel
theorem dX2_readOne_0 : decode cX2_readOne 0 = .ok (.aload_n 2, 1) := by decide +kernel
theorem dX2_readOne_1 : decode cX2_readOne 1 = .ok (.getfield 60, 3) := by decide +kernel
theorem dX2_readOne_4 : decode cX2_readOne 4 = .ok (.istore_n 3, 1) := by decide +kernel
theorem dX2_readOne_5 : decode cX2_readOne 5 = .ok (.aload_n 0, 1) := by decide +kernel
theorem dX2_readOne_6 : decode cX2_readOne 6 = .ok (.aload_n 1, 1) := by decide +kernel
theorem dX2_readOne_7 : decode cX2_readOne 7 = .ok (.invokevirtual 26, 3) := by decide +kernel
theorem dX2_readOne_10 : decode cX2_readOne 10 = .ok (.invokestatic 80, 3) := by decide +kernel
theorem dX2_readOne_13 : decode cX2_readOne 13 = .ok (.istore 4, 2) := by decide +kernel
theorem dX2_readOne_15 : decode cX2_readOne 15 = .ok (.iload 4, 2) := by decide +kernel
theorem dX2_readOne_17 : decode cX2_readOne 17 = .ok (.ifCond .ge 5, 3) := by decide +kernel
theorem dX2_readOne_20 : decode cX2_readOne 20 = .ok (.iconst 0, 1) := by decide +kernel
theorem dX2_readOne_21 : decode cX2_readOne 21 = .ok (.ireturn, 1) := by decide +kernel
theorem dX2_readOne_22 : decode cX2_readOne 22 = .ok (.aload_n 0, 1) := by decide +kernel
theorem dX2_readOne_23 : decode cX2_readOne 23 = .ok (.dup, 1) := by decide +kernel
theorem dX2_readOne_24 : decode cX2_readOne 24 = .ok (.getfield 9, 3) := by decide +kernel
theorem dX2_readOne_27 : decode cX2_readOne 27 = .ok (.iconst 1, 1) := by decide +kernel
theorem dX2_readOne_28 : decode cX2_readOne 28 = .ok (.iadd, 1) := by decide +kernel
theorem dX2_readOne_29 : decode cX2_readOne 29 = .ok (.putfield 9, 3) := by decide +kernel
theorem dX2_readOne_32 : decode cX2_readOne 32 = .ok (.aload_n 0, 1) := by decide +kernel
theorem dX2_readOne_33 : decode cX2_readOne 33 = .ok (.aload_n 1, 1) := by decide +kernel
theorem dX2_readOne_34 : decode cX2_readOne 34 = .ok (.iconst 0, 1) := by decide +kernel
theorem dX2_readOne_35 : decode cX2_readOne 35 = .ok (.aload_n 2, 1) := by decide +kernel
theorem dX2_readOne_36 : decode cX2_readOne 36 = .ok (.getfield 34, 3) := by decide +kernel
theorem dX2_readOne_39 : decode cX2_readOne 39 = .ok (.iconst 1, 1) := by decide +kernel
theorem dX2_readOne_40 : decode cX2_readOne 40 = .ok (.isub, 1) := by decide +kernel
theorem dX2_readOne_41 : decode cX2_readOne 41 = .ok (.invokevirtual 30, 3) := by decide +kernel
theorem dX2_readOne_44 : decode cX2_readOne 44 = .ok (.istore 5, 2) := by decide +kernel
theorem dX2_readOne_46 : decode cX2_readOne 46 = .ok (.iload 5, 2) := by decide +kernel
theorem dX2_readOne_48 : decode cX2_readOne 48 = .ok (.ifCond .ge 7, 3) := by decide +kernel
theorem dX2_readOne_51 : decode cX2_readOne 51 = .ok (.iconst (-1), 1) := by decide +kernel
theorem dX2_readOne_52 : decode cX2_readOne 52 = .ok (.goto 11, 3) := by decide +kernel
theorem dX2_readOne_55 : decode cX2_readOne 55 = .ok (.aload_n 0, 1) := by decide +kernel
theorem dX2_readOne_56 : decode cX2_readOne 56 = .ok (.aload_n 1, 1) := by decide +kernel
theorem dX2_readOne_57 : decode cX2_readOne 57 = .ok (.iconst 0, 1) := by decide +kernel
theorem dX2_readOne_58 : decode cX2_readOne 58 = .ok (.bipush 9, 2) := by decide +kernel
theorem dX2_readOne_60 : decode cX2_readOne 60 = .ok (.invokevirtual 30, 3) := by decide +kernel
theorem dX2_readOne_63 : decode cX2_readOne 63 = .ok (.istore 6, 2) := by decide +kernel
theorem dX2_readOne_65 : decode cX2_readOne 65 = .ok (.iload 6, 2) := by decide +kernel
theorem dX2_readOne_67 : decode cX2_readOne 67 = .ok (.ifCond .ge 7, 3) := by decide +kernel
theorem dX2_readOne_70 : decode cX2_readOne 70 = .ok (.iconst (-1), 1) := by decide +kernel
theorem dX2_readOne_71 : decode cX2_readOne 71 = .ok (.goto 11, 3) := by decide +kernel
theorem dX2_readOne_74 : decode cX2_readOne 74 = .ok (.aload_n 0, 1) := by decide +kernel
theorem dX2_readOne_75 : decode cX2_readOne 75 = .ok (.aload_n 1, 1) := by decide +kernel
theorem dX2_readOne_76 : decode cX2_readOne 76 = .ok (.iconst 0, 1) := by decide +kernel
theorem dX2_readOne_77 : decode cX2_readOne 77 = .ok (.bipush 7, 2) := by decide +kernel
theorem dX2_readOne_79 : decode cX2_readOne 79 = .ok (.invokevirtual 30, 3) := by decide +kernel
theorem dX2_readOne_82 : decode cX2_readOne 82 = .ok (.istore 7, 2) := by decide +kernel
theorem dX2_readOne_84 : decode cX2_readOne 84 = .ok (.iload 7, 2) := by decide +kernel
theorem dX2_readOne_86 : decode cX2_readOne 86 = .ok (.ifCond .ge 5, 3) := by decide +kernel
theorem dX2_readOne_89 : decode cX2_readOne 89 = .ok (.iconst 0, 1) := by decide +kernel
theorem dX2_readOne_90 : decode cX2_readOne 90 = .ok (.ireturn, 1) := by decide +kernel
theorem dX2_readOne_91 : decode cX2_readOne 91 = .ok (.aload_n 2, 1) := by decide +kernel
theorem dX2_readOne_92 : decode cX2_readOne 92 = .ok (.getfield 84, 3) := by decide +kernel
theorem dX2_readOne_95 : decode cX2_readOne 95 = .ok (.iload_n 3, 1) := by decide +kernel
theorem dX2_readOne_96 : decode cX2_readOne 96 = .ok (.iload 4, 2) := by decide +kernel
theorem dX2_readOne_98 : decode cX2_readOne 98 = .ok (.iastore, 1) := by decide +kernel
theorem dX2_readOne_99 : decode cX2_readOne 99 = .ok (.aload_n 2, 1) := by decide +kernel
theorem dX2_readOne_100 : decode cX2_readOne 100 = .ok (.getfield 88, 3) := by decide +kernel
theorem dX2_readOne_103 : decode cX2_readOne 103 = .ok (.iload_n 3, 1) := by decide +kernel
theorem dX2_readOne_104 : decode cX2_readOne 104 = .ok (.iload 5, 2) := by decide +kernel
theorem dX2_readOne_106 : decode cX2_readOne 106 = .ok (.iastore, 1) := by decide +kernel
theorem dX2_readOne_107 : decode cX2_readOne 107 = .ok (.aload_n 2, 1) := by decide +kernel
theorem dX2_readOne_108 : decode cX2_readOne 108 = .ok (.getfield 91, 3) := by decide +kernel
theorem dX2_readOne_111 : decode cX2_readOne 111 = .ok (.iload_n 3, 1) := by decide +kernel
theorem dX2_readOne_112 : decode cX2_readOne 112 = .ok (.iload 5, 2) := by decide +kernel
theorem dX2_readOne_114 : decode cX2_readOne 114 = .ok (.iastore, 1) := by decide +kernel
theorem dX2_readOne_115 : decode cX2_readOne 115 = .ok (.aload_n 2, 1) := by decide +kernel
theorem dX2_readOne_116 : decode cX2_readOne 116 = .ok (.getfield 94, 3) := by decide +kernel
theorem dX2_readOne_119 : decode cX2_readOne 119 = .ok (.iload_n 3, 1) := by decide +kernel
theorem dX2_readOne_120 : decode cX2_readOne 120 = .ok (.iload 6, 2) := by decide +kernel
theorem dX2_readOne_122 : decode cX2_readOne 122 = .ok (.iastore, 1) := by decide +kernel
theorem dX2_readOne_123 : decode cX2_readOne 123 = .ok (.aload_n 2, 1) := by decide +kernel
theorem dX2_readOne_124 : decode cX2_readOne 124 = .ok (.getfield 97, 3) := by decide +kernel
theorem dX2_readOne_127 : decode cX2_readOne 127 = .ok (.iload_n 3, 1) := by decide +kernel
theorem dX2_readOne_128 : decode cX2_readOne 128 = .ok (.iload 7, 2) := by decide +kernel
theorem dX2_readOne_130 : decode cX2_readOne 130 = .ok (.iastore, 1) := by decide +kernel
theorem dX2_readOne_131 : decode cX2_readOne 131 = .ok (.iconst 1, 1) := by decide +kernel
theorem dX2_readOne_132 : decode cX2_readOne 132 = .ok (.ireturn, 1) := by decide +kernel
theorem dX2_skipBlanks_0 : decode cX2_skipBlanks 0 = .ok (.aload_n 0, 1) := by decide +kernel
theorem dX2_skipBlanks_1 : decode cX2_skipBlanks 1 = .ok (.getfield 9, 3) := by decide +kernel
theorem dX2_skipBlanks_4 : decode cX2_skipBlanks 4 = .ok (.aload_n 1, 1) := by decide +kernel
theorem dX2_skipBlanks_5 : decode cX2_skipBlanks 5 = .ok (.getfield 72, 3) := by decide +kernel
theorem dX2_skipBlanks_8 : decode cX2_skipBlanks 8 = .ok (.if_icmp .ge 26, 3) := by decide +kernel
theorem dX2_skipBlanks_11 : decode cX2_skipBlanks 11 = .ok (.aload_n 0, 1) := by decide +kernel
theorem dX2_skipBlanks_12 : decode cX2_skipBlanks 12 = .ok (.aload_n 1, 1) := by decide +kernel
theorem dX2_skipBlanks_13 : decode cX2_skipBlanks 13 = .ok (.invokevirtual 26, 3) := by decide +kernel
theorem dX2_skipBlanks_16 : decode cX2_skipBlanks 16 = .ok (.bipush 32, 2) := by decide +kernel
theorem dX2_skipBlanks_18 : decode cX2_skipBlanks 18 = .ok (.if_icmp .ne 16, 3) := by decide +kernel
theorem dX2_skipBlanks_21 : decode cX2_skipBlanks 21 = .ok (.aload_n 0, 1) := by decide +kernel
theorem dX2_skipBlanks_22 : decode cX2_skipBlanks 22 = .ok (.dup, 1) := by decide +kernel
theorem dX2_skipBlanks_23 : decode cX2_skipBlanks 23 = .ok (.getfield 9, 3) := by decide +kernel
theorem dX2_skipBlanks_26 : decode cX2_skipBlanks 26 = .ok (.iconst 1, 1) := by decide +kernel
theorem dX2_skipBlanks_27 : decode cX2_skipBlanks 27 = .ok (.iadd, 1) := by decide +kernel
theorem dX2_skipBlanks_28 : decode cX2_skipBlanks 28 = .ok (.putfield 9, 3) := by decide +kernel
theorem dX2_skipBlanks_31 : decode cX2_skipBlanks 31 = .ok (.goto (-31), 3) := by decide +kernel
theorem dX2_skipBlanks_34 : decode cX2_skipBlanks 34 = .ok (.return_, 1) := by decide +kernel
theorem dX2_here_0 : decode cX2_here 0 = .ok (.aload_n 1, 1) := by decide +kernel
theorem dX2_here_1 : decode cX2_here 1 = .ok (.aload_n 0, 1) := by decide +kernel
theorem dX2_here_2 : decode cX2_here 2 = .ok (.getfield 9, 3) := by decide +kernel
theorem dX2_here_5 : decode cX2_here 5 = .ok (.invokevirtual 100, 3) := by decide +kernel
theorem dX2_here_8 : decode cX2_here 8 = .ok (.ifCond .eq 15, 3) := by decide +kernel
theorem dX2_here_11 : decode cX2_here 11 = .ok (.aload_n 1, 1) := by decide +kernel
theorem dX2_here_12 : decode cX2_here 12 = .ok (.getfield 104, 3) := by decide +kernel
theorem dX2_here_15 : decode cX2_here 15 = .ok (.aload_n 0, 1) := by decide +kernel
theorem dX2_here_16 : decode cX2_here 16 = .ok (.getfield 9, 3) := by decide +kernel
theorem dX2_here_19 : decode cX2_here 19 = .ok (.iaload, 1) := by decide +kernel
theorem dX2_here_20 : decode cX2_here 20 = .ok (.goto 4, 3) := by decide +kernel
theorem dX2_here_23 : decode cX2_here 23 = .ok (.iconst (-1), 1) := by decide +kernel
theorem dX2_here_24 : decode cX2_here 24 = .ok (.ireturn, 1) := by decide +kernel
theorem dX2_figure_0 : decode cX2_figure 0 = .ok (.aload_n 0, 1) := by decide +kernel
theorem dX2_figure_1 : decode cX2_figure 1 = .ok (.aload_n 1, 1) := by decide +kernel
theorem dX2_figure_2 : decode cX2_figure 2 = .ok (.invokevirtual 26, 3) := by decide +kernel
theorem dX2_figure_5 : decode cX2_figure 5 = .ok (.bipush 48, 2) := by decide +kernel
theorem dX2_figure_7 : decode cX2_figure 7 = .ok (.isub, 1) := by decide +kernel
theorem dX2_figure_8 : decode cX2_figure 8 = .ok (.istore 4, 2) := by decide +kernel
theorem dX2_figure_10 : decode cX2_figure 10 = .ok (.iload 4, 2) := by decide +kernel
theorem dX2_figure_12 : decode cX2_figure 12 = .ok (.iload_n 2, 1) := by decide +kernel
theorem dX2_figure_13 : decode cX2_figure 13 = .ok (.if_icmp .lt 9, 3) := by decide +kernel
theorem dX2_figure_16 : decode cX2_figure 16 = .ok (.iload 4, 2) := by decide +kernel
theorem dX2_figure_18 : decode cX2_figure 18 = .ok (.iload_n 3, 1) := by decide +kernel
theorem dX2_figure_19 : decode cX2_figure 19 = .ok (.if_icmp .le 5, 3) := by decide +kernel
theorem dX2_figure_22 : decode cX2_figure 22 = .ok (.iconst (-1), 1) := by decide +kernel
theorem dX2_figure_23 : decode cX2_figure 23 = .ok (.ireturn, 1) := by decide +kernel
theorem dX2_figure_24 : decode cX2_figure 24 = .ok (.aload_n 0, 1) := by decide +kernel
theorem dX2_figure_25 : decode cX2_figure 25 = .ok (.dup, 1) := by decide +kernel
theorem dX2_figure_26 : decode cX2_figure 26 = .ok (.getfield 9, 3) := by decide +kernel
theorem dX2_figure_29 : decode cX2_figure 29 = .ok (.iconst 1, 1) := by decide +kernel
theorem dX2_figure_30 : decode cX2_figure 30 = .ok (.iadd, 1) := by decide +kernel
theorem dX2_figure_31 : decode cX2_figure 31 = .ok (.putfield 9, 3) := by decide +kernel
theorem dX2_figure_34 : decode cX2_figure 34 = .ok (.iload 4, 2) := by decide +kernel
theorem dX2_figure_36 : decode cX2_figure 36 = .ok (.ireturn, 1) := by decide +kernel
theorem dX2_kindOf_0 : decode cX2_kindOf 0 = .ok (.iconst 0, 1) := by decide +kernel
theorem dX2_kindOf_1 : decode cX2_kindOf 1 = .ok (.istore_n 1, 1) := by decide +kernel
theorem dX2_kindOf_2 : decode cX2_kindOf 2 = .ok (.iload_n 1, 1) := by decide +kernel
theorem dX2_kindOf_3 : decode cX2_kindOf 3 = .ok (.iconst 5, 1) := by decide +kernel
theorem dX2_kindOf_4 : decode cX2_kindOf 4 = .ok (.if_icmp .gt 20, 3) := by decide +kernel
theorem dX2_kindOf_7 : decode cX2_kindOf 7 = .ok (.getstatic 107, 3) := by decide +kernel
theorem dX2_kindOf_10 : decode cX2_kindOf 10 = .ok (.iload_n 1, 1) := by decide +kernel
theorem dX2_kindOf_11 : decode cX2_kindOf 11 = .ok (.iaload, 1) := by decide +kernel
theorem dX2_kindOf_12 : decode cX2_kindOf 12 = .ok (.iload_n 0, 1) := by decide +kernel
theorem dX2_kindOf_13 : decode cX2_kindOf 13 = .ok (.if_icmp .ne 5, 3) := by decide +kernel
theorem dX2_kindOf_16 : decode cX2_kindOf 16 = .ok (.iload_n 1, 1) := by decide +kernel
theorem dX2_kindOf_17 : decode cX2_kindOf 17 = .ok (.ireturn, 1) := by decide +kernel
theorem dX2_kindOf_18 : decode cX2_kindOf 18 = .ok (.iinc 1 1, 3) := by decide +kernel
theorem dX2_kindOf_21 : decode cX2_kindOf 21 = .ok (.goto (-19), 3) := by decide +kernel
theorem dX2_kindOf_24 : decode cX2_kindOf 24 = .ok (.iconst (-1), 1) := by decide +kernel
theorem dX2_kindOf_25 : decode cX2_kindOf 25 = .ok (.ireturn, 1) := by decide +kernel
theorem dX3_init_0 : decode cX3_init 0 = .ok (.aload_n 0, 1) := by decide +kernel
theorem dX3_init_1 : decode cX3_init 1 = .ok (.invokespecial 1, 3) := by decide +kernel
theorem dX3_init_4 : decode cX3_init 4 = .ok (.aload_n 0, 1) := by decide +kernel
theorem dX3_init_5 : decode cX3_init 5 = .ok (.iconst (-1), 1) := by decide +kernel
theorem dX3_init_6 : decode cX3_init 6 = .ok (.putfield 9, 3) := by decide +kernel
theorem dX3_init_9 : decode cX3_init 9 = .ok (.aload_n 0, 1) := by decide +kernel
theorem dX3_init_10 : decode cX3_init 10 = .ok (.aload_n 1, 1) := by decide +kernel
theorem dX3_init_11 : decode cX3_init 11 = .ok (.putfield 13, 3) := by decide +kernel
theorem dX3_init_14 : decode cX3_init 14 = .ok (.return_, 1) := by decide +kernel
theorem dX3_isMissing_0 : decode cX3_isMissing 0 = .ok (.aload_n 0, 1) := by decide +kernel
theorem dX3_isMissing_1 : decode cX3_isMissing 1 = .ok (.getfield 9, 3) := by decide +kernel
theorem dX3_isMissing_4 : decode cX3_isMissing 4 = .ok (.ifCond .ge 7, 3) := by decide +kernel
theorem dX3_isMissing_7 : decode cX3_isMissing 7 = .ok (.iconst 1, 1) := by decide +kernel
theorem dX3_isMissing_8 : decode cX3_isMissing 8 = .ok (.goto 4, 3) := by decide +kernel
theorem dX3_isMissing_11 : decode cX3_isMissing 11 = .ok (.iconst 0, 1) := by decide +kernel
theorem dX3_isMissing_12 : decode cX3_isMissing 12 = .ok (.ireturn, 1) := by decide +kernel
theorem dX3_hasPlace_0 : decode cX3_hasPlace 0 = .ok (.iload_n 1, 1) := by decide +kernel
theorem dX3_hasPlace_1 : decode cX3_hasPlace 1 = .ok (.ifCond .lt 15, 3) := by decide +kernel
theorem dX3_hasPlace_4 : decode cX3_hasPlace 4 = .ok (.iload_n 1, 1) := by decide +kernel
theorem dX3_hasPlace_5 : decode cX3_hasPlace 5 = .ok (.aload_n 0, 1) := by decide +kernel
theorem dX3_hasPlace_6 : decode cX3_hasPlace 6 = .ok (.getfield 9, 3) := by decide +kernel
theorem dX3_hasPlace_9 : decode cX3_hasPlace 9 = .ok (.if_icmp .ge 7, 3) := by decide +kernel
theorem dX3_hasPlace_12 : decode cX3_hasPlace 12 = .ok (.iconst 1, 1) := by decide +kernel
theorem dX3_hasPlace_13 : decode cX3_hasPlace 13 = .ok (.goto 4, 3) := by decide +kernel
theorem dX3_hasPlace_16 : decode cX3_hasPlace 16 = .ok (.iconst 0, 1) := by decide +kernel
theorem dX3_hasPlace_17 : decode cX3_hasPlace 17 = .ok (.ireturn, 1) := by decide +kernel
theorem dX3_hasRun_0 : decode cX3_hasRun 0 = .ok (.iload_n 1, 1) := by decide +kernel
theorem dX3_hasRun_1 : decode cX3_hasRun 1 = .ok (.ifCond .lt 29, 3) := by decide +kernel
theorem dX3_hasRun_4 : decode cX3_hasRun 4 = .ok (.iload_n 1, 1) := by decide +kernel
theorem dX3_hasRun_5 : decode cX3_hasRun 5 = .ok (.aload_n 0, 1) := by decide +kernel
theorem dX3_hasRun_6 : decode cX3_hasRun 6 = .ok (.getfield 9, 3) := by decide +kernel
theorem dX3_hasRun_9 : decode cX3_hasRun 9 = .ok (.if_icmp .gt 21, 3) := by decide +kernel
theorem dX3_hasRun_12 : decode cX3_hasRun 12 = .ok (.iload_n 2, 1) := by decide +kernel
theorem dX3_hasRun_13 : decode cX3_hasRun 13 = .ok (.ifCond .lt 17, 3) := by decide +kernel
theorem dX3_hasRun_16 : decode cX3_hasRun 16 = .ok (.iload_n 2, 1) := by decide +kernel
theorem dX3_hasRun_17 : decode cX3_hasRun 17 = .ok (.aload_n 0, 1) := by decide +kernel
theorem dX3_hasRun_18 : decode cX3_hasRun 18 = .ok (.getfield 9, 3) := by decide +kernel
theorem dX3_hasRun_21 : decode cX3_hasRun 21 = .ok (.iload_n 1, 1) := by decide +kernel
theorem dX3_hasRun_22 : decode cX3_hasRun 22 = .ok (.isub, 1) := by decide +kernel
theorem dX3_hasRun_23 : decode cX3_hasRun 23 = .ok (.if_icmp .gt 7, 3) := by decide +kernel
theorem dX3_hasRun_26 : decode cX3_hasRun 26 = .ok (.iconst 1, 1) := by decide +kernel
theorem dX3_hasRun_27 : decode cX3_hasRun 27 = .ok (.goto 4, 3) := by decide +kernel
theorem dX3_hasRun_30 : decode cX3_hasRun 30 = .ok (.iconst 0, 1) := by decide +kernel
theorem dX3_hasRun_31 : decode cX3_hasRun 31 = .ok (.ireturn, 1) := by decide +kernel
theorem dX3_layAnew_0 : decode cX3_layAnew 0 = .ok (.aload_n 0, 1) := by decide +kernel
theorem dX3_layAnew_1 : decode cX3_layAnew 1 = .ok (.iconst 0, 1) := by decide +kernel
theorem dX3_layAnew_2 : decode cX3_layAnew 2 = .ok (.iload_n 1, 1) := by decide +kernel
theorem dX3_layAnew_3 : decode cX3_layAnew 3 = .ok (.aload_n 0, 1) := by decide +kernel
theorem dX3_layAnew_4 : decode cX3_layAnew 4 = .ok (.getfield 13, 3) := by decide +kernel
theorem dX3_layAnew_7 : decode cX3_layAnew 7 = .ok (.arraylength, 1) := by decide +kernel
theorem dX3_layAnew_8 : decode cX3_layAnew 8 = .ok (.invokestatic 17, 3) := by decide +kernel
theorem dX3_layAnew_11 : decode cX3_layAnew 11 = .ok (.invokestatic 23, 3) := by decide +kernel
theorem dX3_layAnew_14 : decode cX3_layAnew 14 = .ok (.putfield 9, 3) := by decide +kernel
theorem dX3_layAnew_17 : decode cX3_layAnew 17 = .ok (.iconst 0, 1) := by decide +kernel
theorem dX3_layAnew_18 : decode cX3_layAnew 18 = .ok (.istore_n 3, 1) := by decide +kernel
theorem dX3_layAnew_19 : decode cX3_layAnew 19 = .ok (.iload_n 3, 1) := by decide +kernel
theorem dX3_layAnew_20 : decode cX3_layAnew 20 = .ok (.aload_n 0, 1) := by decide +kernel
theorem dX3_layAnew_21 : decode cX3_layAnew 21 = .ok (.getfield 9, 3) := by decide +kernel
theorem dX3_layAnew_24 : decode cX3_layAnew 24 = .ok (.if_icmp .ge 16, 3) := by decide +kernel
theorem dX3_layAnew_27 : decode cX3_layAnew 27 = .ok (.aload_n 0, 1) := by decide +kernel
theorem dX3_layAnew_28 : decode cX3_layAnew 28 = .ok (.getfield 13, 3) := by decide +kernel
theorem dX3_layAnew_31 : decode cX3_layAnew 31 = .ok (.iload_n 3, 1) := by decide +kernel
theorem dX3_layAnew_32 : decode cX3_layAnew 32 = .ok (.iload_n 2, 1) := by decide +kernel
theorem dX3_layAnew_33 : decode cX3_layAnew 33 = .ok (.iastore, 1) := by decide +kernel
theorem dX3_layAnew_34 : decode cX3_layAnew 34 = .ok (.iinc 3 1, 3) := by decide +kernel
theorem dX3_layAnew_37 : decode cX3_layAnew 37 = .ok (.goto (-18), 3) := by decide +kernel
theorem dX3_layAnew_40 : decode cX3_layAnew 40 = .ok (.return_, 1) := by decide +kernel
theorem dX3_sum_0 : decode cX3_sum 0 = .ok (.lconst 0, 1) := by decide +kernel
theorem dX3_sum_1 : decode cX3_sum 1 = .ok (.lstore_n 1, 1) := by decide +kernel
theorem dX3_sum_2 : decode cX3_sum 2 = .ok (.iconst 0, 1) := by decide +kernel
theorem dX3_sum_3 : decode cX3_sum 3 = .ok (.istore_n 3, 1) := by decide +kernel
theorem dX3_sum_4 : decode cX3_sum 4 = .ok (.iload_n 3, 1) := by decide +kernel
theorem dX3_sum_5 : decode cX3_sum 5 = .ok (.aload_n 0, 1) := by decide +kernel
theorem dX3_sum_6 : decode cX3_sum 6 = .ok (.getfield 9, 3) := by decide +kernel
theorem dX3_sum_9 : decode cX3_sum 9 = .ok (.if_icmp .ge 19, 3) := by decide +kernel
theorem dX3_sum_12 : decode cX3_sum 12 = .ok (.lload_n 1, 1) := by decide +kernel
theorem dX3_sum_13 : decode cX3_sum 13 = .ok (.aload_n 0, 1) := by decide +kernel
theorem dX3_sum_14 : decode cX3_sum 14 = .ok (.getfield 13, 3) := by decide +kernel
theorem dX3_sum_17 : decode cX3_sum 17 = .ok (.iload_n 3, 1) := by decide +kernel
theorem dX3_sum_18 : decode cX3_sum 18 = .ok (.iaload, 1) := by decide +kernel
theorem dX3_sum_19 : decode cX3_sum 19 = .ok (.i2l, 1) := by decide +kernel
theorem dX3_sum_20 : decode cX3_sum 20 = .ok (.ladd, 1) := by decide +kernel
theorem dX3_sum_21 : decode cX3_sum 21 = .ok (.lstore_n 1, 1) := by decide +kernel
theorem dX3_sum_22 : decode cX3_sum 22 = .ok (.iinc 3 1, 3) := by decide +kernel
theorem dX3_sum_25 : decode cX3_sum 25 = .ok (.goto (-21), 3) := by decide +kernel
theorem dX3_sum_28 : decode cX3_sum 28 = .ok (.lload_n 1, 1) := by decide +kernel
theorem dX3_sum_29 : decode cX3_sum 29 = .ok (.lreturn, 1) := by decide +kernel
theorem dX3_digestOn_0 : decode cX3_digestOn 0 = .ok (.ldc2_w 26, 3) := by decide +kernel
theorem dX3_digestOn_3 : decode cX3_digestOn 3 = .ok (.lload_n 1, 1) := by decide +kernel
theorem dX3_digestOn_4 : decode cX3_digestOn 4 = .ok (.lmul, 1) := by decide +kernel
theorem dX3_digestOn_5 : decode cX3_digestOn 5 = .ok (.aload_n 0, 1) := by decide +kernel
theorem dX3_digestOn_6 : decode cX3_digestOn 6 = .ok (.getfield 9, 3) := by decide +kernel
theorem dX3_digestOn_9 : decode cX3_digestOn 9 = .ok (.i2l, 1) := by decide +kernel
theorem dX3_digestOn_10 : decode cX3_digestOn 10 = .ok (.ladd, 1) := by decide +kernel
theorem dX3_digestOn_11 : decode cX3_digestOn 11 = .ok (.lstore_n 3, 1) := by decide +kernel
theorem dX3_digestOn_12 : decode cX3_digestOn 12 = .ok (.iconst 0, 1) := by decide +kernel
theorem dX3_digestOn_13 : decode cX3_digestOn 13 = .ok (.istore 5, 2) := by decide +kernel
theorem dX3_digestOn_15 : decode cX3_digestOn 15 = .ok (.iload 5, 2) := by decide +kernel
theorem dX3_digestOn_17 : decode cX3_digestOn 17 = .ok (.aload_n 0, 1) := by decide +kernel
theorem dX3_digestOn_18 : decode cX3_digestOn 18 = .ok (.getfield 9, 3) := by decide +kernel
theorem dX3_digestOn_21 : decode cX3_digestOn 21 = .ok (.if_icmp .ge 24, 3) := by decide +kernel
theorem dX3_digestOn_24 : decode cX3_digestOn 24 = .ok (.ldc2_w 26, 3) := by decide +kernel
theorem dX3_digestOn_27 : decode cX3_digestOn 27 = .ok (.lload_n 3, 1) := by decide +kernel
theorem dX3_digestOn_28 : decode cX3_digestOn 28 = .ok (.lmul, 1) := by decide +kernel
theorem dX3_digestOn_29 : decode cX3_digestOn 29 = .ok (.aload_n 0, 1) := by decide +kernel
theorem dX3_digestOn_30 : decode cX3_digestOn 30 = .ok (.getfield 13, 3) := by decide +kernel
theorem dX3_digestOn_33 : decode cX3_digestOn 33 = .ok (.iload 5, 2) := by decide +kernel
theorem dX3_digestOn_35 : decode cX3_digestOn 35 = .ok (.iaload, 1) := by decide +kernel
theorem dX3_digestOn_36 : decode cX3_digestOn 36 = .ok (.i2l, 1) := by decide +kernel
theorem dX3_digestOn_37 : decode cX3_digestOn 37 = .ok (.ladd, 1) := by decide +kernel
theorem dX3_digestOn_38 : decode cX3_digestOn 38 = .ok (.lstore_n 3, 1) := by decide +kernel
theorem dX3_digestOn_39 : decode cX3_digestOn 39 = .ok (.iinc 5 1, 3) := by decide +kernel
theorem dX3_digestOn_42 : decode cX3_digestOn 42 = .ok (.goto (-27), 3) := by decide +kernel
theorem dX3_digestOn_45 : decode cX3_digestOn 45 = .ok (.lload_n 3, 1) := by decide +kernel
theorem dX3_digestOn_46 : decode cX3_digestOn 46 = .ok (.lreturn, 1) := by decide +kernel
end
section
theorem dX4_init_0 : decode cX4_init 0 = .ok (.aload_n 0, 1) := by decide +kernel
theorem dX4_init_1 : decode cX4_init 1 = .ok (.invokespecial 1, 3) := by decide +kernel
theorem dX4_init_4 : decode cX4_init 4 = .ok (.aload_n 0, 1) := by decide +kernel
theorem dX4_init_5 : decode cX4_init 5 = .ok (.bipush 6, 2) := by decide +kernel
theorem dX4_init_7 : decode cX4_init 7 = .ok (.anewarray 9, 3) := by decide +kernel
theorem dX4_init_10 : decode cX4_init 10 = .ok (.putfield 11, 3) := by decide +kernel
theorem dX4_init_13 : decode cX4_init 13 = .ok (.aload_n 0, 1) := by decide +kernel
theorem dX4_init_14 : decode cX4_init 14 = .ok (.iconst 4, 1) := by decide +kernel
theorem dX4_init_15 : decode cX4_init 15 = .ok (.anewarray 9, 3) := by decide +kernel
theorem dX4_init_18 : decode cX4_init 18 = .ok (.putfield 15, 3) := by decide +kernel
theorem dX4_init_21 : decode cX4_init 21 = .ok (.aload_n 0, 1) := by decide +kernel
theorem dX4_init_22 : decode cX4_init 22 = .ok (.new 18, 3) := by decide +kernel
theorem dX4_init_25 : decode cX4_init 25 = .ok (.dup, 1) := by decide +kernel
theorem dX4_init_26 : decode cX4_init 26 = .ok (.invokespecial 20, 3) := by decide +kernel
theorem dX4_init_29 : decode cX4_init 29 = .ok (.putfield 21, 3) := by decide +kernel
theorem dX4_init_32 : decode cX4_init 32 = .ok (.aload_n 0, 1) := by decide +kernel
theorem dX4_init_33 : decode cX4_init 33 = .ok (.iconst 3, 1) := by decide +kernel
theorem dX4_init_34 : decode cX4_init 34 = .ok (.anewarray 18, 3) := by decide +kernel
theorem dX4_init_37 : decode cX4_init 37 = .ok (.putfield 25, 3) := by decide +kernel
theorem dX4_init_40 : decode cX4_init 40 = .ok (.aload_n 0, 1) := by decide +kernel
theorem dX4_init_41 : decode cX4_init 41 = .ok (.new 18, 3) := by decide +kernel
theorem dX4_init_44 : decode cX4_init 44 = .ok (.dup, 1) := by decide +kernel
theorem dX4_init_45 : decode cX4_init 45 = .ok (.invokespecial 20, 3) := by decide +kernel
theorem dX4_init_48 : decode cX4_init 48 = .ok (.putfield 29, 3) := by decide +kernel
theorem dX4_init_51 : decode cX4_init 51 = .ok (.aload_n 0, 1) := by decide +kernel
theorem dX4_init_52 : decode cX4_init 52 = .ok (.new 32, 3) := by decide +kernel
theorem dX4_init_55 : decode cX4_init 55 = .ok (.dup, 1) := by decide +kernel
theorem dX4_init_56 : decode cX4_init 56 = .ok (.invokespecial 34, 3) := by decide +kernel
theorem dX4_init_59 : decode cX4_init 59 = .ok (.putfield 35, 3) := by decide +kernel
theorem dX4_init_62 : decode cX4_init 62 = .ok (.aload_n 0, 1) := by decide +kernel
theorem dX4_init_63 : decode cX4_init 63 = .ok (.bipush 56, 2) := by decide +kernel
theorem dX4_init_65 : decode cX4_init 65 = .ok (.newarray .int, 2) := by decide +kernel
theorem dX4_init_67 : decode cX4_init 67 = .ok (.putfield 39, 3) := by decide +kernel
theorem dX4_init_70 : decode cX4_init 70 = .ok (.aload_n 0, 1) := by decide +kernel
theorem dX4_init_71 : decode cX4_init 71 = .ok (.bipush 6, 2) := by decide +kernel
theorem dX4_init_73 : decode cX4_init 73 = .ok (.newarray .int, 2) := by decide +kernel
theorem dX4_init_75 : decode cX4_init 75 = .ok (.putfield 43, 3) := by decide +kernel
theorem dX4_init_78 : decode cX4_init 78 = .ok (.aload_n 0, 1) := by decide +kernel
theorem dX4_init_79 : decode cX4_init 79 = .ok (.iconst 0, 1) := by decide +kernel
theorem dX4_init_80 : decode cX4_init 80 = .ok (.putfield 46, 3) := by decide +kernel
theorem dX4_init_83 : decode cX4_init 83 = .ok (.aload_n 0, 1) := by decide +kernel
theorem dX4_init_84 : decode cX4_init 84 = .ok (.iconst 0, 1) := by decide +kernel
theorem dX4_init_85 : decode cX4_init 85 = .ok (.putfield 50, 3) := by decide +kernel
theorem dX4_init_88 : decode cX4_init 88 = .ok (.aload_n 0, 1) := by decide +kernel
theorem dX4_init_89 : decode cX4_init 89 = .ok (.lconst 0, 1) := by decide +kernel
theorem dX4_init_90 : decode cX4_init 90 = .ok (.putfield 53, 3) := by decide +kernel
theorem dX4_init_93 : decode cX4_init 93 = .ok (.aload_n 0, 1) := by decide +kernel
theorem dX4_init_94 : decode cX4_init 94 = .ok (.lconst 1, 1) := by decide +kernel
theorem dX4_init_95 : decode cX4_init 95 = .ok (.putfield 57, 3) := by decide +kernel
theorem dX4_init_98 : decode cX4_init 98 = .ok (.iconst 0, 1) := by decide +kernel
theorem dX4_init_99 : decode cX4_init 99 = .ok (.istore_n 1, 1) := by decide +kernel
theorem dX4_init_100 : decode cX4_init 100 = .ok (.iload_n 1, 1) := by decide +kernel
theorem dX4_init_101 : decode cX4_init 101 = .ok (.bipush 6, 2) := by decide +kernel
theorem dX4_init_103 : decode cX4_init 103 = .ok (.if_icmp .ge 26, 3) := by decide +kernel
theorem dX4_init_106 : decode cX4_init 106 = .ok (.aload_n 0, 1) := by decide +kernel
theorem dX4_init_107 : decode cX4_init 107 = .ok (.getfield 11, 3) := by decide +kernel
theorem dX4_init_110 : decode cX4_init 110 = .ok (.iload_n 1, 1) := by decide +kernel
theorem dX4_init_111 : decode cX4_init 111 = .ok (.new 9, 3) := by decide +kernel
theorem dX4_init_114 : decode cX4_init 114 = .ok (.dup, 1) := by decide +kernel
theorem dX4_init_115 : decode cX4_init 115 = .ok (.bipush 40, 2) := by decide +kernel
theorem dX4_init_117 : decode cX4_init 117 = .ok (.newarray .int, 2) := by decide +kernel
theorem dX4_init_119 : decode cX4_init 119 = .ok (.invokespecial 60, 3) := by decide +kernel
theorem dX4_init_122 : decode cX4_init 122 = .ok (.aastore, 1) := by decide +kernel
theorem dX4_init_123 : decode cX4_init 123 = .ok (.iinc 1 1, 3) := by decide +kernel
theorem dX4_init_126 : decode cX4_init 126 = .ok (.goto (-26), 3) := by decide +kernel
theorem dX4_init_129 : decode cX4_init 129 = .ok (.iconst 0, 1) := by decide +kernel
theorem dX4_init_130 : decode cX4_init 130 = .ok (.istore_n 1, 1) := by decide +kernel
theorem dX4_init_131 : decode cX4_init 131 = .ok (.iload_n 1, 1) := by decide +kernel
theorem dX4_init_132 : decode cX4_init 132 = .ok (.iconst 4, 1) := by decide +kernel
theorem dX4_init_133 : decode cX4_init 133 = .ok (.if_icmp .ge 26, 3) := by decide +kernel
theorem dX4_init_136 : decode cX4_init 136 = .ok (.aload_n 0, 1) := by decide +kernel
theorem dX4_init_137 : decode cX4_init 137 = .ok (.getfield 15, 3) := by decide +kernel
theorem dX4_init_140 : decode cX4_init 140 = .ok (.iload_n 1, 1) := by decide +kernel
theorem dX4_init_141 : decode cX4_init 141 = .ok (.new 9, 3) := by decide +kernel
theorem dX4_init_144 : decode cX4_init 144 = .ok (.dup, 1) := by decide +kernel
theorem dX4_init_145 : decode cX4_init 145 = .ok (.bipush 60, 2) := by decide +kernel
theorem dX4_init_147 : decode cX4_init 147 = .ok (.newarray .int, 2) := by decide +kernel
theorem dX4_init_149 : decode cX4_init 149 = .ok (.invokespecial 60, 3) := by decide +kernel
theorem dX4_init_152 : decode cX4_init 152 = .ok (.aastore, 1) := by decide +kernel
theorem dX4_init_153 : decode cX4_init 153 = .ok (.iinc 1 1, 3) := by decide +kernel
theorem dX4_init_156 : decode cX4_init 156 = .ok (.goto (-25), 3) := by decide +kernel
theorem dX4_init_159 : decode cX4_init 159 = .ok (.iconst 0, 1) := by decide +kernel
theorem dX4_init_160 : decode cX4_init 160 = .ok (.istore_n 1, 1) := by decide +kernel
theorem dX4_init_161 : decode cX4_init 161 = .ok (.iload_n 1, 1) := by decide +kernel
theorem dX4_init_162 : decode cX4_init 162 = .ok (.iconst 3, 1) := by decide +kernel
theorem dX4_init_163 : decode cX4_init 163 = .ok (.if_icmp .ge 22, 3) := by decide +kernel
theorem dX4_init_166 : decode cX4_init 166 = .ok (.aload_n 0, 1) := by decide +kernel
theorem dX4_init_167 : decode cX4_init 167 = .ok (.getfield 25, 3) := by decide +kernel
theorem dX4_init_170 : decode cX4_init 170 = .ok (.iload_n 1, 1) := by decide +kernel
theorem dX4_init_171 : decode cX4_init 171 = .ok (.new 18, 3) := by decide +kernel
theorem dX4_init_174 : decode cX4_init 174 = .ok (.dup, 1) := by decide +kernel
theorem dX4_init_175 : decode cX4_init 175 = .ok (.invokespecial 20, 3) := by decide +kernel
theorem dX4_init_178 : decode cX4_init 178 = .ok (.aastore, 1) := by decide +kernel
theorem dX4_init_179 : decode cX4_init 179 = .ok (.iinc 1 1, 3) := by decide +kernel
theorem dX4_init_182 : decode cX4_init 182 = .ok (.goto (-21), 3) := by decide +kernel
theorem dX4_init_185 : decode cX4_init 185 = .ok (.return_, 1) := by decide +kernel
theorem dX4_row_0 : decode cX4_row 0 = .ok (.iload_n 1, 1) := by decide +kernel
theorem dX4_row_1 : decode cX4_row 1 = .ok (.invokestatic 63, 3) := by decide +kernel
theorem dX4_row_4 : decode cX4_row 4 = .ok (.ifCond .eq 9, 3) := by decide +kernel
theorem dX4_row_7 : decode cX4_row 7 = .ok (.iload_n 2, 1) := by decide +kernel
theorem dX4_row_8 : decode cX4_row 8 = .ok (.bipush 40, 2) := by decide +kernel
theorem dX4_row_10 : decode cX4_row 10 = .ok (.if_icmp .le 5, 3) := by decide +kernel
theorem dX4_row_13 : decode cX4_row 13 = .ok (.iconst (-1), 1) := by decide +kernel
theorem dX4_row_14 : decode cX4_row 14 = .ok (.ireturn, 1) := by decide +kernel
theorem dX4_row_15 : decode cX4_row 15 = .ok (.iload_n 2, 1) := by decide +kernel
theorem dX4_row_16 : decode cX4_row 16 = .ok (.ifCond .ge 9, 3) := by decide +kernel
theorem dX4_row_19 : decode cX4_row 19 = .ok (.aload_n 0, 1) := by decide +kernel
theorem dX4_row_20 : decode cX4_row 20 = .ok (.iconst 5, 1) := by decide +kernel
theorem dX4_row_21 : decode cX4_row 21 = .ok (.invokevirtual 67, 3) := by decide +kernel
theorem dX4_row_24 : decode cX4_row 24 = .ok (.ireturn, 1) := by decide +kernel
theorem dX4_row_25 : decode cX4_row 25 = .ok (.aload_n 0, 1) := by decide +kernel
theorem dX4_row_26 : decode cX4_row 26 = .ok (.getfield 11, 3) := by decide +kernel
theorem dX4_row_29 : decode cX4_row 29 = .ok (.iload_n 1, 1) := by decide +kernel
theorem dX4_row_30 : decode cX4_row 30 = .ok (.aaload, 1) := by decide +kernel
theorem dX4_row_31 : decode cX4_row 31 = .ok (.iload_n 2, 1) := by decide +kernel
theorem dX4_row_32 : decode cX4_row 32 = .ok (.iconst 0, 1) := by decide +kernel
theorem dX4_row_33 : decode cX4_row 33 = .ok (.invokevirtual 71, 3) := by decide +kernel
theorem dX4_row_36 : decode cX4_row 36 = .ok (.iload_n 2, 1) := by decide +kernel
theorem dX4_row_37 : decode cX4_row 37 = .ok (.ireturn, 1) := by decide +kernel
theorem dX4_lay_0 : decode cX4_lay 0 = .ok (.aload_n 0, 1) := by decide +kernel
theorem dX4_lay_1 : decode cX4_lay 1 = .ok (.aload_n 0, 1) := by decide +kernel
theorem dX4_lay_2 : decode cX4_lay 2 = .ok (.getfield 11, 3) := by decide +kernel
theorem dX4_lay_5 : decode cX4_lay 5 = .ok (.iload_n 1, 1) := by decide +kernel
theorem dX4_lay_6 : decode cX4_lay 6 = .ok (.iload_n 2, 1) := by decide +kernel
theorem dX4_lay_7 : decode cX4_lay 7 = .ok (.invokevirtual 75, 3) := by decide +kernel
theorem dX4_lay_10 : decode cX4_lay 10 = .ok (.istore 4, 2) := by decide +kernel
theorem dX4_lay_12 : decode cX4_lay 12 = .ok (.iload 4, 2) := by decide +kernel
theorem dX4_lay_14 : decode cX4_lay 14 = .ok (.ifCond .eq 6, 3) := by decide +kernel
theorem dX4_lay_17 : decode cX4_lay 17 = .ok (.iload 4, 2) := by decide +kernel
theorem dX4_lay_19 : decode cX4_lay 19 = .ok (.ireturn, 1) := by decide +kernel
theorem dX4_lay_20 : decode cX4_lay 20 = .ok (.aload_n 0, 1) := by decide +kernel
theorem dX4_lay_21 : decode cX4_lay 21 = .ok (.aload_n 0, 1) := by decide +kernel
theorem dX4_lay_22 : decode cX4_lay 22 = .ok (.getfield 11, 3) := by decide +kernel
theorem dX4_lay_25 : decode cX4_lay 25 = .ok (.iload_n 1, 1) := by decide +kernel
theorem dX4_lay_26 : decode cX4_lay 26 = .ok (.aaload, 1) := by decide +kernel
theorem dX4_lay_27 : decode cX4_lay 27 = .ok (.getfield 79, 3) := by decide +kernel
theorem dX4_lay_30 : decode cX4_lay 30 = .ok (.iload_n 2, 1) := by decide +kernel
theorem dX4_lay_31 : decode cX4_lay 31 = .ok (.iaload, 1) := by decide +kernel
theorem dX4_lay_32 : decode cX4_lay 32 = .ok (.putfield 50, 3) := by decide +kernel
theorem dX4_lay_35 : decode cX4_lay 35 = .ok (.aload_n 0, 1) := by decide +kernel
theorem dX4_lay_36 : decode cX4_lay 36 = .ok (.getfield 11, 3) := by decide +kernel
theorem dX4_lay_39 : decode cX4_lay 39 = .ok (.iload_n 1, 1) := by decide +kernel
theorem dX4_lay_40 : decode cX4_lay 40 = .ok (.aaload, 1) := by decide +kernel
theorem dX4_lay_41 : decode cX4_lay 41 = .ok (.getfield 79, 3) := by decide +kernel
theorem dX4_lay_44 : decode cX4_lay 44 = .ok (.iload_n 2, 1) := by decide +kernel
theorem dX4_lay_45 : decode cX4_lay 45 = .ok (.iload_n 3, 1) := by decide +kernel
theorem dX4_lay_46 : decode cX4_lay 46 = .ok (.iastore, 1) := by decide +kernel
theorem dX4_lay_47 : decode cX4_lay 47 = .ok (.iconst 1, 1) := by decide +kernel
theorem dX4_lay_48 : decode cX4_lay 48 = .ok (.ireturn, 1) := by decide +kernel
theorem dX4_at_0 : decode cX4_at 0 = .ok (.aload_n 0, 1) := by decide +kernel
theorem dX4_at_1 : decode cX4_at 1 = .ok (.aload_n 0, 1) := by decide +kernel
theorem dX4_at_2 : decode cX4_at 2 = .ok (.getfield 11, 3) := by decide +kernel
theorem dX4_at_5 : decode cX4_at 5 = .ok (.iload_n 1, 1) := by decide +kernel
theorem dX4_at_6 : decode cX4_at 6 = .ok (.iload_n 2, 1) := by decide +kernel
theorem dX4_at_7 : decode cX4_at 7 = .ok (.invokevirtual 75, 3) := by decide +kernel
theorem dX4_at_10 : decode cX4_at 10 = .ok (.istore_n 3, 1) := by decide +kernel
theorem dX4_at_11 : decode cX4_at 11 = .ok (.iload_n 3, 1) := by decide +kernel
theorem dX4_at_12 : decode cX4_at 12 = .ok (.ifCond .eq 5, 3) := by decide +kernel
theorem dX4_at_15 : decode cX4_at 15 = .ok (.iload_n 3, 1) := by decide +kernel
theorem dX4_at_16 : decode cX4_at 16 = .ok (.ireturn, 1) := by decide +kernel
theorem dX4_at_17 : decode cX4_at 17 = .ok (.aload_n 0, 1) := by decide +kernel
theorem dX4_at_18 : decode cX4_at 18 = .ok (.aload_n 0, 1) := by decide +kernel
theorem dX4_at_19 : decode cX4_at 19 = .ok (.getfield 11, 3) := by decide +kernel
theorem dX4_at_22 : decode cX4_at 22 = .ok (.iload_n 1, 1) := by decide +kernel
theorem dX4_at_23 : decode cX4_at 23 = .ok (.aaload, 1) := by decide +kernel
theorem dX4_at_24 : decode cX4_at 24 = .ok (.getfield 79, 3) := by decide +kernel
theorem dX4_at_27 : decode cX4_at 27 = .ok (.iload_n 2, 1) := by decide +kernel
theorem dX4_at_28 : decode cX4_at 28 = .ok (.iaload, 1) := by decide +kernel
theorem dX4_at_29 : decode cX4_at 29 = .ok (.putfield 50, 3) := by decide +kernel
theorem dX4_at_32 : decode cX4_at 32 = .ok (.iconst 1, 1) := by decide +kernel
theorem dX4_at_33 : decode cX4_at 33 = .ok (.ireturn, 1) := by decide +kernel
theorem dX4_tear_0 : decode cX4_tear 0 = .ok (.aload_n 0, 1) := by decide +kernel
theorem dX4_tear_1 : decode cX4_tear 1 = .ok (.aload_n 0, 1) := by decide +kernel
theorem dX4_tear_2 : decode cX4_tear 2 = .ok (.getfield 11, 3) := by decide +kernel
theorem dX4_tear_5 : decode cX4_tear 5 = .ok (.iload_n 1, 1) := by decide +kernel
theorem dX4_tear_6 : decode cX4_tear 6 = .ok (.invokevirtual 82, 3) := by decide +kernel
theorem dX4_tear_9 : decode cX4_tear 9 = .ok (.istore_n 2, 1) := by decide +kernel
theorem dX4_tear_10 : decode cX4_tear 10 = .ok (.iload_n 2, 1) := by decide +kernel
theorem dX4_tear_11 : decode cX4_tear 11 = .ok (.ifCond .eq 5, 3) := by decide +kernel
theorem dX4_tear_14 : decode cX4_tear 14 = .ok (.iload_n 2, 1) := by decide +kernel
theorem dX4_tear_15 : decode cX4_tear 15 = .ok (.ireturn, 1) := by decide +kernel
theorem dX4_tear_16 : decode cX4_tear 16 = .ok (.aload_n 0, 1) := by decide +kernel
theorem dX4_tear_17 : decode cX4_tear 17 = .ok (.getfield 11, 3) := by decide +kernel
theorem dX4_tear_20 : decode cX4_tear 20 = .ok (.iload_n 1, 1) := by decide +kernel
theorem dX4_tear_21 : decode cX4_tear 21 = .ok (.aaload, 1) := by decide +kernel
theorem dX4_tear_22 : decode cX4_tear 22 = .ok (.iconst (-1), 1) := by decide +kernel
theorem dX4_tear_23 : decode cX4_tear 23 = .ok (.putfield 86, 3) := by decide +kernel
theorem dX4_tear_26 : decode cX4_tear 26 = .ok (.iconst 1, 1) := by decide +kernel
theorem dX4_tear_27 : decode cX4_tear 27 = .ok (.ireturn, 1) := by decide +kernel
theorem dX4_copy_0 : decode cX4_copy 0 = .ok (.iload_n 1, 1) := by decide +kernel
theorem dX4_copy_1 : decode cX4_copy 1 = .ok (.invokestatic 63, 3) := by decide +kernel
theorem dX4_copy_4 : decode cX4_copy 4 = .ok (.ifCond .eq 10, 3) := by decide +kernel
theorem dX4_copy_7 : decode cX4_copy 7 = .ok (.iload_n 3, 1) := by decide +kernel
theorem dX4_copy_8 : decode cX4_copy 8 = .ok (.invokestatic 63, 3) := by decide +kernel
theorem dX4_copy_11 : decode cX4_copy 11 = .ok (.ifCond .ne 5, 3) := by decide +kernel
theorem dX4_copy_14 : decode cX4_copy 14 = .ok (.iconst (-1), 1) := by decide +kernel
theorem dX4_copy_15 : decode cX4_copy 15 = .ok (.ireturn, 1) := by decide +kernel
theorem dX4_copy_16 : decode cX4_copy 16 = .ok (.iload 5, 2) := by decide +kernel
theorem dX4_copy_18 : decode cX4_copy 18 = .ok (.ifCond .ge 9, 3) := by decide +kernel
theorem dX4_copy_21 : decode cX4_copy 21 = .ok (.aload_n 0, 1) := by decide +kernel
theorem dX4_copy_22 : decode cX4_copy 22 = .ok (.iconst 5, 1) := by decide +kernel
theorem dX4_copy_23 : decode cX4_copy 23 = .ok (.invokevirtual 67, 3) := by decide +kernel
theorem dX4_copy_26 : decode cX4_copy 26 = .ok (.ireturn, 1) := by decide +kernel
theorem dX4_copy_27 : decode cX4_copy 27 = .ok (.aload_n 0, 1) := by decide +kernel
theorem dX4_copy_28 : decode cX4_copy 28 = .ok (.getfield 11, 3) := by decide +kernel
theorem dX4_copy_31 : decode cX4_copy 31 = .ok (.iload_n 1, 1) := by decide +kernel
theorem dX4_copy_32 : decode cX4_copy 32 = .ok (.aaload, 1) := by decide +kernel
theorem dX4_copy_33 : decode cX4_copy 33 = .ok (.invokevirtual 89, 3) := by decide +kernel
theorem dX4_copy_36 : decode cX4_copy 36 = .ok (.ifCond .ne 15, 3) := by decide +kernel
theorem dX4_copy_39 : decode cX4_copy 39 = .ok (.aload_n 0, 1) := by decide +kernel
theorem dX4_copy_40 : decode cX4_copy 40 = .ok (.getfield 11, 3) := by decide +kernel
theorem dX4_copy_43 : decode cX4_copy 43 = .ok (.iload_n 3, 1) := by decide +kernel
theorem dX4_copy_44 : decode cX4_copy 44 = .ok (.aaload, 1) := by decide +kernel
theorem dX4_copy_45 : decode cX4_copy 45 = .ok (.invokevirtual 89, 3) := by decide +kernel
theorem dX4_copy_48 : decode cX4_copy 48 = .ok (.ifCond .eq 9, 3) := by decide +kernel
theorem dX4_copy_51 : decode cX4_copy 51 = .ok (.aload_n 0, 1) := by decide +kernel
theorem dX4_copy_52 : decode cX4_copy 52 = .ok (.iconst 1, 1) := by decide +kernel
theorem dX4_copy_53 : decode cX4_copy 53 = .ok (.invokevirtual 67, 3) := by decide +kernel
theorem dX4_copy_56 : decode cX4_copy 56 = .ok (.ireturn, 1) := by decide +kernel
theorem dX4_copy_57 : decode cX4_copy 57 = .ok (.aload_n 0, 1) := by decide +kernel
theorem dX4_copy_58 : decode cX4_copy 58 = .ok (.getfield 11, 3) := by decide +kernel
theorem dX4_copy_61 : decode cX4_copy 61 = .ok (.iload_n 1, 1) := by decide +kernel
theorem dX4_copy_62 : decode cX4_copy 62 = .ok (.aaload, 1) := by decide +kernel
theorem dX4_copy_63 : decode cX4_copy 63 = .ok (.iload_n 2, 1) := by decide +kernel
theorem dX4_copy_64 : decode cX4_copy 64 = .ok (.iload 5, 2) := by decide +kernel
theorem dX4_copy_66 : decode cX4_copy 66 = .ok (.invokevirtual 93, 3) := by decide +kernel
theorem dX4_copy_69 : decode cX4_copy 69 = .ok (.ifCond .eq 19, 3) := by decide +kernel
theorem dX4_copy_72 : decode cX4_copy 72 = .ok (.aload_n 0, 1) := by decide +kernel
theorem dX4_copy_73 : decode cX4_copy 73 = .ok (.getfield 11, 3) := by decide +kernel
theorem dX4_copy_76 : decode cX4_copy 76 = .ok (.iload_n 3, 1) := by decide +kernel
theorem dX4_copy_77 : decode cX4_copy 77 = .ok (.aaload, 1) := by decide +kernel
theorem dX4_copy_78 : decode cX4_copy 78 = .ok (.iload 4, 2) := by decide +kernel
theorem dX4_copy_80 : decode cX4_copy 80 = .ok (.iload 5, 2) := by decide +kernel
theorem dX4_copy_82 : decode cX4_copy 82 = .ok (.invokevirtual 93, 3) := by decide +kernel
theorem dX4_copy_85 : decode cX4_copy 85 = .ok (.ifCond .ne 9, 3) := by decide +kernel
theorem dX4_copy_88 : decode cX4_copy 88 = .ok (.aload_n 0, 1) := by decide +kernel
theorem dX4_copy_89 : decode cX4_copy 89 = .ok (.iconst 2, 1) := by decide +kernel
theorem dX4_copy_90 : decode cX4_copy 90 = .ok (.invokevirtual 67, 3) := by decide +kernel
theorem dX4_copy_93 : decode cX4_copy 93 = .ok (.ireturn, 1) := by decide +kernel
theorem dX4_copy_94 : decode cX4_copy 94 = .ok (.aload_n 0, 1) := by decide +kernel
theorem dX4_copy_95 : decode cX4_copy 95 = .ok (.getfield 11, 3) := by decide +kernel
theorem dX4_copy_98 : decode cX4_copy 98 = .ok (.iload_n 1, 1) := by decide +kernel
theorem dX4_copy_99 : decode cX4_copy 99 = .ok (.aaload, 1) := by decide +kernel
theorem dX4_copy_100 : decode cX4_copy 100 = .ok (.getfield 79, 3) := by decide +kernel
theorem dX4_copy_103 : decode cX4_copy 103 = .ok (.iload_n 2, 1) := by decide +kernel
theorem dX4_copy_104 : decode cX4_copy 104 = .ok (.aload_n 0, 1) := by decide +kernel
theorem dX4_copy_105 : decode cX4_copy 105 = .ok (.getfield 11, 3) := by decide +kernel
theorem dX4_copy_108 : decode cX4_copy 108 = .ok (.iload_n 3, 1) := by decide +kernel
theorem dX4_copy_109 : decode cX4_copy 109 = .ok (.aaload, 1) := by decide +kernel
theorem dX4_copy_110 : decode cX4_copy 110 = .ok (.getfield 79, 3) := by decide +kernel
theorem dX4_copy_113 : decode cX4_copy 113 = .ok (.iload 4, 2) := by decide +kernel
theorem dX4_copy_115 : decode cX4_copy 115 = .ok (.iload 5, 2) := by decide +kernel
theorem dX4_copy_117 : decode cX4_copy 117 = .ok (.invokestatic 97, 3) := by decide +kernel
theorem dX4_copy_120 : decode cX4_copy 120 = .ok (.iconst 1, 1) := by decide +kernel
theorem dX4_copy_121 : decode cX4_copy 121 = .ok (.ireturn, 1) := by decide +kernel
theorem dX4_mean_0 : decode cX4_mean 0 = .ok (.aload_n 0, 1) := by decide +kernel
theorem dX4_mean_1 : decode cX4_mean 1 = .ok (.aload_n 0, 1) := by decide +kernel
theorem dX4_mean_2 : decode cX4_mean 2 = .ok (.getfield 11, 3) := by decide +kernel
theorem dX4_mean_5 : decode cX4_mean 5 = .ok (.iload_n 1, 1) := by decide +kernel
theorem dX4_mean_6 : decode cX4_mean 6 = .ok (.invokevirtual 82, 3) := by decide +kernel
theorem dX4_mean_9 : decode cX4_mean 9 = .ok (.istore_n 2, 1) := by decide +kernel
theorem dX4_mean_10 : decode cX4_mean 10 = .ok (.iload_n 2, 1) := by decide +kernel
theorem dX4_mean_11 : decode cX4_mean 11 = .ok (.ifCond .eq 5, 3) := by decide +kernel
theorem dX4_mean_14 : decode cX4_mean 14 = .ok (.iload_n 2, 1) := by decide +kernel
theorem dX4_mean_15 : decode cX4_mean 15 = .ok (.ireturn, 1) := by decide +kernel
theorem dX4_mean_16 : decode cX4_mean 16 = .ok (.aload_n 0, 1) := by decide +kernel
theorem dX4_mean_17 : decode cX4_mean 17 = .ok (.getfield 11, 3) := by decide +kernel
theorem dX4_mean_20 : decode cX4_mean 20 = .ok (.iload_n 1, 1) := by decide +kernel
theorem dX4_mean_21 : decode cX4_mean 21 = .ok (.aaload, 1) := by decide +kernel
theorem dX4_mean_22 : decode cX4_mean 22 = .ok (.astore_n 3, 1) := by decide +kernel
theorem dX4_mean_23 : decode cX4_mean 23 = .ok (.aload_n 3, 1) := by decide +kernel
theorem dX4_mean_24 : decode cX4_mean 24 = .ok (.getfield 86, 3) := by decide +kernel
theorem dX4_mean_27 : decode cX4_mean 27 = .ok (.ifCond .ne 9, 3) := by decide +kernel
theorem dX4_mean_30 : decode cX4_mean 30 = .ok (.aload_n 0, 1) := by decide +kernel
theorem dX4_mean_31 : decode cX4_mean 31 = .ok (.iconst 4, 1) := by decide +kernel
theorem dX4_mean_32 : decode cX4_mean 32 = .ok (.invokevirtual 67, 3) := by decide +kernel
theorem dX4_mean_35 : decode cX4_mean 35 = .ok (.ireturn, 1) := by decide +kernel
theorem dX4_mean_36 : decode cX4_mean 36 = .ok (.aload_n 0, 1) := by decide +kernel
theorem dX4_mean_37 : decode cX4_mean 37 = .ok (.aload_n 3, 1) := by decide +kernel
theorem dX4_mean_38 : decode cX4_mean 38 = .ok (.invokevirtual 103, 3) := by decide +kernel
theorem dX4_mean_41 : decode cX4_mean 41 = .ok (.aload_n 3, 1) := by decide +kernel
theorem dX4_mean_42 : decode cX4_mean 42 = .ok (.getfield 86, 3) := by decide +kernel
theorem dX4_mean_45 : decode cX4_mean 45 = .ok (.i2l, 1) := by decide +kernel
theorem dX4_mean_46 : decode cX4_mean 46 = .ok (.ldiv, 1) := by decide +kernel
theorem dX4_mean_47 : decode cX4_mean 47 = .ok (.l2i, 1) := by decide +kernel
theorem dX4_mean_48 : decode cX4_mean 48 = .ok (.putfield 50, 3) := by decide +kernel
theorem dX4_mean_51 : decode cX4_mean 51 = .ok (.iconst 1, 1) := by decide +kernel
theorem dX4_mean_52 : decode cX4_mean 52 = .ok (.ireturn, 1) := by decide +kernel
theorem dX4_text_0 : decode cX4_text 0 = .ok (.iload_n 1, 1) := by decide +kernel
theorem dX4_text_1 : decode cX4_text 1 = .ok (.invokestatic 107, 3) := by decide +kernel
theorem dX4_text_4 : decode cX4_text 4 = .ok (.ifCond .eq 9, 3) := by decide +kernel
theorem dX4_text_7 : decode cX4_text 7 = .ok (.iload_n 2, 1) := by decide +kernel
theorem dX4_text_8 : decode cX4_text 8 = .ok (.bipush 60, 2) := by decide +kernel
theorem dX4_text_10 : decode cX4_text 10 = .ok (.if_icmp .le 5, 3) := by decide +kernel
theorem dX4_text_13 : decode cX4_text 13 = .ok (.iconst (-1), 1) := by decide +kernel
theorem dX4_text_14 : decode cX4_text 14 = .ok (.ireturn, 1) := by decide +kernel
theorem dX4_text_15 : decode cX4_text 15 = .ok (.iload_n 2, 1) := by decide +kernel
theorem dX4_text_16 : decode cX4_text 16 = .ok (.ifCond .ge 9, 3) := by decide +kernel
theorem dX4_text_19 : decode cX4_text 19 = .ok (.aload_n 0, 1) := by decide +kernel
theorem dX4_text_20 : decode cX4_text 20 = .ok (.iconst 5, 1) := by decide +kernel
theorem dX4_text_21 : decode cX4_text 21 = .ok (.invokevirtual 67, 3) := by decide +kernel
theorem dX4_text_24 : decode cX4_text 24 = .ok (.ireturn, 1) := by decide +kernel
theorem dX4_text_25 : decode cX4_text 25 = .ok (.aload_n 0, 1) := by decide +kernel
theorem dX4_text_26 : decode cX4_text 26 = .ok (.getfield 15, 3) := by decide +kernel
theorem dX4_text_29 : decode cX4_text 29 = .ok (.iload_n 1, 1) := by decide +kernel
theorem dX4_text_30 : decode cX4_text 30 = .ok (.aaload, 1) := by decide +kernel
theorem dX4_text_31 : decode cX4_text 31 = .ok (.iload_n 2, 1) := by decide +kernel
theorem dX4_text_32 : decode cX4_text 32 = .ok (.bipush 32, 2) := by decide +kernel
theorem dX4_text_34 : decode cX4_text 34 = .ok (.invokevirtual 71, 3) := by decide +kernel
theorem dX4_text_37 : decode cX4_text 37 = .ok (.iload_n 2, 1) := by decide +kernel
theorem dX4_text_38 : decode cX4_text 38 = .ok (.ireturn, 1) := by decide +kernel
theorem dX4_put_0 : decode cX4_put 0 = .ok (.aload_n 0, 1) := by decide +kernel
theorem dX4_put_1 : decode cX4_put 1 = .ok (.aload_n 0, 1) := by decide +kernel
theorem dX4_put_2 : decode cX4_put 2 = .ok (.getfield 15, 3) := by decide +kernel
theorem dX4_put_5 : decode cX4_put 5 = .ok (.iload_n 1, 1) := by decide +kernel
theorem dX4_put_6 : decode cX4_put 6 = .ok (.iload_n 2, 1) := by decide +kernel
theorem dX4_put_7 : decode cX4_put 7 = .ok (.invokevirtual 75, 3) := by decide +kernel
theorem dX4_put_10 : decode cX4_put 10 = .ok (.istore 4, 2) := by decide +kernel
theorem dX4_put_12 : decode cX4_put 12 = .ok (.iload 4, 2) := by decide +kernel
theorem dX4_put_14 : decode cX4_put 14 = .ok (.ifCond .eq 6, 3) := by decide +kernel
theorem dX4_put_17 : decode cX4_put 17 = .ok (.iload 4, 2) := by decide +kernel
theorem dX4_put_19 : decode cX4_put 19 = .ok (.ireturn, 1) := by decide +kernel
theorem dX4_put_20 : decode cX4_put 20 = .ok (.aload_n 0, 1) := by decide +kernel
theorem dX4_put_21 : decode cX4_put 21 = .ok (.getfield 15, 3) := by decide +kernel
theorem dX4_put_24 : decode cX4_put 24 = .ok (.iload_n 1, 1) := by decide +kernel
theorem dX4_put_25 : decode cX4_put 25 = .ok (.aaload, 1) := by decide +kernel
theorem dX4_put_26 : decode cX4_put 26 = .ok (.getfield 79, 3) := by decide +kernel
theorem dX4_put_29 : decode cX4_put 29 = .ok (.iload_n 2, 1) := by decide +kernel
theorem dX4_put_30 : decode cX4_put 30 = .ok (.iaload, 1) := by decide +kernel
theorem dX4_put_31 : decode cX4_put 31 = .ok (.istore 5, 2) := by decide +kernel
theorem dX4_put_33 : decode cX4_put 33 = .ok (.aload_n 0, 1) := by decide +kernel
theorem dX4_put_34 : decode cX4_put 34 = .ok (.getfield 15, 3) := by decide +kernel
theorem dX4_put_37 : decode cX4_put 37 = .ok (.iload_n 1, 1) := by decide +kernel
theorem dX4_put_38 : decode cX4_put 38 = .ok (.aaload, 1) := by decide +kernel
theorem dX4_put_39 : decode cX4_put 39 = .ok (.getfield 79, 3) := by decide +kernel
theorem dX4_put_42 : decode cX4_put 42 = .ok (.iload_n 2, 1) := by decide +kernel
theorem dX4_put_43 : decode cX4_put 43 = .ok (.iload_n 3, 1) := by decide +kernel
theorem dX4_put_44 : decode cX4_put 44 = .ok (.i2b, 1) := by decide +kernel
theorem dX4_put_45 : decode cX4_put 45 = .ok (.iastore, 1) := by decide +kernel
theorem dX4_put_46 : decode cX4_put 46 = .ok (.iload 5, 2) := by decide +kernel
theorem dX4_put_48 : decode cX4_put 48 = .ok (.sipush 1000, 3) := by decide +kernel
theorem dX4_put_51 : decode cX4_put 51 = .ok (.iadd, 1) := by decide +kernel
theorem dX4_put_52 : decode cX4_put 52 = .ok (.ireturn, 1) := by decide +kernel
theorem dX4_fault_0 : decode cX4_fault 0 = .ok (.aload_n 0, 1) := by decide +kernel
theorem dX4_fault_1 : decode cX4_fault 1 = .ok (.aload_n 0, 1) := by decide +kernel
theorem dX4_fault_2 : decode cX4_fault 2 = .ok (.getfield 15, 3) := by decide +kernel
theorem dX4_fault_5 : decode cX4_fault 5 = .ok (.iload_n 1, 1) := by decide +kernel
theorem dX4_fault_6 : decode cX4_fault 6 = .ok (.invokevirtual 82, 3) := by decide +kernel
theorem dX4_fault_9 : decode cX4_fault 9 = .ok (.istore_n 2, 1) := by decide +kernel
theorem dX4_fault_10 : decode cX4_fault 10 = .ok (.iload_n 2, 1) := by decide +kernel
theorem dX4_fault_11 : decode cX4_fault 11 = .ok (.ifCond .eq 5, 3) := by decide +kernel
theorem dX4_fault_14 : decode cX4_fault 14 = .ok (.iload_n 2, 1) := by decide +kernel
theorem dX4_fault_15 : decode cX4_fault 15 = .ok (.ireturn, 1) := by decide +kernel
theorem dX4_fault_16 : decode cX4_fault 16 = .ok (.aload_n 0, 1) := by decide +kernel
theorem dX4_fault_17 : decode cX4_fault 17 = .ok (.getfield 35, 3) := by decide +kernel
theorem dX4_fault_20 : decode cX4_fault 20 = .ok (.aload_n 0, 1) := by decide +kernel
theorem dX4_fault_21 : decode cX4_fault 21 = .ok (.getfield 15, 3) := by decide +kernel
theorem dX4_fault_24 : decode cX4_fault 24 = .ok (.iload_n 1, 1) := by decide +kernel
theorem dX4_fault_25 : decode cX4_fault 25 = .ok (.aaload, 1) := by decide +kernel
theorem dX4_fault_26 : decode cX4_fault 26 = .ok (.aload_n 0, 1) := by decide +kernel
theorem dX4_fault_27 : decode cX4_fault 27 = .ok (.getfield 29, 3) := by decide +kernel
theorem dX4_fault_30 : decode cX4_fault 30 = .ok (.invokevirtual 110, 3) := by decide +kernel
theorem dX4_fault_33 : decode cX4_fault 33 = .ok (.ifCond .eq 8, 3) := by decide +kernel
theorem dX4_fault_36 : decode cX4_fault 36 = .ok (.bipush (-9), 2) := by decide +kernel
theorem dX4_fault_38 : decode cX4_fault 38 = .ok (.goto 10, 3) := by decide +kernel
theorem dX4_fault_41 : decode cX4_fault 41 = .ok (.aload_n 0, 1) := by decide +kernel
theorem dX4_fault_42 : decode cX4_fault 42 = .ok (.getfield 35, 3) := by decide +kernel
theorem dX4_fault_45 : decode cX4_fault 45 = .ok (.getfield 114, 3) := by decide +kernel
theorem dX4_fault_48 : decode cX4_fault 48 = .ok (.ireturn, 1) := by decide +kernel
theorem dX4_land_0 : decode cX4_land 0 = .ok (.aload_n 0, 1) := by decide +kernel
theorem dX4_land_1 : decode cX4_land 1 = .ok (.aload_n 0, 1) := by decide +kernel
theorem dX4_land_2 : decode cX4_land 2 = .ok (.getfield 15, 3) := by decide +kernel
theorem dX4_land_5 : decode cX4_land 5 = .ok (.iload_n 1, 1) := by decide +kernel
theorem dX4_land_6 : decode cX4_land 6 = .ok (.invokevirtual 82, 3) := by decide +kernel
theorem dX4_land_9 : decode cX4_land 9 = .ok (.istore_n 2, 1) := by decide +kernel
theorem dX4_land_10 : decode cX4_land 10 = .ok (.iload_n 2, 1) := by decide +kernel
theorem dX4_land_11 : decode cX4_land 11 = .ok (.ifCond .eq 5, 3) := by decide +kernel
theorem dX4_land_14 : decode cX4_land 14 = .ok (.iload_n 2, 1) := by decide +kernel
theorem dX4_land_15 : decode cX4_land 15 = .ok (.ireturn, 1) := by decide +kernel
theorem dX4_land_16 : decode cX4_land 16 = .ok (.aload_n 0, 1) := by decide +kernel
theorem dX4_land_17 : decode cX4_land 17 = .ok (.getfield 35, 3) := by decide +kernel
theorem dX4_land_20 : decode cX4_land 20 = .ok (.aload_n 0, 1) := by decide +kernel
theorem dX4_land_21 : decode cX4_land 21 = .ok (.getfield 15, 3) := by decide +kernel
theorem dX4_land_24 : decode cX4_land 24 = .ok (.iload_n 1, 1) := by decide +kernel
theorem dX4_land_25 : decode cX4_land 25 = .ok (.aaload, 1) := by decide +kernel
theorem dX4_land_26 : decode cX4_land 26 = .ok (.aload_n 0, 1) := by decide +kernel
theorem dX4_land_27 : decode cX4_land 27 = .ok (.getfield 29, 3) := by decide +kernel
theorem dX4_land_30 : decode cX4_land 30 = .ok (.invokevirtual 110, 3) := by decide +kernel
theorem dX4_land_33 : decode cX4_land 33 = .ok (.ifCond .ne 6, 3) := by decide +kernel
theorem dX4_land_36 : decode cX4_land 36 = .ok (.bipush (-4), 2) := by decide +kernel
theorem dX4_land_38 : decode cX4_land 38 = .ok (.ireturn, 1) := by decide +kernel
theorem dX4_land_39 : decode cX4_land 39 = .ok (.aload_n 0, 1) := by decide +kernel
theorem dX4_land_40 : decode cX4_land 40 = .ok (.getfield 21, 3) := by decide +kernel
theorem dX4_land_43 : decode cX4_land 43 = .ok (.aload_n 0, 1) := by decide +kernel
theorem dX4_land_44 : decode cX4_land 44 = .ok (.getfield 29, 3) := by decide +kernel
theorem dX4_land_47 : decode cX4_land 47 = .ok (.invokevirtual 117, 3) := by decide +kernel
theorem dX4_land_50 : decode cX4_land 50 = .ok (.iconst 0, 1) := by decide +kernel
theorem dX4_land_51 : decode cX4_land 51 = .ok (.istore_n 3, 1) := by decide +kernel
theorem dX4_land_52 : decode cX4_land 52 = .ok (.iload_n 3, 1) := by decide +kernel
theorem dX4_land_53 : decode cX4_land 53 = .ok (.iconst 3, 1) := by decide +kernel
theorem dX4_land_54 : decode cX4_land 54 = .ok (.if_icmp .ge 19, 3) := by decide +kernel
theorem dX4_land_57 : decode cX4_land 57 = .ok (.aload_n 0, 1) := by decide +kernel
theorem dX4_land_58 : decode cX4_land 58 = .ok (.getfield 25, 3) := by decide +kernel
theorem dX4_land_61 : decode cX4_land 61 = .ok (.iload_n 3, 1) := by decide +kernel
theorem dX4_land_62 : decode cX4_land 62 = .ok (.aaload, 1) := by decide +kernel
theorem dX4_land_63 : decode cX4_land 63 = .ok (.iconst 0, 1) := by decide +kernel
theorem dX4_land_64 : decode cX4_land 64 = .ok (.putfield 121, 3) := by decide +kernel
theorem dX4_land_67 : decode cX4_land 67 = .ok (.iinc 3 1, 3) := by decide +kernel
theorem dX4_land_70 : decode cX4_land 70 = .ok (.goto (-18), 3) := by decide +kernel
theorem dX4_land_73 : decode cX4_land 73 = .ok (.aload_n 0, 1) := by decide +kernel
theorem dX4_land_74 : decode cX4_land 74 = .ok (.getfield 21, 3) := by decide +kernel
theorem dX4_land_77 : decode cX4_land 77 = .ok (.getfield 124, 3) := by decide +kernel
theorem dX4_land_80 : decode cX4_land 80 = .ok (.ireturn, 1) := by decide +kernel
theorem dX4_one_0 : decode cX4_one 0 = .ok (.aload_n 0, 1) := by decide +kernel
theorem dX4_one_1 : decode cX4_one 1 = .ok (.getfield 21, 3) := by decide +kernel
theorem dX4_one_4 : decode cX4_one 4 = .ok (.iload_n 1, 1) := by decide +kernel
theorem dX4_one_5 : decode cX4_one 5 = .ok (.invokevirtual 127, 3) := by decide +kernel
theorem dX4_one_8 : decode cX4_one 8 = .ok (.ifCond .eq 12, 3) := by decide +kernel
theorem dX4_one_11 : decode cX4_one 11 = .ok (.iload_n 2, 1) := by decide +kernel
theorem dX4_one_12 : decode cX4_one 12 = .ok (.ifCond .lt 8, 3) := by decide +kernel
theorem dX4_one_15 : decode cX4_one 15 = .ok (.iload_n 2, 1) := by decide +kernel
theorem dX4_one_16 : decode cX4_one 16 = .ok (.iconst 5, 1) := by decide +kernel
theorem dX4_one_17 : decode cX4_one 17 = .ok (.if_icmp .le 5, 3) := by decide +kernel
theorem dX4_one_20 : decode cX4_one 20 = .ok (.iconst (-1), 1) := by decide +kernel
theorem dX4_one_21 : decode cX4_one 21 = .ok (.ireturn, 1) := by decide +kernel
theorem dX4_one_22 : decode cX4_one 22 = .ok (.aload_n 0, 1) := by decide +kernel
theorem dX4_one_23 : decode cX4_one 23 = .ok (.aload_n 0, 1) := by decide +kernel
theorem dX4_one_24 : decode cX4_one 24 = .ok (.iload_n 1, 1) := by decide +kernel
theorem dX4_one_25 : decode cX4_one 25 = .ok (.iload_n 2, 1) := by decide +kernel
theorem dX4_one_26 : decode cX4_one 26 = .ok (.invokevirtual 130, 3) := by decide +kernel
theorem dX4_one_29 : decode cX4_one 29 = .ok (.putfield 50, 3) := by decide +kernel
theorem dX4_one_32 : decode cX4_one 32 = .ok (.iconst 1, 1) := by decide +kernel
theorem dX4_one_33 : decode cX4_one 33 = .ok (.ireturn, 1) := by decide +kernel
theorem dX4_mark_0 : decode cX4_mark 0 = .ok (.aload_n 0, 1) := by decide +kernel
theorem dX4_mark_1 : decode cX4_mark 1 = .ok (.getfield 21, 3) := by decide +kernel
theorem dX4_mark_4 : decode cX4_mark 4 = .ok (.iload_n 1, 1) := by decide +kernel
theorem dX4_mark_5 : decode cX4_mark 5 = .ok (.invokevirtual 127, 3) := by decide +kernel
theorem dX4_mark_8 : decode cX4_mark 8 = .ok (.ifCond .eq 13, 3) := by decide +kernel
theorem dX4_mark_11 : decode cX4_mark 11 = .ok (.iload_n 2, 1) := by decide +kernel
theorem dX4_mark_12 : decode cX4_mark 12 = .ok (.iconst 1, 1) := by decide +kernel
theorem dX4_mark_13 : decode cX4_mark 13 = .ok (.if_icmp .lt 8, 3) := by decide +kernel
theorem dX4_mark_16 : decode cX4_mark 16 = .ok (.iload_n 2, 1) := by decide +kernel
theorem dX4_mark_17 : decode cX4_mark 17 = .ok (.iconst 5, 1) := by decide +kernel
theorem dX4_mark_18 : decode cX4_mark 18 = .ok (.if_icmp .le 5, 3) := by decide +kernel
theorem dX4_mark_21 : decode cX4_mark 21 = .ok (.iconst (-1), 1) := by decide +kernel
theorem dX4_mark_22 : decode cX4_mark 22 = .ok (.ireturn, 1) := by decide +kernel
theorem dX4_mark_23 : decode cX4_mark 23 = .ok (.aload_n 0, 1) := by decide +kernel
theorem dX4_mark_24 : decode cX4_mark 24 = .ok (.getfield 21, 3) := by decide +kernel
theorem dX4_mark_27 : decode cX4_mark 27 = .ok (.iload_n 1, 1) := by decide +kernel
theorem dX4_mark_28 : decode cX4_mark 28 = .ok (.iload_n 2, 1) := by decide +kernel
theorem dX4_mark_29 : decode cX4_mark 29 = .ok (.invokevirtual 134, 3) := by decide +kernel
theorem dX4_mark_32 : decode cX4_mark 32 = .ok (.ifCond .ne 9, 3) := by decide +kernel
theorem dX4_mark_35 : decode cX4_mark 35 = .ok (.aload_n 0, 1) := by decide +kernel
theorem dX4_mark_36 : decode cX4_mark 36 = .ok (.iconst 3, 1) := by decide +kernel
theorem dX4_mark_37 : decode cX4_mark 37 = .ok (.invokevirtual 67, 3) := by decide +kernel
theorem dX4_mark_40 : decode cX4_mark 40 = .ok (.ireturn, 1) := by decide +kernel
theorem dX4_mark_41 : decode cX4_mark 41 = .ok (.iload_n 2, 1) := by decide +kernel
theorem dX4_mark_42 : decode cX4_mark 42 = .ok (.tableswitch 97 1 4 #[30, 57, 74, 88], 30) := by decide +kernel
theorem dX4_mark_72 : decode cX4_mark 72 = .ok (.aload_n 0, 1) := by decide +kernel
theorem dX4_mark_73 : decode cX4_mark 73 = .ok (.getfield 21, 3) := by decide +kernel
theorem dX4_mark_76 : decode cX4_mark 76 = .ok (.getfield 137, 3) := by decide +kernel
theorem dX4_mark_79 : decode cX4_mark 79 = .ok (.iload_n 1, 1) := by decide +kernel
theorem dX4_mark_80 : decode cX4_mark 80 = .ok (.iaload, 1) := by decide +kernel
theorem dX4_mark_81 : decode cX4_mark 81 = .ok (.aload_n 0, 1) := by decide +kernel
theorem dX4_mark_82 : decode cX4_mark 82 = .ok (.getfield 21, 3) := by decide +kernel
theorem dX4_mark_85 : decode cX4_mark 85 = .ok (.getfield 140, 3) := by decide +kernel
theorem dX4_mark_88 : decode cX4_mark 88 = .ok (.iload_n 1, 1) := by decide +kernel
theorem dX4_mark_89 : decode cX4_mark 89 = .ok (.iaload, 1) := by decide +kernel
theorem dX4_mark_90 : decode cX4_mark 90 = .ok (.if_icmp .eq 7, 3) := by decide +kernel
theorem dX4_mark_93 : decode cX4_mark 93 = .ok (.iconst 1, 1) := by decide +kernel
theorem dX4_mark_94 : decode cX4_mark 94 = .ok (.goto 4, 3) := by decide +kernel
theorem dX4_mark_97 : decode cX4_mark 97 = .ok (.iconst 0, 1) := by decide +kernel
theorem dX4_mark_98 : decode cX4_mark 98 = .ok (.ireturn, 1) := by decide +kernel
theorem dX4_mark_99 : decode cX4_mark 99 = .ok (.aload_n 0, 1) := by decide +kernel
theorem dX4_mark_100 : decode cX4_mark 100 = .ok (.getfield 21, 3) := by decide +kernel
theorem dX4_mark_103 : decode cX4_mark 103 = .ok (.aload_n 0, 1) := by decide +kernel
theorem dX4_mark_104 : decode cX4_mark 104 = .ok (.getfield 21, 3) := by decide +kernel
theorem dX4_mark_107 : decode cX4_mark 107 = .ok (.getfield 137, 3) := by decide +kernel
theorem dX4_mark_110 : decode cX4_mark 110 = .ok (.iload_n 1, 1) := by decide +kernel
theorem dX4_mark_111 : decode cX4_mark 111 = .ok (.iaload, 1) := by decide +kernel
theorem dX4_mark_112 : decode cX4_mark 112 = .ok (.invokevirtual 143, 3) := by decide +kernel
theorem dX4_mark_115 : decode cX4_mark 115 = .ok (.ireturn, 1) := by decide +kernel
theorem dX4_mark_116 : decode cX4_mark 116 = .ok (.iconst 0, 1) := by decide +kernel
theorem dX4_mark_117 : decode cX4_mark 117 = .ok (.iconst 3, 1) := by decide +kernel
theorem dX4_mark_118 : decode cX4_mark 118 = .ok (.aload_n 0, 1) := by decide +kernel
theorem dX4_mark_119 : decode cX4_mark 119 = .ok (.getfield 21, 3) := by decide +kernel
theorem dX4_mark_122 : decode cX4_mark 122 = .ok (.invokevirtual 146, 3) := by decide +kernel
theorem dX4_mark_125 : decode cX4_mark 125 = .ok (.isub, 1) := by decide +kernel
theorem dX4_mark_126 : decode cX4_mark 126 = .ok (.invokestatic 150, 3) := by decide +kernel
theorem dX4_mark_129 : decode cX4_mark 129 = .ok (.ireturn, 1) := by decide +kernel
theorem dX4_mark_130 : decode cX4_mark 130 = .ok (.aload_n 0, 1) := by decide +kernel
theorem dX4_mark_131 : decode cX4_mark 131 = .ok (.getfield 21, 3) := by decide +kernel
theorem dX4_mark_134 : decode cX4_mark 134 = .ok (.iload_n 1, 1) := by decide +kernel
theorem dX4_mark_135 : decode cX4_mark 135 = .ok (.invokevirtual 155, 3) := by decide +kernel
theorem dX4_mark_138 : decode cX4_mark 138 = .ok (.ireturn, 1) := by decide +kernel
theorem dX4_mark_139 : decode cX4_mark 139 = .ok (.aload_n 0, 1) := by decide +kernel
theorem dX4_mark_140 : decode cX4_mark 140 = .ok (.getfield 21, 3) := by decide +kernel
theorem dX4_mark_143 : decode cX4_mark 143 = .ok (.getfield 137, 3) := by decide +kernel
theorem dX4_mark_146 : decode cX4_mark 146 = .ok (.iload_n 1, 1) := by decide +kernel
theorem dX4_mark_147 : decode cX4_mark 147 = .ok (.iaload, 1) := by decide +kernel
theorem dX4_mark_148 : decode cX4_mark 148 = .ok (.aload_n 0, 1) := by decide +kernel
theorem dX4_mark_149 : decode cX4_mark 149 = .ok (.getfield 21, 3) := by decide +kernel
theorem dX4_mark_152 : decode cX4_mark 152 = .ok (.getfield 158, 3) := by decide +kernel
theorem dX4_mark_155 : decode cX4_mark 155 = .ok (.aload_n 0, 1) := by decide +kernel
theorem dX4_mark_156 : decode cX4_mark 156 = .ok (.getfield 21, 3) := by decide +kernel
theorem dX4_mark_159 : decode cX4_mark 159 = .ok (.getfield 161, 3) := by decide +kernel
theorem dX4_mark_162 : decode cX4_mark 162 = .ok (.invokestatic 164, 3) := by decide +kernel
theorem dX4_mark_165 : decode cX4_mark 165 = .ok (.isub, 1) := by decide +kernel
theorem dX4_mark_166 : decode cX4_mark 166 = .ok (.invokestatic 167, 3) := by decide +kernel
theorem dX4_mark_169 : decode cX4_mark 169 = .ok (.ireturn, 1) := by decide +kernel
theorem dX4_coast_0 : decode cX4_coast 0 = .ok (.iload_n 1, 1) := by decide +kernel
theorem dX4_coast_1 : decode cX4_coast 1 = .ok (.ifCond .lt 8, 3) := by decide +kernel
theorem dX4_coast_4 : decode cX4_coast 4 = .ok (.iload_n 1, 1) := by decide +kernel
theorem dX4_coast_5 : decode cX4_coast 5 = .ok (.iconst 5, 1) := by decide +kernel
theorem dX4_coast_6 : decode cX4_coast 6 = .ok (.if_icmp .le 5, 3) := by decide +kernel
theorem dX4_coast_9 : decode cX4_coast 9 = .ok (.iconst (-1), 1) := by decide +kernel
theorem dX4_coast_10 : decode cX4_coast 10 = .ok (.ireturn, 1) := by decide +kernel
theorem dX4_coast_11 : decode cX4_coast 11 = .ok (.aload_n 0, 1) := by decide +kernel
theorem dX4_coast_12 : decode cX4_coast 12 = .ok (.getfield 21, 3) := by decide +kernel
theorem dX4_coast_15 : decode cX4_coast 15 = .ok (.invokevirtual 170, 3) := by decide +kernel
theorem dX4_coast_18 : decode cX4_coast 18 = .ok (.ifCond .ne 6, 3) := by decide +kernel
theorem dX4_coast_21 : decode cX4_coast 21 = .ok (.bipush (-4), 2) := by decide +kernel
theorem dX4_coast_23 : decode cX4_coast 23 = .ok (.ireturn, 1) := by decide +kernel
theorem dX4_coast_24 : decode cX4_coast 24 = .ok (.aload_n 0, 1) := by decide +kernel
theorem dX4_coast_25 : decode cX4_coast 25 = .ok (.getfield 21, 3) := by decide +kernel
theorem dX4_coast_28 : decode cX4_coast 28 = .ok (.getfield 158, 3) := by decide +kernel
theorem dX4_coast_31 : decode cX4_coast 31 = .ok (.istore_n 2, 1) := by decide +kernel
theorem dX4_coast_32 : decode cX4_coast 32 = .ok (.aload_n 0, 1) := by decide +kernel
theorem dX4_coast_33 : decode cX4_coast 33 = .ok (.getfield 21, 3) := by decide +kernel
theorem dX4_coast_36 : decode cX4_coast 36 = .ok (.getfield 161, 3) := by decide +kernel
theorem dX4_coast_39 : decode cX4_coast 39 = .ok (.istore_n 3, 1) := by decide +kernel
theorem dX4_coast_40 : decode cX4_coast 40 = .ok (.iload_n 1, 1) := by decide +kernel
theorem dX4_coast_41 : decode cX4_coast 41 = .ok (.tableswitch 67 0 4 #[35, 37, 39, 47, 57], 35) := by decide +kernel
theorem dX4_coast_76 : decode cX4_coast 76 = .ok (.iload_n 2, 1) := by decide +kernel
theorem dX4_coast_77 : decode cX4_coast 77 = .ok (.ireturn, 1) := by decide +kernel
theorem dX4_coast_78 : decode cX4_coast 78 = .ok (.iload_n 3, 1) := by decide +kernel
theorem dX4_coast_79 : decode cX4_coast 79 = .ok (.ireturn, 1) := by decide +kernel
theorem dX4_coast_80 : decode cX4_coast 80 = .ok (.aload_n 0, 1) := by decide +kernel
theorem dX4_coast_81 : decode cX4_coast 81 = .ok (.getfield 21, 3) := by decide +kernel
theorem dX4_coast_84 : decode cX4_coast 84 = .ok (.invokevirtual 146, 3) := by decide +kernel
theorem dX4_coast_87 : decode cX4_coast 87 = .ok (.ireturn, 1) := by decide +kernel
theorem dX4_coast_88 : decode cX4_coast 88 = .ok (.aload_n 0, 1) := by decide +kernel
theorem dX4_coast_89 : decode cX4_coast 89 = .ok (.getfield 21, 3) := by decide +kernel
theorem dX4_coast_92 : decode cX4_coast 92 = .ok (.iload_n 2, 1) := by decide +kernel
theorem dX4_coast_93 : decode cX4_coast 93 = .ok (.iload_n 3, 1) := by decide +kernel
theorem dX4_coast_94 : decode cX4_coast 94 = .ok (.invokevirtual 173, 3) := by decide +kernel
theorem dX4_coast_97 : decode cX4_coast 97 = .ok (.ireturn, 1) := by decide +kernel
theorem dX4_coast_98 : decode cX4_coast 98 = .ok (.aload_n 0, 1) := by decide +kernel
theorem dX4_coast_99 : decode cX4_coast 99 = .ok (.getfield 21, 3) := by decide +kernel
theorem dX4_coast_102 : decode cX4_coast 102 = .ok (.iload_n 2, 1) := by decide +kernel
theorem dX4_coast_103 : decode cX4_coast 103 = .ok (.iload_n 3, 1) := by decide +kernel
theorem dX4_coast_104 : decode cX4_coast 104 = .ok (.invokevirtual 176, 3) := by decide +kernel
theorem dX4_coast_107 : decode cX4_coast 107 = .ok (.ireturn, 1) := by decide +kernel
theorem dX4_coast_108 : decode cX4_coast 108 = .ok (.aload_n 0, 1) := by decide +kernel
theorem dX4_coast_109 : decode cX4_coast 109 = .ok (.getfield 21, 3) := by decide +kernel
theorem dX4_coast_112 : decode cX4_coast 112 = .ok (.iload_n 2, 1) := by decide +kernel
theorem dX4_coast_113 : decode cX4_coast 113 = .ok (.iload_n 3, 1) := by decide +kernel
theorem dX4_coast_114 : decode cX4_coast 114 = .ok (.invokevirtual 179, 3) := by decide +kernel
theorem dX4_coast_117 : decode cX4_coast 117 = .ok (.ireturn, 1) := by decide +kernel
theorem dX4_year_0 : decode cX4_year 0 = .ok (.aload_n 0, 1) := by decide +kernel
theorem dX4_year_1 : decode cX4_year 1 = .ok (.getfield 21, 3) := by decide +kernel
theorem dX4_year_4 : decode cX4_year 4 = .ok (.invokevirtual 170, 3) := by decide +kernel
theorem dX4_year_7 : decode cX4_year 7 = .ok (.ifCond .ne 6, 3) := by decide +kernel
theorem dX4_year_10 : decode cX4_year 10 = .ok (.bipush (-4), 2) := by decide +kernel
theorem dX4_year_12 : decode cX4_year 12 = .ok (.ireturn, 1) := by decide +kernel
theorem dX4_year_13 : decode cX4_year 13 = .ok (.aload_n 0, 1) := by decide +kernel
theorem dX4_year_14 : decode cX4_year 14 = .ok (.getfield 21, 3) := by decide +kernel
theorem dX4_year_17 : decode cX4_year 17 = .ok (.iconst 1, 1) := by decide +kernel
theorem dX4_year_18 : decode cX4_year 18 = .ok (.invokevirtual 182, 3) := by decide +kernel
theorem dX4_year_21 : decode cX4_year 21 = .ok (.ifCond .ne 6, 3) := by decide +kernel
theorem dX4_year_24 : decode cX4_year 24 = .ok (.bipush (-2), 2) := by decide +kernel
theorem dX4_year_26 : decode cX4_year 26 = .ok (.ireturn, 1) := by decide +kernel
theorem dX4_year_27 : decode cX4_year 27 = .ok (.aload_n 0, 1) := by decide +kernel
theorem dX4_year_28 : decode cX4_year 28 = .ok (.getfield 21, 3) := by decide +kernel
theorem dX4_year_31 : decode cX4_year 31 = .ok (.invokevirtual 185, 3) := by decide +kernel
theorem dX4_year_34 : decode cX4_year 34 = .ok (.aload_n 0, 1) := by decide +kernel
theorem dX4_year_35 : decode cX4_year 35 = .ok (.getfield 21, 3) := by decide +kernel
theorem dX4_year_38 : decode cX4_year 38 = .ok (.invokevirtual 146, 3) := by decide +kernel
theorem dX4_year_41 : decode cX4_year 41 = .ok (.ireturn, 1) := by decide +kernel
theorem dX4_step_0 : decode cX4_step 0 = .ok (.iload_n 1, 1) := by decide +kernel
theorem dX4_step_1 : decode cX4_step 1 = .ok (.ifCond .eq 8, 3) := by decide +kernel
theorem dX4_step_4 : decode cX4_step 4 = .ok (.iload_n 1, 1) := by decide +kernel
theorem dX4_step_5 : decode cX4_step 5 = .ok (.iconst 1, 1) := by decide +kernel
theorem dX4_step_6 : decode cX4_step 6 = .ok (.if_icmp .ne 13, 3) := by decide +kernel
theorem dX4_step_9 : decode cX4_step 9 = .ok (.iload_n 2, 1) := by decide +kernel
theorem dX4_step_10 : decode cX4_step 10 = .ok (.iconst 1, 1) := by decide +kernel
theorem dX4_step_11 : decode cX4_step 11 = .ok (.if_icmp .eq 10, 3) := by decide +kernel
theorem dX4_step_14 : decode cX4_step 14 = .ok (.iload_n 2, 1) := by decide +kernel
theorem dX4_step_15 : decode cX4_step 15 = .ok (.iconst (-1), 1) := by decide +kernel
theorem dX4_step_16 : decode cX4_step 16 = .ok (.if_icmp .eq 5, 3) := by decide +kernel
theorem dX4_step_19 : decode cX4_step 19 = .ok (.iconst (-1), 1) := by decide +kernel
theorem dX4_step_20 : decode cX4_step 20 = .ok (.ireturn, 1) := by decide +kernel
theorem dX4_step_21 : decode cX4_step 21 = .ok (.aload_n 0, 1) := by decide +kernel
theorem dX4_step_22 : decode cX4_step 22 = .ok (.getfield 21, 3) := by decide +kernel
theorem dX4_step_25 : decode cX4_step 25 = .ok (.invokevirtual 170, 3) := by decide +kernel
theorem dX4_step_28 : decode cX4_step 28 = .ok (.ifCond .eq 29, 3) := by decide +kernel
theorem dX4_step_31 : decode cX4_step 31 = .ok (.aload_n 0, 1) := by decide +kernel
theorem dX4_step_32 : decode cX4_step 32 = .ok (.getfield 21, 3) := by decide +kernel
theorem dX4_step_35 : decode cX4_step 35 = .ok (.iload_n 1, 1) := by decide +kernel
theorem dX4_step_36 : decode cX4_step 36 = .ok (.iload_n 2, 1) := by decide +kernel
theorem dX4_step_37 : decode cX4_step 37 = .ok (.aload_n 0, 1) := by decide +kernel
theorem dX4_step_38 : decode cX4_step 38 = .ok (.getfield 21, 3) := by decide +kernel
theorem dX4_step_41 : decode cX4_step 41 = .ok (.getfield 158, 3) := by decide +kernel
theorem dX4_step_44 : decode cX4_step 44 = .ok (.aload_n 0, 1) := by decide +kernel
theorem dX4_step_45 : decode cX4_step 45 = .ok (.getfield 21, 3) := by decide +kernel
theorem dX4_step_48 : decode cX4_step 48 = .ok (.getfield 161, 3) := by decide +kernel
theorem dX4_step_51 : decode cX4_step 51 = .ok (.invokevirtual 188, 3) := by decide +kernel
theorem dX4_step_54 : decode cX4_step 54 = .ok (.ifCond .ne 6, 3) := by decide +kernel
theorem dX4_step_57 : decode cX4_step 57 = .ok (.bipush (-4), 2) := by decide +kernel
theorem dX4_step_59 : decode cX4_step 59 = .ok (.ireturn, 1) := by decide +kernel
theorem dX4_step_60 : decode cX4_step 60 = .ok (.aload_n 0, 1) := by decide +kernel
theorem dX4_step_61 : decode cX4_step 61 = .ok (.getfield 21, 3) := by decide +kernel
theorem dX4_step_64 : decode cX4_step 64 = .ok (.iconst 1, 1) := by decide +kernel
theorem dX4_step_65 : decode cX4_step 65 = .ok (.invokevirtual 182, 3) := by decide +kernel
theorem dX4_step_68 : decode cX4_step 68 = .ok (.ifCond .ne 6, 3) := by decide +kernel
theorem dX4_step_71 : decode cX4_step 71 = .ok (.bipush (-2), 2) := by decide +kernel
theorem dX4_step_73 : decode cX4_step 73 = .ok (.ireturn, 1) := by decide +kernel
theorem dX4_step_74 : decode cX4_step 74 = .ok (.aload_n 0, 1) := by decide +kernel
theorem dX4_step_75 : decode cX4_step 75 = .ok (.getfield 21, 3) := by decide +kernel
theorem dX4_step_78 : decode cX4_step 78 = .ok (.iload_n 1, 1) := by decide +kernel
theorem dX4_step_79 : decode cX4_step 79 = .ok (.ifCond .ne 8, 3) := by decide +kernel
theorem dX4_step_82 : decode cX4_step 82 = .ok (.iload_n 2, 1) := by decide +kernel
theorem dX4_step_83 : decode cX4_step 83 = .ok (.ineg, 1) := by decide +kernel
theorem dX4_step_84 : decode cX4_step 84 = .ok (.goto 4, 3) := by decide +kernel
theorem dX4_step_87 : decode cX4_step 87 = .ok (.iconst 0, 1) := by decide +kernel
theorem dX4_step_88 : decode cX4_step 88 = .ok (.iload_n 1, 1) := by decide +kernel
theorem dX4_step_89 : decode cX4_step 89 = .ok (.iconst 1, 1) := by decide +kernel
theorem dX4_step_90 : decode cX4_step 90 = .ok (.if_icmp .ne 7, 3) := by decide +kernel
theorem dX4_step_93 : decode cX4_step 93 = .ok (.iload_n 2, 1) := by decide +kernel
theorem dX4_step_94 : decode cX4_step 94 = .ok (.goto 4, 3) := by decide +kernel
theorem dX4_step_97 : decode cX4_step 97 = .ok (.iconst 0, 1) := by decide +kernel
theorem dX4_step_98 : decode cX4_step 98 = .ok (.iconst 0, 1) := by decide +kernel
theorem dX4_step_99 : decode cX4_step 99 = .ok (.iconst 0, 1) := by decide +kernel
theorem dX4_step_100 : decode cX4_step 100 = .ok (.iconst 0, 1) := by decide +kernel
theorem dX4_step_101 : decode cX4_step 101 = .ok (.invokevirtual 192, 3) := by decide +kernel
theorem dX4_step_104 : decode cX4_step 104 = .ok (.aload_n 0, 1) := by decide +kernel
theorem dX4_step_105 : decode cX4_step 105 = .ok (.getfield 21, 3) := by decide +kernel
theorem dX4_step_108 : decode cX4_step 108 = .ok (.invokevirtual 146, 3) := by decide +kernel
theorem dX4_step_111 : decode cX4_step 111 = .ok (.ireturn, 1) := by decide +kernel
theorem dX4_walk_0 : decode cX4_walk 0 = .ok (.aload_n 0, 1) := by decide +kernel
theorem dX4_walk_1 : decode cX4_walk 1 = .ok (.getfield 21, 3) := by decide +kernel
theorem dX4_walk_4 : decode cX4_walk 4 = .ok (.iload_n 1, 1) := by decide +kernel
theorem dX4_walk_5 : decode cX4_walk 5 = .ok (.invokevirtual 127, 3) := by decide +kernel
theorem dX4_walk_8 : decode cX4_walk 8 = .ok (.ifCond .eq 14, 3) := by decide +kernel
theorem dX4_walk_11 : decode cX4_walk 11 = .ok (.aload_n 0, 1) := by decide +kernel
theorem dX4_walk_12 : decode cX4_walk 12 = .ok (.getfield 21, 3) := by decide +kernel
theorem dX4_walk_15 : decode cX4_walk 15 = .ok (.iload_n 2, 1) := by decide +kernel
theorem dX4_walk_16 : decode cX4_walk 16 = .ok (.invokevirtual 196, 3) := by decide +kernel
theorem dX4_walk_19 : decode cX4_walk 19 = .ok (.ifCond .ne 5, 3) := by decide +kernel
theorem dX4_walk_22 : decode cX4_walk 22 = .ok (.iconst (-1), 1) := by decide +kernel
theorem dX4_walk_23 : decode cX4_walk 23 = .ok (.ireturn, 1) := by decide +kernel
theorem dX4_walk_24 : decode cX4_walk 24 = .ok (.iload_n 2, 1) := by decide +kernel
theorem dX4_walk_25 : decode cX4_walk 25 = .ok (.aload_n 0, 1) := by decide +kernel
theorem dX4_walk_26 : decode cX4_walk 26 = .ok (.getfield 21, 3) := by decide +kernel
theorem dX4_walk_29 : decode cX4_walk 29 = .ok (.getfield 137, 3) := by decide +kernel
theorem dX4_walk_32 : decode cX4_walk 32 = .ok (.iload_n 1, 1) := by decide +kernel
theorem dX4_walk_33 : decode cX4_walk 33 = .ok (.iaload, 1) := by decide +kernel
theorem dX4_walk_34 : decode cX4_walk 34 = .ok (.isub, 1) := by decide +kernel
theorem dX4_walk_35 : decode cX4_walk 35 = .ok (.istore_n 3, 1) := by decide +kernel
theorem dX4_walk_36 : decode cX4_walk 36 = .ok (.iload_n 3, 1) := by decide +kernel
theorem dX4_walk_37 : decode cX4_walk 37 = .ok (.iconst 1, 1) := by decide +kernel
theorem dX4_walk_38 : decode cX4_walk 38 = .ok (.if_icmp .eq 11, 3) := by decide +kernel
theorem dX4_walk_41 : decode cX4_walk 41 = .ok (.iload_n 3, 1) := by decide +kernel
theorem dX4_walk_42 : decode cX4_walk 42 = .ok (.iconst (-1), 1) := by decide +kernel
theorem dX4_walk_43 : decode cX4_walk 43 = .ok (.if_icmp .eq 6, 3) := by decide +kernel
theorem dX4_walk_46 : decode cX4_walk 46 = .ok (.bipush (-4), 2) := by decide +kernel
theorem dX4_walk_48 : decode cX4_walk 48 = .ok (.ireturn, 1) := by decide +kernel
theorem dX4_walk_49 : decode cX4_walk 49 = .ok (.aload_n 0, 1) := by decide +kernel
theorem dX4_walk_50 : decode cX4_walk 50 = .ok (.getfield 21, 3) := by decide +kernel
theorem dX4_walk_53 : decode cX4_walk 53 = .ok (.iconst 1, 1) := by decide +kernel
theorem dX4_walk_54 : decode cX4_walk 54 = .ok (.invokevirtual 182, 3) := by decide +kernel
theorem dX4_walk_57 : decode cX4_walk 57 = .ok (.ifCond .ne 6, 3) := by decide +kernel
theorem dX4_walk_60 : decode cX4_walk 60 = .ok (.bipush (-2), 2) := by decide +kernel
theorem dX4_walk_62 : decode cX4_walk 62 = .ok (.ireturn, 1) := by decide +kernel
theorem dX4_walk_63 : decode cX4_walk 63 = .ok (.aload_n 0, 1) := by decide +kernel
theorem dX4_walk_64 : decode cX4_walk 64 = .ok (.getfield 21, 3) := by decide +kernel
theorem dX4_walk_67 : decode cX4_walk 67 = .ok (.iconst 0, 1) := by decide +kernel
theorem dX4_walk_68 : decode cX4_walk 68 = .ok (.iconst 0, 1) := by decide +kernel
theorem dX4_walk_69 : decode cX4_walk 69 = .ok (.iconst 0, 1) := by decide +kernel
theorem dX4_walk_70 : decode cX4_walk 70 = .ok (.iload_n 1, 1) := by decide +kernel
theorem dX4_walk_71 : decode cX4_walk 71 = .ok (.iload_n 3, 1) := by decide +kernel
theorem dX4_walk_72 : decode cX4_walk 72 = .ok (.invokevirtual 192, 3) := by decide +kernel
theorem dX4_walk_75 : decode cX4_walk 75 = .ok (.aload_n 0, 1) := by decide +kernel
theorem dX4_walk_76 : decode cX4_walk 76 = .ok (.getfield 21, 3) := by decide +kernel
theorem dX4_walk_79 : decode cX4_walk 79 = .ok (.iload_n 1, 1) := by decide +kernel
theorem dX4_walk_80 : decode cX4_walk 80 = .ok (.invokevirtual 199, 3) := by decide +kernel
theorem dX4_walk_83 : decode cX4_walk 83 = .ok (.ifCond .eq 7, 3) := by decide +kernel
theorem dX4_walk_86 : decode cX4_walk 86 = .ok (.iconst 1, 1) := by decide +kernel
theorem dX4_walk_87 : decode cX4_walk 87 = .ok (.goto 4, 3) := by decide +kernel
theorem dX4_walk_90 : decode cX4_walk 90 = .ok (.iconst 0, 1) := by decide +kernel
theorem dX4_walk_91 : decode cX4_walk 91 = .ok (.ireturn, 1) := by decide +kernel
theorem dX4_undo_0 : decode cX4_undo 0 = .ok (.iload_n 1, 1) := by decide +kernel
theorem dX4_undo_1 : decode cX4_undo 1 = .ok (.ifCond .lt 17, 3) := by decide +kernel
theorem dX4_undo_4 : decode cX4_undo 4 = .ok (.iload_n 1, 1) := by decide +kernel
theorem dX4_undo_5 : decode cX4_undo 5 = .ok (.aload_n 0, 1) := by decide +kernel
theorem dX4_undo_6 : decode cX4_undo 6 = .ok (.getfield 21, 3) := by decide +kernel
theorem dX4_undo_9 : decode cX4_undo 9 = .ok (.getfield 202, 3) := by decide +kernel
theorem dX4_undo_12 : decode cX4_undo 12 = .ok (.getfield 206, 3) := by decide +kernel
theorem dX4_undo_15 : decode cX4_undo 15 = .ok (.if_icmp .le 5, 3) := by decide +kernel
theorem dX4_undo_18 : decode cX4_undo 18 = .ok (.iconst (-1), 1) := by decide +kernel
theorem dX4_undo_19 : decode cX4_undo 19 = .ok (.ireturn, 1) := by decide +kernel
theorem dX4_undo_20 : decode cX4_undo 20 = .ok (.aload_n 0, 1) := by decide +kernel
theorem dX4_undo_21 : decode cX4_undo 21 = .ok (.getfield 21, 3) := by decide +kernel
theorem dX4_undo_24 : decode cX4_undo 24 = .ok (.getfield 202, 3) := by decide +kernel
theorem dX4_undo_27 : decode cX4_undo 27 = .ok (.getfield 206, 3) := by decide +kernel
theorem dX4_undo_30 : decode cX4_undo 30 = .ok (.iload_n 1, 1) := by decide +kernel
theorem dX4_undo_31 : decode cX4_undo 31 = .ok (.isub, 1) := by decide +kernel
theorem dX4_undo_32 : decode cX4_undo 32 = .ok (.istore_n 2, 1) := by decide +kernel
theorem dX4_undo_33 : decode cX4_undo 33 = .ok (.aload_n 0, 1) := by decide +kernel
theorem dX4_undo_34 : decode cX4_undo 34 = .ok (.getfield 21, 3) := by decide +kernel
theorem dX4_undo_37 : decode cX4_undo 37 = .ok (.iload_n 2, 1) := by decide +kernel
theorem dX4_undo_38 : decode cX4_undo 38 = .ok (.invokevirtual 211, 3) := by decide +kernel
theorem dX4_undo_41 : decode cX4_undo 41 = .ok (.iload_n 2, 1) := by decide +kernel
theorem dX4_undo_42 : decode cX4_undo 42 = .ok (.ireturn, 1) := by decide +kernel
theorem dX4_keep_0 : decode cX4_keep 0 = .ok (.iload_n 1, 1) := by decide +kernel
theorem dX4_keep_1 : decode cX4_keep 1 = .ok (.invokestatic 215, 3) := by decide +kernel
theorem dX4_keep_4 : decode cX4_keep 4 = .ok (.ifCond .ne 5, 3) := by decide +kernel
theorem dX4_keep_7 : decode cX4_keep 7 = .ok (.iconst (-1), 1) := by decide +kernel
theorem dX4_keep_8 : decode cX4_keep 8 = .ok (.ireturn, 1) := by decide +kernel
theorem dX4_keep_9 : decode cX4_keep 9 = .ok (.aload_n 0, 1) := by decide +kernel
theorem dX4_keep_10 : decode cX4_keep 10 = .ok (.getfield 21, 3) := by decide +kernel
theorem dX4_keep_13 : decode cX4_keep 13 = .ok (.invokevirtual 170, 3) := by decide +kernel
theorem dX4_keep_16 : decode cX4_keep 16 = .ok (.ifCond .ne 6, 3) := by decide +kernel
theorem dX4_keep_19 : decode cX4_keep 19 = .ok (.bipush (-4), 2) := by decide +kernel
theorem dX4_keep_21 : decode cX4_keep 21 = .ok (.ireturn, 1) := by decide +kernel
theorem dX4_keep_22 : decode cX4_keep 22 = .ok (.aload_n 0, 1) := by decide +kernel
theorem dX4_keep_23 : decode cX4_keep 23 = .ok (.getfield 25, 3) := by decide +kernel
theorem dX4_keep_26 : decode cX4_keep 26 = .ok (.iload_n 1, 1) := by decide +kernel
theorem dX4_keep_27 : decode cX4_keep 27 = .ok (.aaload, 1) := by decide +kernel
theorem dX4_keep_28 : decode cX4_keep 28 = .ok (.aload_n 0, 1) := by decide +kernel
theorem dX4_keep_29 : decode cX4_keep 29 = .ok (.getfield 21, 3) := by decide +kernel
theorem dX4_keep_32 : decode cX4_keep 32 = .ok (.invokevirtual 117, 3) := by decide +kernel
theorem dX4_keep_35 : decode cX4_keep 35 = .ok (.aload_n 0, 1) := by decide +kernel
theorem dX4_keep_36 : decode cX4_keep 36 = .ok (.getfield 21, 3) := by decide +kernel
theorem dX4_keep_39 : decode cX4_keep 39 = .ok (.getfield 202, 3) := by decide +kernel
theorem dX4_keep_42 : decode cX4_keep 42 = .ok (.getfield 206, 3) := by decide +kernel
theorem dX4_keep_45 : decode cX4_keep 45 = .ok (.ireturn, 1) := by decide +kernel
theorem dX4_on_0 : decode cX4_on 0 = .ok (.iload_n 1, 1) := by decide +kernel
theorem dX4_on_1 : decode cX4_on 1 = .ok (.invokestatic 215, 3) := by decide +kernel
theorem dX4_on_4 : decode cX4_on 4 = .ok (.ifCond .ne 5, 3) := by decide +kernel
theorem dX4_on_7 : decode cX4_on 7 = .ok (.iconst (-1), 1) := by decide +kernel
theorem dX4_on_8 : decode cX4_on 8 = .ok (.ireturn, 1) := by decide +kernel
theorem dX4_on_9 : decode cX4_on 9 = .ok (.aload_n 0, 1) := by decide +kernel
theorem dX4_on_10 : decode cX4_on 10 = .ok (.getfield 25, 3) := by decide +kernel
theorem dX4_on_13 : decode cX4_on 13 = .ok (.iload_n 1, 1) := by decide +kernel
theorem dX4_on_14 : decode cX4_on 14 = .ok (.aaload, 1) := by decide +kernel
theorem dX4_on_15 : decode cX4_on 15 = .ok (.invokevirtual 170, 3) := by decide +kernel
theorem dX4_on_18 : decode cX4_on 18 = .ok (.ifCond .ne 9, 3) := by decide +kernel
theorem dX4_on_21 : decode cX4_on 21 = .ok (.aload_n 0, 1) := by decide +kernel
theorem dX4_on_22 : decode cX4_on 22 = .ok (.iconst 1, 1) := by decide +kernel
theorem dX4_on_23 : decode cX4_on 23 = .ok (.invokevirtual 67, 3) := by decide +kernel
theorem dX4_on_26 : decode cX4_on 26 = .ok (.ireturn, 1) := by decide +kernel
theorem dX4_on_27 : decode cX4_on 27 = .ok (.aload_n 0, 1) := by decide +kernel
theorem dX4_on_28 : decode cX4_on 28 = .ok (.getfield 21, 3) := by decide +kernel
theorem dX4_on_31 : decode cX4_on 31 = .ok (.aload_n 0, 1) := by decide +kernel
theorem dX4_on_32 : decode cX4_on 32 = .ok (.getfield 25, 3) := by decide +kernel
theorem dX4_on_35 : decode cX4_on 35 = .ok (.iload_n 1, 1) := by decide +kernel
theorem dX4_on_36 : decode cX4_on 36 = .ok (.aaload, 1) := by decide +kernel
theorem dX4_on_37 : decode cX4_on 37 = .ok (.invokevirtual 117, 3) := by decide +kernel
theorem dX4_on_40 : decode cX4_on 40 = .ok (.aload_n 0, 1) := by decide +kernel
theorem dX4_on_41 : decode cX4_on 41 = .ok (.getfield 21, 3) := by decide +kernel
theorem dX4_on_44 : decode cX4_on 44 = .ok (.getfield 202, 3) := by decide +kernel
theorem dX4_on_47 : decode cX4_on 47 = .ok (.getfield 206, 3) := by decide +kernel
theorem dX4_on_50 : decode cX4_on 50 = .ok (.ireturn, 1) := by decide +kernel
theorem dX4_belong_0 : decode cX4_belong 0 = .ok (.aload_n 0, 1) := by decide +kernel
theorem dX4_belong_1 : decode cX4_belong 1 = .ok (.getfield 21, 3) := by decide +kernel
theorem dX4_belong_4 : decode cX4_belong 4 = .ok (.aload_n 0, 1) := by decide +kernel
theorem dX4_belong_5 : decode cX4_belong 5 = .ok (.getfield 21, 3) := by decide +kernel
theorem dX4_belong_8 : decode cX4_belong 8 = .ok (.getfield 158, 3) := by decide +kernel
theorem dX4_belong_11 : decode cX4_belong 11 = .ok (.aload_n 0, 1) := by decide +kernel
theorem dX4_belong_12 : decode cX4_belong 12 = .ok (.getfield 21, 3) := by decide +kernel
theorem dX4_belong_15 : decode cX4_belong 15 = .ok (.getfield 161, 3) := by decide +kernel
theorem dX4_belong_18 : decode cX4_belong 18 = .ok (.invokevirtual 218, 3) := by decide +kernel
theorem dX4_belong_21 : decode cX4_belong 21 = .ok (.ireturn, 1) := by decide +kernel
theorem dX4_laws_0 : decode cX4_laws 0 = .ok (.aload_n 0, 1) := by decide +kernel
theorem dX4_laws_1 : decode cX4_laws 1 = .ok (.getfield 21, 3) := by decide +kernel
theorem dX4_laws_4 : decode cX4_laws 4 = .ok (.invokevirtual 170, 3) := by decide +kernel
theorem dX4_laws_7 : decode cX4_laws 7 = .ok (.ifCond .ne 6, 3) := by decide +kernel
theorem dX4_laws_10 : decode cX4_laws 10 = .ok (.bipush (-4), 2) := by decide +kernel
theorem dX4_laws_12 : decode cX4_laws 12 = .ok (.ireturn, 1) := by decide +kernel
theorem dX4_laws_13 : decode cX4_laws 13 = .ok (.bipush 7, 2) := by decide +kernel
theorem dX4_laws_15 : decode cX4_laws 15 = .ok (.aload_n 0, 1) := by decide +kernel
theorem dX4_laws_16 : decode cX4_laws 16 = .ok (.getfield 21, 3) := by decide +kernel
theorem dX4_laws_19 : decode cX4_laws 19 = .ok (.getfield 221, 3) := by decide +kernel
theorem dX4_laws_22 : decode cX4_laws 22 = .ok (.aload_n 0, 1) := by decide +kernel
theorem dX4_laws_23 : decode cX4_laws 23 = .ok (.getfield 21, 3) := by decide +kernel
theorem dX4_laws_26 : decode cX4_laws 26 = .ok (.getfield 224, 3) := by decide +kernel
theorem dX4_laws_29 : decode cX4_laws 29 = .ok (.ior, 1) := by decide +kernel
theorem dX4_laws_30 : decode cX4_laws 30 = .ok (.iconst (-1), 1) := by decide +kernel
theorem dX4_laws_31 : decode cX4_laws 31 = .ok (.ixor, 1) := by decide +kernel
theorem dX4_laws_32 : decode cX4_laws 32 = .ok (.iand, 1) := by decide +kernel
theorem dX4_laws_33 : decode cX4_laws 33 = .ok (.istore_n 1, 1) := by decide +kernel
theorem dX4_laws_34 : decode cX4_laws 34 = .ok (.aload_n 0, 1) := by decide +kernel
theorem dX4_laws_35 : decode cX4_laws 35 = .ok (.getfield 21, 3) := by decide +kernel
theorem dX4_laws_38 : decode cX4_laws 38 = .ok (.aload_n 0, 1) := by decide +kernel
theorem dX4_laws_39 : decode cX4_laws 39 = .ok (.getfield 21, 3) := by decide +kernel
theorem dX4_laws_42 : decode cX4_laws 42 = .ok (.getfield 158, 3) := by decide +kernel
theorem dX4_laws_45 : decode cX4_laws 45 = .ok (.aload_n 0, 1) := by decide +kernel
theorem dX4_laws_46 : decode cX4_laws 46 = .ok (.getfield 21, 3) := by decide +kernel
theorem dX4_laws_49 : decode cX4_laws 49 = .ok (.getfield 161, 3) := by decide +kernel
theorem dX4_laws_52 : decode cX4_laws 52 = .ok (.invokevirtual 173, 3) := by decide +kernel
theorem dX4_laws_55 : decode cX4_laws 55 = .ok (.istore_n 2, 1) := by decide +kernel
theorem dX4_laws_56 : decode cX4_laws 56 = .ok (.iconst 0, 1) := by decide +kernel
theorem dX4_laws_57 : decode cX4_laws 57 = .ok (.istore_n 3, 1) := by decide +kernel
theorem dX4_laws_58 : decode cX4_laws 58 = .ok (.iconst 1, 1) := by decide +kernel
theorem dX4_laws_59 : decode cX4_laws 59 = .ok (.istore 4, 2) := by decide +kernel
theorem dX4_laws_61 : decode cX4_laws 61 = .ok (.iload 4, 2) := by decide +kernel
theorem dX4_laws_63 : decode cX4_laws 63 = .ok (.bipush 7, 2) := by decide +kernel
theorem dX4_laws_65 : decode cX4_laws 65 = .ok (.if_icmp .gt 39, 3) := by decide +kernel
theorem dX4_laws_68 : decode cX4_laws 68 = .ok (.iload_n 1, 1) := by decide +kernel
theorem dX4_laws_69 : decode cX4_laws 69 = .ok (.iload 4, 2) := by decide +kernel
theorem dX4_laws_71 : decode cX4_laws 71 = .ok (.iand, 1) := by decide +kernel
theorem dX4_laws_72 : decode cX4_laws 72 = .ok (.ifCond .eq 23, 3) := by decide +kernel
theorem dX4_laws_75 : decode cX4_laws 75 = .ok (.iconst 2, 1) := by decide +kernel
theorem dX4_laws_76 : decode cX4_laws 76 = .ok (.aload_n 0, 1) := by decide +kernel
theorem dX4_laws_77 : decode cX4_laws 77 = .ok (.getfield 21, 3) := by decide +kernel
theorem dX4_laws_80 : decode cX4_laws 80 = .ok (.iload 4, 2) := by decide +kernel
theorem dX4_laws_82 : decode cX4_laws 82 = .ok (.invokevirtual 227, 3) := by decide +kernel
theorem dX4_laws_85 : decode cX4_laws 85 = .ok (.imul, 1) := by decide +kernel
theorem dX4_laws_86 : decode cX4_laws 86 = .ok (.iload_n 2, 1) := by decide +kernel
theorem dX4_laws_87 : decode cX4_laws 87 = .ok (.if_icmp .le 8, 3) := by decide +kernel
theorem dX4_laws_90 : decode cX4_laws 90 = .ok (.iload_n 3, 1) := by decide +kernel
theorem dX4_laws_91 : decode cX4_laws 91 = .ok (.iload 4, 2) := by decide +kernel
theorem dX4_laws_93 : decode cX4_laws 93 = .ok (.ior, 1) := by decide +kernel
theorem dX4_laws_94 : decode cX4_laws 94 = .ok (.istore_n 3, 1) := by decide +kernel
theorem dX4_laws_95 : decode cX4_laws 95 = .ok (.iload 4, 2) := by decide +kernel
theorem dX4_laws_97 : decode cX4_laws 97 = .ok (.iconst 2, 1) := by decide +kernel
theorem dX4_laws_98 : decode cX4_laws 98 = .ok (.imul, 1) := by decide +kernel
theorem dX4_laws_99 : decode cX4_laws 99 = .ok (.istore 4, 2) := by decide +kernel
theorem dX4_laws_101 : decode cX4_laws 101 = .ok (.goto (-40), 3) := by decide +kernel
theorem dX4_laws_104 : decode cX4_laws 104 = .ok (.aload_n 0, 1) := by decide +kernel
theorem dX4_laws_105 : decode cX4_laws 105 = .ok (.iload_n 3, 1) := by decide +kernel
theorem dX4_laws_106 : decode cX4_laws 106 = .ok (.putfield 50, 3) := by decide +kernel
theorem dX4_laws_109 : decode cX4_laws 109 = .ok (.iload_n 1, 1) := by decide +kernel
theorem dX4_laws_110 : decode cX4_laws 110 = .ok (.ireturn, 1) := by decide +kernel
theorem dX4_seats_0 : decode cX4_seats 0 = .ok (.iload_n 1, 1) := by decide +kernel
theorem dX4_seats_1 : decode cX4_seats 1 = .ok (.ifCond .lt 16, 3) := by decide +kernel
theorem dX4_seats_4 : decode cX4_seats 4 = .ok (.iload_n 1, 1) := by decide +kernel
theorem dX4_seats_5 : decode cX4_seats 5 = .ok (.bipush 20, 2) := by decide +kernel
theorem dX4_seats_7 : decode cX4_seats 7 = .ok (.if_icmp .gt 10, 3) := by decide +kernel
theorem dX4_seats_10 : decode cX4_seats 10 = .ok (.iload_n 2, 1) := by decide +kernel
theorem dX4_seats_11 : decode cX4_seats 11 = .ok (.invokestatic 63, 3) := by decide +kernel
theorem dX4_seats_14 : decode cX4_seats 14 = .ok (.ifCond .ne 5, 3) := by decide +kernel
theorem dX4_seats_17 : decode cX4_seats 17 = .ok (.iconst (-1), 1) := by decide +kernel
theorem dX4_seats_18 : decode cX4_seats 18 = .ok (.ireturn, 1) := by decide +kernel
theorem dX4_seats_19 : decode cX4_seats 19 = .ok (.aload_n 0, 1) := by decide +kernel
theorem dX4_seats_20 : decode cX4_seats 20 = .ok (.getfield 21, 3) := by decide +kernel
theorem dX4_seats_23 : decode cX4_seats 23 = .ok (.invokevirtual 170, 3) := by decide +kernel
theorem dX4_seats_26 : decode cX4_seats 26 = .ok (.ifCond .ne 6, 3) := by decide +kernel
theorem dX4_seats_29 : decode cX4_seats 29 = .ok (.bipush (-4), 2) := by decide +kernel
theorem dX4_seats_31 : decode cX4_seats 31 = .ok (.ireturn, 1) := by decide +kernel
theorem dX4_seats_32 : decode cX4_seats 32 = .ok (.aload_n 0, 1) := by decide +kernel
theorem dX4_seats_33 : decode cX4_seats 33 = .ok (.getfield 11, 3) := by decide +kernel
theorem dX4_seats_36 : decode cX4_seats 36 = .ok (.iload_n 2, 1) := by decide +kernel
theorem dX4_seats_37 : decode cX4_seats 37 = .ok (.aaload, 1) := by decide +kernel
theorem dX4_seats_38 : decode cX4_seats 38 = .ok (.astore_n 3, 1) := by decide +kernel
theorem dX4_seats_39 : decode cX4_seats 39 = .ok (.aload_n 3, 1) := by decide +kernel
theorem dX4_seats_40 : decode cX4_seats 40 = .ok (.aload_n 0, 1) := by decide +kernel
theorem dX4_seats_41 : decode cX4_seats 41 = .ok (.getfield 21, 3) := by decide +kernel
theorem dX4_seats_44 : decode cX4_seats 44 = .ok (.getfield 124, 3) := by decide +kernel
theorem dX4_seats_47 : decode cX4_seats 47 = .ok (.iconst 0, 1) := by decide +kernel
theorem dX4_seats_48 : decode cX4_seats 48 = .ok (.invokevirtual 71, 3) := by decide +kernel
theorem dX4_seats_51 : decode cX4_seats 51 = .ok (.iconst 0, 1) := by decide +kernel
theorem dX4_seats_52 : decode cX4_seats 52 = .ok (.istore 4, 2) := by decide +kernel
theorem dX4_seats_54 : decode cX4_seats 54 = .ok (.iconst 0, 1) := by decide +kernel
theorem dX4_seats_55 : decode cX4_seats 55 = .ok (.istore 5, 2) := by decide +kernel
theorem dX4_seats_57 : decode cX4_seats 57 = .ok (.iload 5, 2) := by decide +kernel
theorem dX4_seats_59 : decode cX4_seats 59 = .ok (.iload_n 1, 1) := by decide +kernel
theorem dX4_seats_60 : decode cX4_seats 60 = .ok (.if_icmp .ge 35, 3) := by decide +kernel
theorem dX4_seats_63 : decode cX4_seats 63 = .ok (.aload_n 0, 1) := by decide +kernel
theorem dX4_seats_64 : decode cX4_seats 64 = .ok (.aload_n 3, 1) := by decide +kernel
theorem dX4_seats_65 : decode cX4_seats 65 = .ok (.invokevirtual 230, 3) := by decide +kernel
theorem dX4_seats_68 : decode cX4_seats 68 = .ok (.istore 6, 2) := by decide +kernel
theorem dX4_seats_70 : decode cX4_seats 70 = .ok (.iload 6, 2) := by decide +kernel
theorem dX4_seats_72 : decode cX4_seats 72 = .ok (.ifCond .lt 17, 3) := by decide +kernel
theorem dX4_seats_75 : decode cX4_seats 75 = .ok (.aload_n 3, 1) := by decide +kernel
theorem dX4_seats_76 : decode cX4_seats 76 = .ok (.getfield 79, 3) := by decide +kernel
theorem dX4_seats_79 : decode cX4_seats 79 = .ok (.iload 6, 2) := by decide +kernel
theorem dX4_seats_81 : decode cX4_seats 81 = .ok (.dup2, 1) := by decide +kernel
theorem dX4_seats_82 : decode cX4_seats 82 = .ok (.iaload, 1) := by decide +kernel
theorem dX4_seats_83 : decode cX4_seats 83 = .ok (.iconst 1, 1) := by decide +kernel
theorem dX4_seats_84 : decode cX4_seats 84 = .ok (.iadd, 1) := by decide +kernel
theorem dX4_seats_85 : decode cX4_seats 85 = .ok (.iastore, 1) := by decide +kernel
theorem dX4_seats_86 : decode cX4_seats 86 = .ok (.iinc 4 1, 3) := by decide +kernel
theorem dX4_seats_89 : decode cX4_seats 89 = .ok (.iinc 5 1, 3) := by decide +kernel
theorem dX4_seats_92 : decode cX4_seats 92 = .ok (.goto (-35), 3) := by decide +kernel
theorem dX4_seats_95 : decode cX4_seats 95 = .ok (.iload 4, 2) := by decide +kernel
theorem dX4_seats_97 : decode cX4_seats 97 = .ok (.ireturn, 1) := by decide +kernel
theorem dX4_fewest_0 : decode cX4_fewest 0 = .ok (.aload_n 0, 1) := by decide +kernel
theorem dX4_fewest_1 : decode cX4_fewest 1 = .ok (.getfield 21, 3) := by decide +kernel
theorem dX4_fewest_4 : decode cX4_fewest 4 = .ok (.invokevirtual 170, 3) := by decide +kernel
theorem dX4_fewest_7 : decode cX4_fewest 7 = .ok (.ifCond .ne 6, 3) := by decide +kernel
theorem dX4_fewest_10 : decode cX4_fewest 10 = .ok (.bipush (-4), 2) := by decide +kernel
theorem dX4_fewest_12 : decode cX4_fewest 12 = .ok (.ireturn, 1) := by decide +kernel
theorem dX4_fewest_13 : decode cX4_fewest 13 = .ok (.aload_n 0, 1) := by decide +kernel
theorem dX4_fewest_14 : decode cX4_fewest 14 = .ok (.invokevirtual 234, 3) := by decide +kernel
theorem dX4_fewest_17 : decode cX4_fewest 17 = .ok (.istore_n 1, 1) := by decide +kernel
theorem dX4_fewest_18 : decode cX4_fewest 18 = .ok (.aload_n 0, 1) := by decide +kernel
theorem dX4_fewest_19 : decode cX4_fewest 19 = .ok (.getfield 21, 3) := by decide +kernel
theorem dX4_fewest_22 : decode cX4_fewest 22 = .ok (.iload_n 1, 1) := by decide +kernel
theorem dX4_fewest_23 : decode cX4_fewest 23 = .ok (.invokevirtual 237, 3) := by decide +kernel
theorem dX4_fewest_26 : decode cX4_fewest 26 = .ok (.istore_n 2, 1) := by decide +kernel
theorem dX4_fewest_27 : decode cX4_fewest 27 = .ok (.iconst 0, 1) := by decide +kernel
theorem dX4_fewest_28 : decode cX4_fewest 28 = .ok (.istore_n 3, 1) := by decide +kernel
theorem dX4_fewest_29 : decode cX4_fewest 29 = .ok (.iconst 1, 1) := by decide +kernel
theorem dX4_fewest_30 : decode cX4_fewest 30 = .ok (.istore 4, 2) := by decide +kernel
theorem dX4_fewest_32 : decode cX4_fewest 32 = .ok (.iload 4, 2) := by decide +kernel
theorem dX4_fewest_34 : decode cX4_fewest 34 = .ok (.iload_n 1, 1) := by decide +kernel
theorem dX4_fewest_35 : decode cX4_fewest 35 = .ok (.if_icmp .gt 52, 3) := by decide +kernel
theorem dX4_fewest_38 : decode cX4_fewest 38 = .ok (.iload 4, 2) := by decide +kernel
theorem dX4_fewest_40 : decode cX4_fewest 40 = .ok (.iload_n 1, 1) := by decide +kernel
theorem dX4_fewest_41 : decode cX4_fewest 41 = .ok (.iconst (-1), 1) := by decide +kernel
theorem dX4_fewest_42 : decode cX4_fewest 42 = .ok (.ixor, 1) := by decide +kernel
theorem dX4_fewest_43 : decode cX4_fewest 43 = .ok (.iand, 1) := by decide +kernel
theorem dX4_fewest_44 : decode cX4_fewest 44 = .ok (.ifCond .ne 37, 3) := by decide +kernel
theorem dX4_fewest_47 : decode cX4_fewest 47 = .ok (.iconst 2, 1) := by decide +kernel
theorem dX4_fewest_48 : decode cX4_fewest 48 = .ok (.aload_n 0, 1) := by decide +kernel
theorem dX4_fewest_49 : decode cX4_fewest 49 = .ok (.getfield 21, 3) := by decide +kernel
theorem dX4_fewest_52 : decode cX4_fewest 52 = .ok (.iload 4, 2) := by decide +kernel
theorem dX4_fewest_54 : decode cX4_fewest 54 = .ok (.invokevirtual 237, 3) := by decide +kernel
theorem dX4_fewest_57 : decode cX4_fewest 57 = .ok (.imul, 1) := by decide +kernel
theorem dX4_fewest_58 : decode cX4_fewest 58 = .ok (.iload_n 2, 1) := by decide +kernel
theorem dX4_fewest_59 : decode cX4_fewest 59 = .ok (.if_icmp .le 22, 3) := by decide +kernel
theorem dX4_fewest_62 : decode cX4_fewest 62 = .ok (.iload_n 3, 1) := by decide +kernel
theorem dX4_fewest_63 : decode cX4_fewest 63 = .ok (.ifCond .eq 15, 3) := by decide +kernel
theorem dX4_fewest_66 : decode cX4_fewest 66 = .ok (.iload 4, 2) := by decide +kernel
theorem dX4_fewest_68 : decode cX4_fewest 68 = .ok (.invokestatic 240, 3) := by decide +kernel
theorem dX4_fewest_71 : decode cX4_fewest 71 = .ok (.iload_n 3, 1) := by decide +kernel
theorem dX4_fewest_72 : decode cX4_fewest 72 = .ok (.invokestatic 240, 3) := by decide +kernel
theorem dX4_fewest_75 : decode cX4_fewest 75 = .ok (.if_icmp .ge 6, 3) := by decide +kernel
theorem dX4_fewest_78 : decode cX4_fewest 78 = .ok (.iload 4, 2) := by decide +kernel
theorem dX4_fewest_80 : decode cX4_fewest 80 = .ok (.istore_n 3, 1) := by decide +kernel
theorem dX4_fewest_81 : decode cX4_fewest 81 = .ok (.iinc 4 1, 3) := by decide +kernel
theorem dX4_fewest_84 : decode cX4_fewest 84 = .ok (.goto (-52), 3) := by decide +kernel
theorem dX4_fewest_87 : decode cX4_fewest 87 = .ok (.iload_n 3, 1) := by decide +kernel
theorem dX4_fewest_88 : decode cX4_fewest 88 = .ok (.ifCond .ne 6, 3) := by decide +kernel
theorem dX4_fewest_91 : decode cX4_fewest 91 = .ok (.bipush (-9), 2) := by decide +kernel
theorem dX4_fewest_93 : decode cX4_fewest 93 = .ok (.ireturn, 1) := by decide +kernel
theorem dX4_fewest_94 : decode cX4_fewest 94 = .ok (.aload_n 0, 1) := by decide +kernel
theorem dX4_fewest_95 : decode cX4_fewest 95 = .ok (.iload_n 3, 1) := by decide +kernel
theorem dX4_fewest_96 : decode cX4_fewest 96 = .ok (.putfield 50, 3) := by decide +kernel
theorem dX4_fewest_99 : decode cX4_fewest 99 = .ok (.iload_n 3, 1) := by decide +kernel
theorem dX4_fewest_100 : decode cX4_fewest 100 = .ok (.invokestatic 240, 3) := by decide +kernel
theorem dX4_fewest_103 : decode cX4_fewest 103 = .ok (.ireturn, 1) := by decide +kernel
theorem dX4_then_0 : decode cX4_then 0 = .ok (.iload_n 1, 1) := by decide +kernel
theorem dX4_then_1 : decode cX4_then 1 = .ok (.ifCond .lt 9, 3) := by decide +kernel
theorem dX4_then_4 : decode cX4_then 4 = .ok (.iload_n 1, 1) := by decide +kernel
theorem dX4_then_5 : decode cX4_then 5 = .ok (.bipush 30, 2) := by decide +kernel
theorem dX4_then_7 : decode cX4_then 7 = .ok (.if_icmp .le 5, 3) := by decide +kernel
theorem dX4_then_10 : decode cX4_then 10 = .ok (.iconst (-1), 1) := by decide +kernel
theorem dX4_then_11 : decode cX4_then 11 = .ok (.ireturn, 1) := by decide +kernel
theorem dX4_then_12 : decode cX4_then 12 = .ok (.aload_n 0, 1) := by decide +kernel
theorem dX4_then_13 : decode cX4_then 13 = .ok (.getfield 21, 3) := by decide +kernel
theorem dX4_then_16 : decode cX4_then 16 = .ok (.invokevirtual 170, 3) := by decide +kernel
theorem dX4_then_19 : decode cX4_then 19 = .ok (.ifCond .ne 6, 3) := by decide +kernel
theorem dX4_then_22 : decode cX4_then 22 = .ok (.bipush (-4), 2) := by decide +kernel
theorem dX4_then_24 : decode cX4_then 24 = .ok (.ireturn, 1) := by decide +kernel
theorem dX4_then_25 : decode cX4_then 25 = .ok (.aload_n 0, 1) := by decide +kernel
theorem dX4_then_26 : decode cX4_then 26 = .ok (.getfield 21, 3) := by decide +kernel
theorem dX4_then_29 : decode cX4_then 29 = .ok (.invokevirtual 245, 3) := by decide +kernel
theorem dX4_then_32 : decode cX4_then 32 = .ok (.istore_n 2, 1) := by decide +kernel
theorem dX4_then_33 : decode cX4_then 33 = .ok (.iconst 0, 1) := by decide +kernel
theorem dX4_then_34 : decode cX4_then 34 = .ok (.istore_n 3, 1) := by decide +kernel
theorem dX4_then_35 : decode cX4_then 35 = .ok (.iload_n 3, 1) := by decide +kernel
theorem dX4_then_36 : decode cX4_then 36 = .ok (.iload_n 1, 1) := by decide +kernel
theorem dX4_then_37 : decode cX4_then 37 = .ok (.if_icmp .ge 18, 3) := by decide +kernel
theorem dX4_then_40 : decode cX4_then 40 = .ok (.aload_n 0, 1) := by decide +kernel
theorem dX4_then_41 : decode cX4_then 41 = .ok (.getfield 21, 3) := by decide +kernel
theorem dX4_then_44 : decode cX4_then 44 = .ok (.iload_n 2, 1) := by decide +kernel
theorem dX4_then_45 : decode cX4_then 45 = .ok (.invokevirtual 248, 3) := by decide +kernel
theorem dX4_then_48 : decode cX4_then 48 = .ok (.istore_n 2, 1) := by decide +kernel
theorem dX4_then_49 : decode cX4_then 49 = .ok (.iinc 3 1, 3) := by decide +kernel
theorem dX4_then_52 : decode cX4_then 52 = .ok (.goto (-17), 3) := by decide +kernel
theorem dX4_then_55 : decode cX4_then 55 = .ok (.aload_n 0, 1) := by decide +kernel
theorem dX4_then_56 : decode cX4_then 56 = .ok (.aload_n 0, 1) := by decide +kernel
theorem dX4_then_57 : decode cX4_then 57 = .ok (.getfield 21, 3) := by decide +kernel
theorem dX4_then_60 : decode cX4_then 60 = .ok (.iload_n 2, 1) := by decide +kernel
theorem dX4_then_61 : decode cX4_then 61 = .ok (.invokestatic 251, 3) := by decide +kernel
theorem dX4_then_64 : decode cX4_then 64 = .ok (.iload_n 2, 1) := by decide +kernel
theorem dX4_then_65 : decode cX4_then 65 = .ok (.invokestatic 254, 3) := by decide +kernel
theorem dX4_then_68 : decode cX4_then 68 = .ok (.invokevirtual 218, 3) := by decide +kernel
theorem dX4_then_71 : decode cX4_then 71 = .ok (.putfield 50, 3) := by decide +kernel
theorem dX4_then_74 : decode cX4_then 74 = .ok (.iload_n 2, 1) := by decide +kernel
theorem dX4_then_75 : decode cX4_then 75 = .ok (.ireturn, 1) := by decide +kernel
theorem dX4_when_0 : decode cX4_when 0 = .ok (.aload_n 0, 1) := by decide +kernel
theorem dX4_when_1 : decode cX4_when 1 = .ok (.getfield 21, 3) := by decide +kernel
theorem dX4_when_4 : decode cX4_when 4 = .ok (.invokevirtual 170, 3) := by decide +kernel
theorem dX4_when_7 : decode cX4_when 7 = .ok (.ifCond .ne 6, 3) := by decide +kernel
theorem dX4_when_10 : decode cX4_when 10 = .ok (.bipush (-4), 2) := by decide +kernel
theorem dX4_when_12 : decode cX4_when 12 = .ok (.ireturn, 1) := by decide +kernel
theorem dX4_when_13 : decode cX4_when 13 = .ok (.aload_n 0, 1) := by decide +kernel
theorem dX4_when_14 : decode cX4_when 14 = .ok (.getfield 21, 3) := by decide +kernel
theorem dX4_when_17 : decode cX4_when 17 = .ok (.iload_n 1, 1) := by decide +kernel
theorem dX4_when_18 : decode cX4_when 18 = .ok (.iload_n 2, 1) := by decide +kernel
theorem dX4_when_19 : decode cX4_when 19 = .ok (.invokevirtual 257, 3) := by decide +kernel
theorem dX4_when_22 : decode cX4_when 22 = .ok (.ifCond .ne 5, 3) := by decide +kernel
theorem dX4_when_25 : decode cX4_when 25 = .ok (.iconst (-1), 1) := by decide +kernel
theorem dX4_when_26 : decode cX4_when 26 = .ok (.ireturn, 1) := by decide +kernel
theorem dX4_when_27 : decode cX4_when 27 = .ok (.iload_n 1, 1) := by decide +kernel
theorem dX4_when_28 : decode cX4_when 28 = .ok (.iload_n 2, 1) := by decide +kernel
theorem dX4_when_29 : decode cX4_when 29 = .ok (.invokestatic 260, 3) := by decide +kernel
theorem dX4_when_32 : decode cX4_when 32 = .ok (.istore_n 3, 1) := by decide +kernel
theorem dX4_when_33 : decode cX4_when 33 = .ok (.aload_n 0, 1) := by decide +kernel
theorem dX4_when_34 : decode cX4_when 34 = .ok (.getfield 21, 3) := by decide +kernel
theorem dX4_when_37 : decode cX4_when 37 = .ok (.invokevirtual 245, 3) := by decide +kernel
theorem dX4_when_40 : decode cX4_when 40 = .ok (.istore 4, 2) := by decide +kernel
theorem dX4_when_42 : decode cX4_when 42 = .ok (.iconst 0, 1) := by decide +kernel
theorem dX4_when_43 : decode cX4_when 43 = .ok (.istore 5, 2) := by decide +kernel
theorem dX4_when_45 : decode cX4_when 45 = .ok (.iload 5, 2) := by decide +kernel
theorem dX4_when_47 : decode cX4_when 47 = .ok (.bipush 30, 2) := by decide +kernel
theorem dX4_when_49 : decode cX4_when 49 = .ok (.if_icmp .gt 29, 3) := by decide +kernel
theorem dX4_when_52 : decode cX4_when 52 = .ok (.iload 4, 2) := by decide +kernel
theorem dX4_when_54 : decode cX4_when 54 = .ok (.iload_n 3, 1) := by decide +kernel
theorem dX4_when_55 : decode cX4_when 55 = .ok (.if_icmp .ne 6, 3) := by decide +kernel
theorem dX4_when_58 : decode cX4_when 58 = .ok (.iload 5, 2) := by decide +kernel
theorem dX4_when_60 : decode cX4_when 60 = .ok (.ireturn, 1) := by decide +kernel
theorem dX4_when_61 : decode cX4_when 61 = .ok (.aload_n 0, 1) := by decide +kernel
theorem dX4_when_62 : decode cX4_when 62 = .ok (.getfield 21, 3) := by decide +kernel
theorem dX4_when_65 : decode cX4_when 65 = .ok (.iload 4, 2) := by decide +kernel
theorem dX4_when_67 : decode cX4_when 67 = .ok (.invokevirtual 248, 3) := by decide +kernel
theorem dX4_when_70 : decode cX4_when 70 = .ok (.istore 4, 2) := by decide +kernel
theorem dX4_when_72 : decode cX4_when 72 = .ok (.iinc 5 1, 3) := by decide +kernel
theorem dX4_when_75 : decode cX4_when 75 = .ok (.goto (-30), 3) := by decide +kernel
theorem dX4_when_78 : decode cX4_when 78 = .ok (.bipush (-9), 2) := by decide +kernel
theorem dX4_when_80 : decode cX4_when 80 = .ok (.ireturn, 1) := by decide +kernel
theorem dX4_round_0 : decode cX4_round 0 = .ok (.aload_n 0, 1) := by decide +kernel
theorem dX4_round_1 : decode cX4_round 1 = .ok (.getfield 21, 3) := by decide +kernel
theorem dX4_round_4 : decode cX4_round 4 = .ok (.invokevirtual 170, 3) := by decide +kernel
theorem dX4_round_7 : decode cX4_round 7 = .ok (.ifCond .ne 6, 3) := by decide +kernel
theorem dX4_round_10 : decode cX4_round 10 = .ok (.bipush (-4), 2) := by decide +kernel
theorem dX4_round_12 : decode cX4_round 12 = .ok (.ireturn, 1) := by decide +kernel
theorem dX4_round_13 : decode cX4_round 13 = .ok (.aload_n 0, 1) := by decide +kernel
theorem dX4_round_14 : decode cX4_round 14 = .ok (.getfield 39, 3) := by decide +kernel
theorem dX4_round_17 : decode cX4_round 17 = .ok (.iconst 0, 1) := by decide +kernel
theorem dX4_round_18 : decode cX4_round 18 = .ok (.aload_n 0, 1) := by decide +kernel
theorem dX4_round_19 : decode cX4_round 19 = .ok (.getfield 21, 3) := by decide +kernel
theorem dX4_round_22 : decode cX4_round 22 = .ok (.invokevirtual 245, 3) := by decide +kernel
theorem dX4_round_25 : decode cX4_round 25 = .ok (.iastore, 1) := by decide +kernel
theorem dX4_round_26 : decode cX4_round 26 = .ok (.iconst 1, 1) := by decide +kernel
theorem dX4_round_27 : decode cX4_round 27 = .ok (.istore_n 1, 1) := by decide +kernel
theorem dX4_round_28 : decode cX4_round 28 = .ok (.iload_n 1, 1) := by decide +kernel
theorem dX4_round_29 : decode cX4_round 29 = .ok (.bipush 55, 2) := by decide +kernel
theorem dX4_round_31 : decode cX4_round 31 = .ok (.if_icmp .gt 68, 3) := by decide +kernel
theorem dX4_round_34 : decode cX4_round 34 = .ok (.aload_n 0, 1) := by decide +kernel
theorem dX4_round_35 : decode cX4_round 35 = .ok (.getfield 39, 3) := by decide +kernel
theorem dX4_round_38 : decode cX4_round 38 = .ok (.iload_n 1, 1) := by decide +kernel
theorem dX4_round_39 : decode cX4_round 39 = .ok (.aload_n 0, 1) := by decide +kernel
theorem dX4_round_40 : decode cX4_round 40 = .ok (.getfield 21, 3) := by decide +kernel
theorem dX4_round_43 : decode cX4_round 43 = .ok (.aload_n 0, 1) := by decide +kernel
theorem dX4_round_44 : decode cX4_round 44 = .ok (.getfield 39, 3) := by decide +kernel
theorem dX4_round_47 : decode cX4_round 47 = .ok (.iload_n 1, 1) := by decide +kernel
theorem dX4_round_48 : decode cX4_round 48 = .ok (.iconst 1, 1) := by decide +kernel
theorem dX4_round_49 : decode cX4_round 49 = .ok (.isub, 1) := by decide +kernel
theorem dX4_round_50 : decode cX4_round 50 = .ok (.iaload, 1) := by decide +kernel
theorem dX4_round_51 : decode cX4_round 51 = .ok (.invokevirtual 248, 3) := by decide +kernel
theorem dX4_round_54 : decode cX4_round 54 = .ok (.iastore, 1) := by decide +kernel
theorem dX4_round_55 : decode cX4_round 55 = .ok (.iload_n 1, 1) := by decide +kernel
theorem dX4_round_56 : decode cX4_round 56 = .ok (.iconst 1, 1) := by decide +kernel
theorem dX4_round_57 : decode cX4_round 57 = .ok (.isub, 1) := by decide +kernel
theorem dX4_round_58 : decode cX4_round 58 = .ok (.istore_n 2, 1) := by decide +kernel
theorem dX4_round_59 : decode cX4_round 59 = .ok (.iload_n 2, 1) := by decide +kernel
theorem dX4_round_60 : decode cX4_round 60 = .ok (.ifCond .lt 33, 3) := by decide +kernel
theorem dX4_round_63 : decode cX4_round 63 = .ok (.aload_n 0, 1) := by decide +kernel
theorem dX4_round_64 : decode cX4_round 64 = .ok (.getfield 39, 3) := by decide +kernel
theorem dX4_round_67 : decode cX4_round 67 = .ok (.iload_n 2, 1) := by decide +kernel
theorem dX4_round_68 : decode cX4_round 68 = .ok (.iaload, 1) := by decide +kernel
theorem dX4_round_69 : decode cX4_round 69 = .ok (.aload_n 0, 1) := by decide +kernel
theorem dX4_round_70 : decode cX4_round 70 = .ok (.getfield 39, 3) := by decide +kernel
theorem dX4_round_73 : decode cX4_round 73 = .ok (.iload_n 1, 1) := by decide +kernel
theorem dX4_round_74 : decode cX4_round 74 = .ok (.iaload, 1) := by decide +kernel
theorem dX4_round_75 : decode cX4_round 75 = .ok (.if_icmp .ne 12, 3) := by decide +kernel
theorem dX4_round_78 : decode cX4_round 78 = .ok (.aload_n 0, 1) := by decide +kernel
theorem dX4_round_79 : decode cX4_round 79 = .ok (.iload_n 1, 1) := by decide +kernel
theorem dX4_round_80 : decode cX4_round 80 = .ok (.iload_n 2, 1) := by decide +kernel
theorem dX4_round_81 : decode cX4_round 81 = .ok (.isub, 1) := by decide +kernel
theorem dX4_round_82 : decode cX4_round 82 = .ok (.putfield 50, 3) := by decide +kernel
theorem dX4_round_85 : decode cX4_round 85 = .ok (.iload_n 1, 1) := by decide +kernel
theorem dX4_round_86 : decode cX4_round 86 = .ok (.ireturn, 1) := by decide +kernel
theorem dX4_round_87 : decode cX4_round 87 = .ok (.iinc 2 (-1), 3) := by decide +kernel
theorem dX4_round_90 : decode cX4_round 90 = .ok (.goto (-31), 3) := by decide +kernel
theorem dX4_round_93 : decode cX4_round 93 = .ok (.iinc 1 1, 3) := by decide +kernel
theorem dX4_round_96 : decode cX4_round 96 = .ok (.goto (-68), 3) := by decide +kernel
theorem dX4_round_99 : decode cX4_round 99 = .ok (.bipush (-9), 2) := by decide +kernel
theorem dX4_round_101 : decode cX4_round 101 = .ok (.ireturn, 1) := by decide +kernel
theorem dX4_duel_0 : decode cX4_duel 0 = .ok (.iload_n 1, 1) := by decide +kernel
theorem dX4_duel_1 : decode cX4_duel 1 = .ok (.ifCond .lt 9, 3) := by decide +kernel
theorem dX4_duel_4 : decode cX4_duel 4 = .ok (.iload_n 1, 1) := by decide +kernel
theorem dX4_duel_5 : decode cX4_duel 5 = .ok (.bipush 6, 2) := by decide +kernel
theorem dX4_duel_7 : decode cX4_duel 7 = .ok (.if_icmp .le 5, 3) := by decide +kernel
theorem dX4_duel_10 : decode cX4_duel 10 = .ok (.iconst (-1), 1) := by decide +kernel
theorem dX4_duel_11 : decode cX4_duel 11 = .ok (.ireturn, 1) := by decide +kernel
theorem dX4_duel_12 : decode cX4_duel 12 = .ok (.aload_n 0, 1) := by decide +kernel
theorem dX4_duel_13 : decode cX4_duel 13 = .ok (.getfield 21, 3) := by decide +kernel
theorem dX4_duel_16 : decode cX4_duel 16 = .ok (.invokevirtual 170, 3) := by decide +kernel
theorem dX4_duel_19 : decode cX4_duel 19 = .ok (.ifCond .ne 6, 3) := by decide +kernel
theorem dX4_duel_22 : decode cX4_duel 22 = .ok (.bipush (-4), 2) := by decide +kernel
theorem dX4_duel_24 : decode cX4_duel 24 = .ok (.ireturn, 1) := by decide +kernel
theorem dX4_duel_25 : decode cX4_duel 25 = .ok (.aload_n 0, 1) := by decide +kernel
theorem dX4_duel_26 : decode cX4_duel 26 = .ok (.getfield 21, 3) := by decide +kernel
theorem dX4_duel_29 : decode cX4_duel 29 = .ok (.iload_n 1, 1) := by decide +kernel
theorem dX4_duel_30 : decode cX4_duel 30 = .ok (.iconst 0, 1) := by decide +kernel
theorem dX4_duel_31 : decode cX4_duel 31 = .ok (.aload_n 0, 1) := by decide +kernel
theorem dX4_duel_32 : decode cX4_duel 32 = .ok (.getfield 21, 3) := by decide +kernel
theorem dX4_duel_35 : decode cX4_duel 35 = .ok (.getfield 158, 3) := by decide +kernel
theorem dX4_duel_38 : decode cX4_duel 38 = .ok (.aload_n 0, 1) := by decide +kernel
theorem dX4_duel_39 : decode cX4_duel 39 = .ok (.getfield 21, 3) := by decide +kernel
theorem dX4_duel_42 : decode cX4_duel 42 = .ok (.getfield 161, 3) := by decide +kernel
theorem dX4_duel_45 : decode cX4_duel 45 = .ok (.invokestatic 263, 3) := by decide +kernel
theorem dX4_duel_48 : decode cX4_duel 48 = .ok (.ireturn, 1) := by decide +kernel
theorem dX4_peace_0 : decode cX4_peace 0 = .ok (.iload_n 1, 1) := by decide +kernel
theorem dX4_peace_1 : decode cX4_peace 1 = .ok (.ifCond .lt 16, 3) := by decide +kernel
theorem dX4_peace_4 : decode cX4_peace 4 = .ok (.iload_n 1, 1) := by decide +kernel
theorem dX4_peace_5 : decode cX4_peace 5 = .ok (.bipush 99, 2) := by decide +kernel
theorem dX4_peace_7 : decode cX4_peace 7 = .ok (.if_icmp .gt 10, 3) := by decide +kernel
theorem dX4_peace_10 : decode cX4_peace 10 = .ok (.iload_n 2, 1) := by decide +kernel
theorem dX4_peace_11 : decode cX4_peace 11 = .ok (.invokestatic 63, 3) := by decide +kernel
theorem dX4_peace_14 : decode cX4_peace 14 = .ok (.ifCond .ne 5, 3) := by decide +kernel
theorem dX4_peace_17 : decode cX4_peace 17 = .ok (.iconst (-1), 1) := by decide +kernel
theorem dX4_peace_18 : decode cX4_peace 18 = .ok (.ireturn, 1) := by decide +kernel
theorem dX4_peace_19 : decode cX4_peace 19 = .ok (.aload_n 0, 1) := by decide +kernel
theorem dX4_peace_20 : decode cX4_peace 20 = .ok (.getfield 21, 3) := by decide +kernel
theorem dX4_peace_23 : decode cX4_peace 23 = .ok (.invokevirtual 170, 3) := by decide +kernel
theorem dX4_peace_26 : decode cX4_peace 26 = .ok (.ifCond .ne 6, 3) := by decide +kernel
theorem dX4_peace_29 : decode cX4_peace 29 = .ok (.bipush (-4), 2) := by decide +kernel
theorem dX4_peace_31 : decode cX4_peace 31 = .ok (.ireturn, 1) := by decide +kernel
theorem dX4_peace_32 : decode cX4_peace 32 = .ok (.aload_n 0, 1) := by decide +kernel
theorem dX4_peace_33 : decode cX4_peace 33 = .ok (.getfield 21, 3) := by decide +kernel
theorem dX4_peace_36 : decode cX4_peace 36 = .ok (.aload_n 0, 1) := by decide +kernel
theorem dX4_peace_37 : decode cX4_peace 37 = .ok (.getfield 21, 3) := by decide +kernel
theorem dX4_peace_40 : decode cX4_peace 40 = .ok (.getfield 158, 3) := by decide +kernel
theorem dX4_peace_43 : decode cX4_peace 43 = .ok (.aload_n 0, 1) := by decide +kernel
theorem dX4_peace_44 : decode cX4_peace 44 = .ok (.getfield 21, 3) := by decide +kernel
theorem dX4_peace_47 : decode cX4_peace 47 = .ok (.getfield 161, 3) := by decide +kernel
theorem dX4_peace_50 : decode cX4_peace 50 = .ok (.invokevirtual 173, 3) := by decide +kernel
theorem dX4_peace_53 : decode cX4_peace 53 = .ok (.istore_n 3, 1) := by decide +kernel
theorem dX4_peace_54 : decode cX4_peace 54 = .ok (.iload_n 3, 1) := by decide +kernel
theorem dX4_peace_55 : decode cX4_peace 55 = .ok (.ifCond .gt 6, 3) := by decide +kernel
theorem dX4_peace_58 : decode cX4_peace 58 = .ok (.bipush (-4), 2) := by decide +kernel
theorem dX4_peace_60 : decode cX4_peace 60 = .ok (.ireturn, 1) := by decide +kernel
theorem dX4_peace_61 : decode cX4_peace 61 = .ok (.aload_n 0, 1) := by decide +kernel
theorem dX4_peace_62 : decode cX4_peace 62 = .ok (.getfield 11, 3) := by decide +kernel
theorem dX4_peace_65 : decode cX4_peace 65 = .ok (.iload_n 2, 1) := by decide +kernel
theorem dX4_peace_66 : decode cX4_peace 66 = .ok (.aaload, 1) := by decide +kernel
theorem dX4_peace_67 : decode cX4_peace 67 = .ok (.astore 4, 2) := by decide +kernel
theorem dX4_peace_69 : decode cX4_peace 69 = .ok (.aload_n 0, 1) := by decide +kernel
theorem dX4_peace_70 : decode cX4_peace 70 = .ok (.iload_n 1, 1) := by decide +kernel
theorem dX4_peace_71 : decode cX4_peace 71 = .ok (.iload_n 3, 1) := by decide +kernel
theorem dX4_peace_72 : decode cX4_peace 72 = .ok (.aload 4, 2) := by decide +kernel
theorem dX4_peace_74 : decode cX4_peace 74 = .ok (.invokevirtual 267, 3) := by decide +kernel
theorem dX4_peace_77 : decode cX4_peace 77 = .ok (.iconst 0, 1) := by decide +kernel
theorem dX4_peace_78 : decode cX4_peace 78 = .ok (.istore 5, 2) := by decide +kernel
theorem dX4_peace_80 : decode cX4_peace 80 = .ok (.iload 5, 2) := by decide +kernel
theorem dX4_peace_82 : decode cX4_peace 82 = .ok (.aload_n 0, 1) := by decide +kernel
theorem dX4_peace_83 : decode cX4_peace 83 = .ok (.getfield 21, 3) := by decide +kernel
theorem dX4_peace_86 : decode cX4_peace 86 = .ok (.getfield 124, 3) := by decide +kernel
theorem dX4_peace_89 : decode cX4_peace 89 = .ok (.if_icmp .ge 41, 3) := by decide +kernel
theorem dX4_peace_92 : decode cX4_peace 92 = .ok (.aload_n 0, 1) := by decide +kernel
theorem dX4_peace_93 : decode cX4_peace 93 = .ok (.getfield 21, 3) := by decide +kernel
theorem dX4_peace_96 : decode cX4_peace 96 = .ok (.iload 5, 2) := by decide +kernel
theorem dX4_peace_98 : decode cX4_peace 98 = .ok (.invokevirtual 199, 3) := by decide +kernel
theorem dX4_peace_101 : decode cX4_peace 101 = .ok (.ifCond .eq 23, 3) := by decide +kernel
theorem dX4_peace_104 : decode cX4_peace 104 = .ok (.aload_n 0, 1) := by decide +kernel
theorem dX4_peace_105 : decode cX4_peace 105 = .ok (.iload 5, 2) := by decide +kernel
theorem dX4_peace_107 : decode cX4_peace 107 = .ok (.aload 4, 2) := by decide +kernel
theorem dX4_peace_109 : decode cX4_peace 109 = .ok (.invokevirtual 271, 3) := by decide +kernel
theorem dX4_peace_112 : decode cX4_peace 112 = .ok (.ifCond .eq 12, 3) := by decide +kernel
theorem dX4_peace_115 : decode cX4_peace 115 = .ok (.aload 4, 2) := by decide +kernel
theorem dX4_peace_117 : decode cX4_peace 117 = .ok (.getfield 79, 3) := by decide +kernel
theorem dX4_peace_120 : decode cX4_peace 120 = .ok (.iload 5, 2) := by decide +kernel
theorem dX4_peace_122 : decode cX4_peace 122 = .ok (.iaload, 1) := by decide +kernel
theorem dX4_peace_123 : decode cX4_peace 123 = .ok (.ireturn, 1) := by decide +kernel
theorem dX4_peace_124 : decode cX4_peace 124 = .ok (.iinc 5 1, 3) := by decide +kernel
theorem dX4_peace_127 : decode cX4_peace 127 = .ok (.goto (-47), 3) := by decide +kernel
theorem dX4_peace_130 : decode cX4_peace 130 = .ok (.bipush (-9), 2) := by decide +kernel
theorem dX4_peace_132 : decode cX4_peace 132 = .ok (.ireturn, 1) := by decide +kernel
theorem dX4_way_0 : decode cX4_way 0 = .ok (.aload_n 0, 1) := by decide +kernel
theorem dX4_way_1 : decode cX4_way 1 = .ok (.getfield 21, 3) := by decide +kernel
theorem dX4_way_4 : decode cX4_way 4 = .ok (.iload_n 1, 1) := by decide +kernel
theorem dX4_way_5 : decode cX4_way 5 = .ok (.invokevirtual 196, 3) := by decide +kernel
theorem dX4_way_8 : decode cX4_way 8 = .ok (.ifCond .eq 14, 3) := by decide +kernel
theorem dX4_way_11 : decode cX4_way 11 = .ok (.aload_n 0, 1) := by decide +kernel
theorem dX4_way_12 : decode cX4_way 12 = .ok (.getfield 21, 3) := by decide +kernel
theorem dX4_way_15 : decode cX4_way 15 = .ok (.iload_n 2, 1) := by decide +kernel
theorem dX4_way_16 : decode cX4_way 16 = .ok (.invokevirtual 196, 3) := by decide +kernel
theorem dX4_way_19 : decode cX4_way 19 = .ok (.ifCond .ne 5, 3) := by decide +kernel
theorem dX4_way_22 : decode cX4_way 22 = .ok (.iconst (-1), 1) := by decide +kernel
theorem dX4_way_23 : decode cX4_way 23 = .ok (.ireturn, 1) := by decide +kernel
theorem dX4_way_24 : decode cX4_way 24 = .ok (.aload_n 0, 1) := by decide +kernel
theorem dX4_way_25 : decode cX4_way 25 = .ok (.getfield 21, 3) := by decide +kernel
theorem dX4_way_28 : decode cX4_way 28 = .ok (.iload_n 1, 1) := by decide +kernel
theorem dX4_way_29 : decode cX4_way 29 = .ok (.iload_n 2, 1) := by decide +kernel
theorem dX4_way_30 : decode cX4_way 30 = .ok (.invokevirtual 275, 3) := by decide +kernel
theorem dX4_way_33 : decode cX4_way 33 = .ok (.ireturn, 1) := by decide +kernel
theorem dX4_far_0 : decode cX4_far 0 = .ok (.aload_n 0, 1) := by decide +kernel
theorem dX4_far_1 : decode cX4_far 1 = .ok (.getfield 21, 3) := by decide +kernel
theorem dX4_far_4 : decode cX4_far 4 = .ok (.iload_n 1, 1) := by decide +kernel
theorem dX4_far_5 : decode cX4_far 5 = .ok (.invokevirtual 196, 3) := by decide +kernel
theorem dX4_far_8 : decode cX4_far 8 = .ok (.ifCond .ne 5, 3) := by decide +kernel
theorem dX4_far_11 : decode cX4_far 11 = .ok (.iconst (-1), 1) := by decide +kernel
theorem dX4_far_12 : decode cX4_far 12 = .ok (.ireturn, 1) := by decide +kernel
theorem dX4_far_13 : decode cX4_far 13 = .ok (.iconst 0, 1) := by decide +kernel
theorem dX4_far_14 : decode cX4_far 14 = .ok (.istore_n 2, 1) := by decide +kernel
theorem dX4_far_15 : decode cX4_far 15 = .ok (.iconst 1, 1) := by decide +kernel
theorem dX4_far_16 : decode cX4_far 16 = .ok (.istore_n 3, 1) := by decide +kernel
theorem dX4_far_17 : decode cX4_far 17 = .ok (.iload_n 3, 1) := by decide +kernel
theorem dX4_far_18 : decode cX4_far 18 = .ok (.aload_n 0, 1) := by decide +kernel
theorem dX4_far_19 : decode cX4_far 19 = .ok (.getfield 21, 3) := by decide +kernel
theorem dX4_far_22 : decode cX4_far 22 = .ok (.getfield 121, 3) := by decide +kernel
theorem dX4_far_25 : decode cX4_far 25 = .ok (.if_icmp .ge 30, 3) := by decide +kernel
theorem dX4_far_28 : decode cX4_far 28 = .ok (.aload_n 0, 1) := by decide +kernel
theorem dX4_far_29 : decode cX4_far 29 = .ok (.getfield 21, 3) := by decide +kernel
theorem dX4_far_32 : decode cX4_far 32 = .ok (.iload_n 3, 1) := by decide +kernel
theorem dX4_far_33 : decode cX4_far 33 = .ok (.invokevirtual 278, 3) := by decide +kernel
theorem dX4_far_36 : decode cX4_far 36 = .ok (.aload_n 0, 1) := by decide +kernel
theorem dX4_far_37 : decode cX4_far 37 = .ok (.getfield 21, 3) := by decide +kernel
theorem dX4_far_40 : decode cX4_far 40 = .ok (.iload_n 2, 1) := by decide +kernel
theorem dX4_far_41 : decode cX4_far 41 = .ok (.invokevirtual 278, 3) := by decide +kernel
theorem dX4_far_44 : decode cX4_far 44 = .ok (.if_icmp .ge 5, 3) := by decide +kernel
theorem dX4_far_47 : decode cX4_far 47 = .ok (.iload_n 3, 1) := by decide +kernel
theorem dX4_far_48 : decode cX4_far 48 = .ok (.istore_n 2, 1) := by decide +kernel
theorem dX4_far_49 : decode cX4_far 49 = .ok (.iinc 3 1, 3) := by decide +kernel
theorem dX4_far_52 : decode cX4_far 52 = .ok (.goto (-35), 3) := by decide +kernel
theorem dX4_far_55 : decode cX4_far 55 = .ok (.aload_n 0, 1) := by decide +kernel
theorem dX4_far_56 : decode cX4_far 56 = .ok (.iload_n 2, 1) := by decide +kernel
theorem dX4_far_57 : decode cX4_far 57 = .ok (.putfield 50, 3) := by decide +kernel
theorem dX4_far_60 : decode cX4_far 60 = .ok (.aload_n 0, 1) := by decide +kernel
theorem dX4_far_61 : decode cX4_far 61 = .ok (.getfield 21, 3) := by decide +kernel
theorem dX4_far_64 : decode cX4_far 64 = .ok (.iload_n 1, 1) := by decide +kernel
theorem dX4_far_65 : decode cX4_far 65 = .ok (.invokevirtual 278, 3) := by decide +kernel
theorem dX4_far_68 : decode cX4_far 68 = .ok (.ireturn, 1) := by decide +kernel
theorem dX4_kinds_0 : decode cX4_kinds 0 = .ok (.aload_n 0, 1) := by decide +kernel
theorem dX4_kinds_1 : decode cX4_kinds 1 = .ok (.iload_n 1, 1) := by decide +kernel
theorem dX4_kinds_2 : decode cX4_kinds 2 = .ok (.iload_n 2, 1) := by decide +kernel
theorem dX4_kinds_3 : decode cX4_kinds 3 = .ok (.invokevirtual 281, 3) := by decide +kernel
theorem dX4_kinds_6 : decode cX4_kinds 6 = .ok (.istore_n 3, 1) := by decide +kernel
theorem dX4_kinds_7 : decode cX4_kinds 7 = .ok (.iload_n 3, 1) := by decide +kernel
theorem dX4_kinds_8 : decode cX4_kinds 8 = .ok (.ifCond .eq 5, 3) := by decide +kernel
theorem dX4_kinds_11 : decode cX4_kinds 11 = .ok (.iload_n 3, 1) := by decide +kernel
theorem dX4_kinds_12 : decode cX4_kinds 12 = .ok (.ireturn, 1) := by decide +kernel
theorem dX4_kinds_13 : decode cX4_kinds 13 = .ok (.iconst 0, 1) := by decide +kernel
theorem dX4_kinds_14 : decode cX4_kinds 14 = .ok (.istore 4, 2) := by decide +kernel
theorem dX4_kinds_16 : decode cX4_kinds 16 = .ok (.iconst 0, 1) := by decide +kernel
theorem dX4_kinds_17 : decode cX4_kinds 17 = .ok (.istore 5, 2) := by decide +kernel
theorem dX4_kinds_19 : decode cX4_kinds 19 = .ok (.iload 5, 2) := by decide +kernel
theorem dX4_kinds_21 : decode cX4_kinds 21 = .ok (.iconst 5, 1) := by decide +kernel
theorem dX4_kinds_22 : decode cX4_kinds 22 = .ok (.if_icmp .gt 51, 3) := by decide +kernel
theorem dX4_kinds_25 : decode cX4_kinds 25 = .ok (.aload_n 0, 1) := by decide +kernel
theorem dX4_kinds_26 : decode cX4_kinds 26 = .ok (.iload 5, 2) := by decide +kernel
theorem dX4_kinds_28 : decode cX4_kinds 28 = .ok (.aload_n 0, 1) := by decide +kernel
theorem dX4_kinds_29 : decode cX4_kinds 29 = .ok (.getfield 21, 3) := by decide +kernel
theorem dX4_kinds_32 : decode cX4_kinds 32 = .ok (.getfield 137, 3) := by decide +kernel
theorem dX4_kinds_35 : decode cX4_kinds 35 = .ok (.iload_n 1, 1) := by decide +kernel
theorem dX4_kinds_36 : decode cX4_kinds 36 = .ok (.iaload, 1) := by decide +kernel
theorem dX4_kinds_37 : decode cX4_kinds 37 = .ok (.aload_n 0, 1) := by decide +kernel
theorem dX4_kinds_38 : decode cX4_kinds 38 = .ok (.getfield 21, 3) := by decide +kernel
theorem dX4_kinds_41 : decode cX4_kinds 41 = .ok (.getfield 140, 3) := by decide +kernel
theorem dX4_kinds_44 : decode cX4_kinds 44 = .ok (.iload_n 1, 1) := by decide +kernel
theorem dX4_kinds_45 : decode cX4_kinds 45 = .ok (.iaload, 1) := by decide +kernel
theorem dX4_kinds_46 : decode cX4_kinds 46 = .ok (.aload_n 0, 1) := by decide +kernel
theorem dX4_kinds_47 : decode cX4_kinds 47 = .ok (.getfield 11, 3) := by decide +kernel
theorem dX4_kinds_50 : decode cX4_kinds 50 = .ok (.iload_n 2, 1) := by decide +kernel
theorem dX4_kinds_51 : decode cX4_kinds 51 = .ok (.aaload, 1) := by decide +kernel
theorem dX4_kinds_52 : decode cX4_kinds 52 = .ok (.invokevirtual 284, 3) := by decide +kernel
theorem dX4_kinds_55 : decode cX4_kinds 55 = .ok (.ifCond .eq 12, 3) := by decide +kernel
theorem dX4_kinds_58 : decode cX4_kinds 58 = .ok (.iload 4, 2) := by decide +kernel
theorem dX4_kinds_60 : decode cX4_kinds 60 = .ok (.iconst 1, 1) := by decide +kernel
theorem dX4_kinds_61 : decode cX4_kinds 61 = .ok (.iload 5, 2) := by decide +kernel
theorem dX4_kinds_63 : decode cX4_kinds 63 = .ok (.ishl, 1) := by decide +kernel
theorem dX4_kinds_64 : decode cX4_kinds 64 = .ok (.ior, 1) := by decide +kernel
theorem dX4_kinds_65 : decode cX4_kinds 65 = .ok (.istore 4, 2) := by decide +kernel
theorem dX4_kinds_67 : decode cX4_kinds 67 = .ok (.iinc 5 1, 3) := by decide +kernel
theorem dX4_kinds_70 : decode cX4_kinds 70 = .ok (.goto (-51), 3) := by decide +kernel
theorem dX4_kinds_73 : decode cX4_kinds 73 = .ok (.iload 4, 2) := by decide +kernel
theorem dX4_kinds_75 : decode cX4_kinds 75 = .ok (.ireturn, 1) := by decide +kernel
theorem dX4_spots_0 : decode cX4_spots 0 = .ok (.aload_n 0, 1) := by decide +kernel
theorem dX4_spots_1 : decode cX4_spots 1 = .ok (.iload_n 1, 1) := by decide +kernel
theorem dX4_spots_2 : decode cX4_spots 2 = .ok (.iload_n 2, 1) := by decide +kernel
theorem dX4_spots_3 : decode cX4_spots 3 = .ok (.invokevirtual 281, 3) := by decide +kernel
theorem dX4_spots_6 : decode cX4_spots 6 = .ok (.istore_n 3, 1) := by decide +kernel
theorem dX4_spots_7 : decode cX4_spots 7 = .ok (.iload_n 3, 1) := by decide +kernel
theorem dX4_spots_8 : decode cX4_spots 8 = .ok (.ifCond .eq 5, 3) := by decide +kernel
theorem dX4_spots_11 : decode cX4_spots 11 = .ok (.iload_n 3, 1) := by decide +kernel
theorem dX4_spots_12 : decode cX4_spots 12 = .ok (.ireturn, 1) := by decide +kernel
theorem dX4_spots_13 : decode cX4_spots 13 = .ok (.iconst 0, 1) := by decide +kernel
theorem dX4_spots_14 : decode cX4_spots 14 = .ok (.istore 4, 2) := by decide +kernel
theorem dX4_spots_16 : decode cX4_spots 16 = .ok (.iconst 0, 1) := by decide +kernel
theorem dX4_spots_17 : decode cX4_spots 17 = .ok (.istore 5, 2) := by decide +kernel
theorem dX4_spots_19 : decode cX4_spots 19 = .ok (.iload 5, 2) := by decide +kernel
theorem dX4_spots_21 : decode cX4_spots 21 = .ok (.aload_n 0, 1) := by decide +kernel
theorem dX4_spots_22 : decode cX4_spots 22 = .ok (.getfield 21, 3) := by decide +kernel
theorem dX4_spots_25 : decode cX4_spots 25 = .ok (.getfield 121, 3) := by decide +kernel
theorem dX4_spots_28 : decode cX4_spots 28 = .ok (.if_icmp .ge 51, 3) := by decide +kernel
theorem dX4_spots_31 : decode cX4_spots 31 = .ok (.aload_n 0, 1) := by decide +kernel
theorem dX4_spots_32 : decode cX4_spots 32 = .ok (.aload_n 0, 1) := by decide +kernel
theorem dX4_spots_33 : decode cX4_spots 33 = .ok (.getfield 21, 3) := by decide +kernel
theorem dX4_spots_36 : decode cX4_spots 36 = .ok (.getfield 288, 3) := by decide +kernel
theorem dX4_spots_39 : decode cX4_spots 39 = .ok (.iload_n 1, 1) := by decide +kernel
theorem dX4_spots_40 : decode cX4_spots 40 = .ok (.iaload, 1) := by decide +kernel
theorem dX4_spots_41 : decode cX4_spots 41 = .ok (.iload 5, 2) := by decide +kernel
theorem dX4_spots_43 : decode cX4_spots 43 = .ok (.aload_n 0, 1) := by decide +kernel
theorem dX4_spots_44 : decode cX4_spots 44 = .ok (.getfield 21, 3) := by decide +kernel
theorem dX4_spots_47 : decode cX4_spots 47 = .ok (.getfield 140, 3) := by decide +kernel
theorem dX4_spots_50 : decode cX4_spots 50 = .ok (.iload_n 1, 1) := by decide +kernel
theorem dX4_spots_51 : decode cX4_spots 51 = .ok (.iaload, 1) := by decide +kernel
theorem dX4_spots_52 : decode cX4_spots 52 = .ok (.aload_n 0, 1) := by decide +kernel
theorem dX4_spots_53 : decode cX4_spots 53 = .ok (.getfield 11, 3) := by decide +kernel
theorem dX4_spots_56 : decode cX4_spots 56 = .ok (.iload_n 2, 1) := by decide +kernel
theorem dX4_spots_57 : decode cX4_spots 57 = .ok (.aaload, 1) := by decide +kernel
theorem dX4_spots_58 : decode cX4_spots 58 = .ok (.invokevirtual 284, 3) := by decide +kernel
theorem dX4_spots_61 : decode cX4_spots 61 = .ok (.ifCond .eq 12, 3) := by decide +kernel
theorem dX4_spots_64 : decode cX4_spots 64 = .ok (.iload 4, 2) := by decide +kernel
theorem dX4_spots_66 : decode cX4_spots 66 = .ok (.iconst 1, 1) := by decide +kernel
theorem dX4_spots_67 : decode cX4_spots 67 = .ok (.iload 5, 2) := by decide +kernel
theorem dX4_spots_69 : decode cX4_spots 69 = .ok (.ishl, 1) := by decide +kernel
theorem dX4_spots_70 : decode cX4_spots 70 = .ok (.ior, 1) := by decide +kernel
theorem dX4_spots_71 : decode cX4_spots 71 = .ok (.istore 4, 2) := by decide +kernel
theorem dX4_spots_73 : decode cX4_spots 73 = .ok (.iinc 5 1, 3) := by decide +kernel
theorem dX4_spots_76 : decode cX4_spots 76 = .ok (.goto (-57), 3) := by decide +kernel
theorem dX4_spots_79 : decode cX4_spots 79 = .ok (.iload 4, 2) := by decide +kernel
theorem dX4_spots_81 : decode cX4_spots 81 = .ok (.ireturn, 1) := by decide +kernel
theorem dX4_odds_0 : decode cX4_odds 0 = .ok (.iload_n 1, 1) := by decide +kernel
theorem dX4_odds_1 : decode cX4_odds 1 = .ok (.ifCond .lt 19, 3) := by decide +kernel
theorem dX4_odds_4 : decode cX4_odds 4 = .ok (.iload_n 1, 1) := by decide +kernel
theorem dX4_odds_5 : decode cX4_odds 5 = .ok (.bipush 99, 2) := by decide +kernel
theorem dX4_odds_7 : decode cX4_odds 7 = .ok (.if_icmp .gt 13, 3) := by decide +kernel
theorem dX4_odds_10 : decode cX4_odds 10 = .ok (.iload_n 2, 1) := by decide +kernel
theorem dX4_odds_11 : decode cX4_odds 11 = .ok (.ifCond .lt 9, 3) := by decide +kernel
theorem dX4_odds_14 : decode cX4_odds 14 = .ok (.iload_n 2, 1) := by decide +kernel
theorem dX4_odds_15 : decode cX4_odds 15 = .ok (.bipush 12, 2) := by decide +kernel
theorem dX4_odds_17 : decode cX4_odds 17 = .ok (.if_icmp .le 5, 3) := by decide +kernel
theorem dX4_odds_20 : decode cX4_odds 20 = .ok (.iconst (-1), 1) := by decide +kernel
theorem dX4_odds_21 : decode cX4_odds 21 = .ok (.ireturn, 1) := by decide +kernel
theorem dX4_odds_22 : decode cX4_odds 22 = .ok (.aload_n 0, 1) := by decide +kernel
theorem dX4_odds_23 : decode cX4_odds 23 = .ok (.getfield 21, 3) := by decide +kernel
theorem dX4_odds_26 : decode cX4_odds 26 = .ok (.invokevirtual 170, 3) := by decide +kernel
theorem dX4_odds_29 : decode cX4_odds 29 = .ok (.ifCond .ne 6, 3) := by decide +kernel
theorem dX4_odds_32 : decode cX4_odds 32 = .ok (.bipush (-4), 2) := by decide +kernel
theorem dX4_odds_34 : decode cX4_odds 34 = .ok (.ireturn, 1) := by decide +kernel
theorem dX4_odds_35 : decode cX4_odds 35 = .ok (.aload_n 0, 1) := by decide +kernel
theorem dX4_odds_36 : decode cX4_odds 36 = .ok (.invokevirtual 234, 3) := by decide +kernel
theorem dX4_odds_39 : decode cX4_odds 39 = .ok (.istore_n 3, 1) := by decide +kernel
theorem dX4_odds_40 : decode cX4_odds 40 = .ok (.lconst 0, 1) := by decide +kernel
theorem dX4_odds_41 : decode cX4_odds 41 = .ok (.lstore 4, 2) := by decide +kernel
theorem dX4_odds_43 : decode cX4_odds 43 = .ok (.iconst 0, 1) := by decide +kernel
theorem dX4_odds_44 : decode cX4_odds 44 = .ok (.istore 6, 2) := by decide +kernel
theorem dX4_odds_46 : decode cX4_odds 46 = .ok (.iload 6, 2) := by decide +kernel
theorem dX4_odds_48 : decode cX4_odds 48 = .ok (.iload_n 3, 1) := by decide +kernel
theorem dX4_odds_49 : decode cX4_odds 49 = .ok (.if_icmp .gt 43, 3) := by decide +kernel
theorem dX4_odds_52 : decode cX4_odds 52 = .ok (.iload 6, 2) := by decide +kernel
theorem dX4_odds_54 : decode cX4_odds 54 = .ok (.iload_n 3, 1) := by decide +kernel
theorem dX4_odds_55 : decode cX4_odds 55 = .ok (.iconst (-1), 1) := by decide +kernel
theorem dX4_odds_56 : decode cX4_odds 56 = .ok (.ixor, 1) := by decide +kernel
theorem dX4_odds_57 : decode cX4_odds 57 = .ok (.iand, 1) := by decide +kernel
theorem dX4_odds_58 : decode cX4_odds 58 = .ok (.ifCond .ne 28, 3) := by decide +kernel
theorem dX4_odds_61 : decode cX4_odds 61 = .ok (.aload_n 0, 1) := by decide +kernel
theorem dX4_odds_62 : decode cX4_odds 62 = .ok (.getfield 21, 3) := by decide +kernel
theorem dX4_odds_65 : decode cX4_odds 65 = .ok (.iload 6, 2) := by decide +kernel
theorem dX4_odds_67 : decode cX4_odds 67 = .ok (.invokevirtual 237, 3) := by decide +kernel
theorem dX4_odds_70 : decode cX4_odds 70 = .ok (.iload_n 1, 1) := by decide +kernel
theorem dX4_odds_71 : decode cX4_odds 71 = .ok (.if_icmp .lt 15, 3) := by decide +kernel
theorem dX4_odds_74 : decode cX4_odds 74 = .ok (.lload 4, 2) := by decide +kernel
theorem dX4_odds_76 : decode cX4_odds 76 = .ok (.iload 6, 2) := by decide +kernel
theorem dX4_odds_78 : decode cX4_odds 78 = .ok (.iload_n 3, 1) := by decide +kernel
theorem dX4_odds_79 : decode cX4_odds 79 = .ok (.iload_n 2, 1) := by decide +kernel
theorem dX4_odds_80 : decode cX4_odds 80 = .ok (.invokestatic 291, 3) := by decide +kernel
theorem dX4_odds_83 : decode cX4_odds 83 = .ok (.ladd, 1) := by decide +kernel
theorem dX4_odds_84 : decode cX4_odds 84 = .ok (.lstore 4, 2) := by decide +kernel
theorem dX4_odds_86 : decode cX4_odds 86 = .ok (.iinc 6 1, 3) := by decide +kernel
theorem dX4_odds_89 : decode cX4_odds 89 = .ok (.goto (-43), 3) := by decide +kernel
theorem dX4_odds_92 : decode cX4_odds 92 = .ok (.aload_n 0, 1) := by decide +kernel
theorem dX4_odds_93 : decode cX4_odds 93 = .ok (.lload 4, 2) := by decide +kernel
theorem dX4_odds_95 : decode cX4_odds 95 = .ok (.bipush 12, 2) := by decide +kernel
theorem dX4_odds_97 : decode cX4_odds 97 = .ok (.iload_n 3, 1) := by decide +kernel
theorem dX4_odds_98 : decode cX4_odds 98 = .ok (.invokestatic 240, 3) := by decide +kernel
theorem dX4_odds_101 : decode cX4_odds 101 = .ok (.invokestatic 295, 3) := by decide +kernel
theorem dX4_odds_104 : decode cX4_odds 104 = .ok (.invokevirtual 299, 3) := by decide +kernel
theorem dX4_odds_107 : decode cX4_odds 107 = .ok (.iconst 1, 1) := by decide +kernel
theorem dX4_odds_108 : decode cX4_odds 108 = .ok (.ireturn, 1) := by decide +kernel
theorem dX4_mid_0 : decode cX4_mid 0 = .ok (.iload_n 1, 1) := by decide +kernel
theorem dX4_mid_1 : decode cX4_mid 1 = .ok (.ifCond .lt 9, 3) := by decide +kernel
theorem dX4_mid_4 : decode cX4_mid 4 = .ok (.iload_n 1, 1) := by decide +kernel
theorem dX4_mid_5 : decode cX4_mid 5 = .ok (.bipush 12, 2) := by decide +kernel
theorem dX4_mid_7 : decode cX4_mid 7 = .ok (.if_icmp .le 5, 3) := by decide +kernel
theorem dX4_mid_10 : decode cX4_mid 10 = .ok (.iconst (-1), 1) := by decide +kernel
theorem dX4_mid_11 : decode cX4_mid 11 = .ok (.ireturn, 1) := by decide +kernel
theorem dX4_mid_12 : decode cX4_mid 12 = .ok (.aload_n 0, 1) := by decide +kernel
theorem dX4_mid_13 : decode cX4_mid 13 = .ok (.getfield 21, 3) := by decide +kernel
theorem dX4_mid_16 : decode cX4_mid 16 = .ok (.invokevirtual 170, 3) := by decide +kernel
theorem dX4_mid_19 : decode cX4_mid 19 = .ok (.ifCond .ne 6, 3) := by decide +kernel
theorem dX4_mid_22 : decode cX4_mid 22 = .ok (.bipush (-4), 2) := by decide +kernel
theorem dX4_mid_24 : decode cX4_mid 24 = .ok (.ireturn, 1) := by decide +kernel
theorem dX4_mid_25 : decode cX4_mid 25 = .ok (.aload_n 0, 1) := by decide +kernel
theorem dX4_mid_26 : decode cX4_mid 26 = .ok (.invokevirtual 234, 3) := by decide +kernel
theorem dX4_mid_29 : decode cX4_mid 29 = .ok (.istore_n 2, 1) := by decide +kernel
theorem dX4_mid_30 : decode cX4_mid 30 = .ok (.lconst 0, 1) := by decide +kernel
theorem dX4_mid_31 : decode cX4_mid 31 = .ok (.lstore_n 3, 1) := by decide +kernel
theorem dX4_mid_32 : decode cX4_mid 32 = .ok (.iconst 0, 1) := by decide +kernel
theorem dX4_mid_33 : decode cX4_mid 33 = .ok (.istore 5, 2) := by decide +kernel
theorem dX4_mid_35 : decode cX4_mid 35 = .ok (.iload 5, 2) := by decide +kernel
theorem dX4_mid_37 : decode cX4_mid 37 = .ok (.iload_n 2, 1) := by decide +kernel
theorem dX4_mid_38 : decode cX4_mid 38 = .ok (.if_icmp .gt 39, 3) := by decide +kernel
theorem dX4_mid_41 : decode cX4_mid 41 = .ok (.iload 5, 2) := by decide +kernel
theorem dX4_mid_43 : decode cX4_mid 43 = .ok (.iload_n 2, 1) := by decide +kernel
theorem dX4_mid_44 : decode cX4_mid 44 = .ok (.iconst (-1), 1) := by decide +kernel
theorem dX4_mid_45 : decode cX4_mid 45 = .ok (.ixor, 1) := by decide +kernel
theorem dX4_mid_46 : decode cX4_mid 46 = .ok (.iand, 1) := by decide +kernel
theorem dX4_mid_47 : decode cX4_mid 47 = .ok (.ifCond .ne 24, 3) := by decide +kernel
theorem dX4_mid_50 : decode cX4_mid 50 = .ok (.lload_n 3, 1) := by decide +kernel
theorem dX4_mid_51 : decode cX4_mid 51 = .ok (.aload_n 0, 1) := by decide +kernel
theorem dX4_mid_52 : decode cX4_mid 52 = .ok (.getfield 21, 3) := by decide +kernel
theorem dX4_mid_55 : decode cX4_mid 55 = .ok (.iload 5, 2) := by decide +kernel
theorem dX4_mid_57 : decode cX4_mid 57 = .ok (.invokevirtual 303, 3) := by decide +kernel
theorem dX4_mid_60 : decode cX4_mid 60 = .ok (.i2l, 1) := by decide +kernel
theorem dX4_mid_61 : decode cX4_mid 61 = .ok (.iload 5, 2) := by decide +kernel
theorem dX4_mid_63 : decode cX4_mid 63 = .ok (.iload_n 2, 1) := by decide +kernel
theorem dX4_mid_64 : decode cX4_mid 64 = .ok (.iload_n 1, 1) := by decide +kernel
theorem dX4_mid_65 : decode cX4_mid 65 = .ok (.invokestatic 291, 3) := by decide +kernel
theorem dX4_mid_68 : decode cX4_mid 68 = .ok (.lmul, 1) := by decide +kernel
theorem dX4_mid_69 : decode cX4_mid 69 = .ok (.ladd, 1) := by decide +kernel
theorem dX4_mid_70 : decode cX4_mid 70 = .ok (.lstore_n 3, 1) := by decide +kernel
theorem dX4_mid_71 : decode cX4_mid 71 = .ok (.iinc 5 1, 3) := by decide +kernel
theorem dX4_mid_74 : decode cX4_mid 74 = .ok (.goto (-39), 3) := by decide +kernel
theorem dX4_mid_77 : decode cX4_mid 77 = .ok (.aload_n 0, 1) := by decide +kernel
theorem dX4_mid_78 : decode cX4_mid 78 = .ok (.lload_n 3, 1) := by decide +kernel
theorem dX4_mid_79 : decode cX4_mid 79 = .ok (.bipush 12, 2) := by decide +kernel
theorem dX4_mid_81 : decode cX4_mid 81 = .ok (.iload_n 2, 1) := by decide +kernel
theorem dX4_mid_82 : decode cX4_mid 82 = .ok (.invokestatic 240, 3) := by decide +kernel
theorem dX4_mid_85 : decode cX4_mid 85 = .ok (.invokestatic 295, 3) := by decide +kernel
theorem dX4_mid_88 : decode cX4_mid 88 = .ok (.invokevirtual 299, 3) := by decide +kernel
theorem dX4_mid_91 : decode cX4_mid 91 = .ok (.iconst 1, 1) := by decide +kernel
theorem dX4_mid_92 : decode cX4_mid 92 = .ok (.ireturn, 1) := by decide +kernel
theorem dX4_lots_0 : decode cX4_lots 0 = .ok (.iload_n 1, 1) := by decide +kernel
theorem dX4_lots_1 : decode cX4_lots 1 = .ok (.iconst 1, 1) := by decide +kernel
theorem dX4_lots_2 : decode cX4_lots 2 = .ok (.if_icmp .lt 21, 3) := by decide +kernel
theorem dX4_lots_5 : decode cX4_lots 5 = .ok (.iload_n 1, 1) := by decide +kernel
theorem dX4_lots_6 : decode cX4_lots 6 = .ok (.bipush 20, 2) := by decide +kernel
theorem dX4_lots_8 : decode cX4_lots 8 = .ok (.if_icmp .gt 15, 3) := by decide +kernel
theorem dX4_lots_11 : decode cX4_lots 11 = .ok (.iload_n 2, 1) := by decide +kernel
theorem dX4_lots_12 : decode cX4_lots 12 = .ok (.iconst 1, 1) := by decide +kernel
theorem dX4_lots_13 : decode cX4_lots 13 = .ok (.if_icmp .lt 10, 3) := by decide +kernel
theorem dX4_lots_16 : decode cX4_lots 16 = .ok (.iload_n 2, 1) := by decide +kernel
theorem dX4_lots_17 : decode cX4_lots 17 = .ok (.ldc_w 306, 3) := by decide +kernel
theorem dX4_lots_20 : decode cX4_lots 20 = .ok (.if_icmp .le 5, 3) := by decide +kernel
theorem dX4_lots_23 : decode cX4_lots 23 = .ok (.iconst (-1), 1) := by decide +kernel
theorem dX4_lots_24 : decode cX4_lots 24 = .ok (.ireturn, 1) := by decide +kernel
theorem dX4_lots_25 : decode cX4_lots 25 = .ok (.aload_n 0, 1) := by decide +kernel
theorem dX4_lots_26 : decode cX4_lots 26 = .ok (.getfield 21, 3) := by decide +kernel
theorem dX4_lots_29 : decode cX4_lots 29 = .ok (.invokevirtual 170, 3) := by decide +kernel
theorem dX4_lots_32 : decode cX4_lots 32 = .ok (.ifCond .ne 6, 3) := by decide +kernel
theorem dX4_lots_35 : decode cX4_lots 35 = .ok (.bipush (-4), 2) := by decide +kernel
theorem dX4_lots_37 : decode cX4_lots 37 = .ok (.ireturn, 1) := by decide +kernel
theorem dX4_lots_38 : decode cX4_lots 38 = .ok (.aload_n 0, 1) := by decide +kernel
theorem dX4_lots_39 : decode cX4_lots 39 = .ok (.getfield 21, 3) := by decide +kernel
theorem dX4_lots_42 : decode cX4_lots 42 = .ok (.iload_n 1, 1) := by decide +kernel
theorem dX4_lots_43 : decode cX4_lots 43 = .ok (.invokevirtual 182, 3) := by decide +kernel
theorem dX4_lots_46 : decode cX4_lots 46 = .ok (.ifCond .ne 6, 3) := by decide +kernel
theorem dX4_lots_49 : decode cX4_lots 49 = .ok (.bipush (-2), 2) := by decide +kernel
theorem dX4_lots_51 : decode cX4_lots 51 = .ok (.ireturn, 1) := by decide +kernel
theorem dX4_lots_52 : decode cX4_lots 52 = .ok (.iload_n 2, 1) := by decide +kernel
theorem dX4_lots_53 : decode cX4_lots 53 = .ok (.i2l, 1) := by decide +kernel
theorem dX4_lots_54 : decode cX4_lots 54 = .ok (.lstore_n 3, 1) := by decide +kernel
theorem dX4_lots_55 : decode cX4_lots 55 = .ok (.iconst 0, 1) := by decide +kernel
theorem dX4_lots_56 : decode cX4_lots 56 = .ok (.istore 5, 2) := by decide +kernel
theorem dX4_lots_58 : decode cX4_lots 58 = .ok (.iload 5, 2) := by decide +kernel
theorem dX4_lots_60 : decode cX4_lots 60 = .ok (.iload_n 1, 1) := by decide +kernel
theorem dX4_lots_61 : decode cX4_lots 61 = .ok (.if_icmp .ge 67, 3) := by decide +kernel
theorem dX4_lots_64 : decode cX4_lots 64 = .ok (.lload_n 3, 1) := by decide +kernel
theorem dX4_lots_65 : decode cX4_lots 65 = .ok (.ldc2_w 307, 3) := by decide +kernel
theorem dX4_lots_68 : decode cX4_lots 68 = .ok (.lmul, 1) := by decide +kernel
theorem dX4_lots_69 : decode cX4_lots 69 = .ok (.ldc2_w 309, 3) := by decide +kernel
theorem dX4_lots_72 : decode cX4_lots 72 = .ok (.lrem, 1) := by decide +kernel
theorem dX4_lots_73 : decode cX4_lots 73 = .ok (.lstore_n 3, 1) := by decide +kernel
theorem dX4_lots_74 : decode cX4_lots 74 = .ok (.lload_n 3, 1) := by decide +kernel
theorem dX4_lots_75 : decode cX4_lots 75 = .ok (.ldc2_w 311, 3) := by decide +kernel
theorem dX4_lots_78 : decode cX4_lots 78 = .ok (.lrem, 1) := by decide +kernel
theorem dX4_lots_79 : decode cX4_lots 79 = .ok (.lconst 0, 1) := by decide +kernel
theorem dX4_lots_80 : decode cX4_lots 80 = .ok (.lcmp, 1) := by decide +kernel
theorem dX4_lots_81 : decode cX4_lots 81 = .ok (.ifCond .ne 13, 3) := by decide +kernel
theorem dX4_lots_84 : decode cX4_lots 84 = .ok (.aload_n 0, 1) := by decide +kernel
theorem dX4_lots_85 : decode cX4_lots 85 = .ok (.getfield 21, 3) := by decide +kernel
theorem dX4_lots_88 : decode cX4_lots 88 = .ok (.invokevirtual 185, 3) := by decide +kernel
theorem dX4_lots_91 : decode cX4_lots 91 = .ok (.goto 31, 3) := by decide +kernel
theorem dX4_lots_94 : decode cX4_lots 94 = .ok (.aload_n 0, 1) := by decide +kernel
theorem dX4_lots_95 : decode cX4_lots 95 = .ok (.getfield 21, 3) := by decide +kernel
theorem dX4_lots_98 : decode cX4_lots 98 = .ok (.lload_n 3, 1) := by decide +kernel
theorem dX4_lots_99 : decode cX4_lots 99 = .ok (.ldc2_w 313, 3) := by decide +kernel
theorem dX4_lots_102 : decode cX4_lots 102 = .ok (.ldiv, 1) := by decide +kernel
theorem dX4_lots_103 : decode cX4_lots 103 = .ok (.l2i, 1) := by decide +kernel
theorem dX4_lots_104 : decode cX4_lots 104 = .ok (.lload_n 3, 1) := by decide +kernel
theorem dX4_lots_105 : decode cX4_lots 105 = .ok (.ldc2_w 311, 3) := by decide +kernel
theorem dX4_lots_108 : decode cX4_lots 108 = .ok (.lrem, 1) := by decide +kernel
theorem dX4_lots_109 : decode cX4_lots 109 = .ok (.lconst 1, 1) := by decide +kernel
theorem dX4_lots_110 : decode cX4_lots 110 = .ok (.lcmp, 1) := by decide +kernel
theorem dX4_lots_111 : decode cX4_lots 111 = .ok (.ifCond .ne 7, 3) := by decide +kernel
theorem dX4_lots_114 : decode cX4_lots 114 = .ok (.iconst (-1), 1) := by decide +kernel
theorem dX4_lots_115 : decode cX4_lots 115 = .ok (.goto 4, 3) := by decide +kernel
theorem dX4_lots_118 : decode cX4_lots 118 = .ok (.iconst 1, 1) := by decide +kernel
theorem dX4_lots_119 : decode cX4_lots 119 = .ok (.invokevirtual 315, 3) := by decide +kernel
theorem dX4_lots_122 : decode cX4_lots 122 = .ok (.iinc 5 1, 3) := by decide +kernel
theorem dX4_lots_125 : decode cX4_lots 125 = .ok (.goto (-67), 3) := by decide +kernel
theorem dX4_lots_128 : decode cX4_lots 128 = .ok (.aload_n 0, 1) := by decide +kernel
theorem dX4_lots_129 : decode cX4_lots 129 = .ok (.getfield 21, 3) := by decide +kernel
theorem dX4_lots_132 : decode cX4_lots 132 = .ok (.invokevirtual 146, 3) := by decide +kernel
theorem dX4_lots_135 : decode cX4_lots 135 = .ok (.ireturn, 1) := by decide +kernel
theorem dX4_asked_0 : decode cX4_asked 0 = .ok (.aload_n 0, 1) := by decide +kernel
theorem dX4_asked_1 : decode cX4_asked 1 = .ok (.getfield 50, 3) := by decide +kernel
theorem dX4_asked_4 : decode cX4_asked 4 = .ok (.ireturn, 1) := by decide +kernel
theorem dX4_upper_0 : decode cX4_upper 0 = .ok (.aload_n 0, 1) := by decide +kernel
theorem dX4_upper_1 : decode cX4_upper 1 = .ok (.getfield 53, 3) := by decide +kernel
theorem dX4_upper_4 : decode cX4_upper 4 = .ok (.lreturn, 1) := by decide +kernel
theorem dX4_lower_0 : decode cX4_lower 0 = .ok (.aload_n 0, 1) := by decide +kernel
theorem dX4_lower_1 : decode cX4_lower 1 = .ok (.getfield 57, 3) := by decide +kernel
theorem dX4_lower_4 : decode cX4_lower 4 = .ok (.lreturn, 1) := by decide +kernel
theorem dX4_count_0 : decode cX4_count 0 = .ok (.iload_n 1, 1) := by decide +kernel
theorem dX4_count_1 : decode cX4_count 1 = .ok (.tableswitch 144 0 10 #[59, 67, 75, 83, 94, 102, 110, 115, 123, 131, 139], 59) := by decide +kernel
theorem dX4_count_60 : decode cX4_count 60 = .ok (.aload_n 0, 1) := by decide +kernel
theorem dX4_count_61 : decode cX4_count 61 = .ok (.getfield 21, 3) := by decide +kernel
theorem dX4_count_64 : decode cX4_count 64 = .ok (.getfield 124, 3) := by decide +kernel
theorem dX4_count_67 : decode cX4_count 67 = .ok (.ireturn, 1) := by decide +kernel
theorem dX4_count_68 : decode cX4_count 68 = .ok (.aload_n 0, 1) := by decide +kernel
theorem dX4_count_69 : decode cX4_count 69 = .ok (.getfield 21, 3) := by decide +kernel
theorem dX4_count_72 : decode cX4_count 72 = .ok (.getfield 121, 3) := by decide +kernel
theorem dX4_count_75 : decode cX4_count 75 = .ok (.ireturn, 1) := by decide +kernel
theorem dX4_count_76 : decode cX4_count 76 = .ok (.aload_n 0, 1) := by decide +kernel
theorem dX4_count_77 : decode cX4_count 77 = .ok (.getfield 21, 3) := by decide +kernel
theorem dX4_count_80 : decode cX4_count 80 = .ok (.getfield 318, 3) := by decide +kernel
theorem dX4_count_83 : decode cX4_count 83 = .ok (.ireturn, 1) := by decide +kernel
theorem dX4_count_84 : decode cX4_count 84 = .ok (.aload_n 0, 1) := by decide +kernel
theorem dX4_count_85 : decode cX4_count 85 = .ok (.getfield 21, 3) := by decide +kernel
theorem dX4_count_88 : decode cX4_count 88 = .ok (.getfield 202, 3) := by decide +kernel
theorem dX4_count_91 : decode cX4_count 91 = .ok (.getfield 206, 3) := by decide +kernel
theorem dX4_count_94 : decode cX4_count 94 = .ok (.ireturn, 1) := by decide +kernel
theorem dX4_count_95 : decode cX4_count 95 = .ok (.aload_n 0, 1) := by decide +kernel
theorem dX4_count_96 : decode cX4_count 96 = .ok (.getfield 21, 3) := by decide +kernel
theorem dX4_count_99 : decode cX4_count 99 = .ok (.getfield 158, 3) := by decide +kernel
theorem dX4_count_102 : decode cX4_count 102 = .ok (.ireturn, 1) := by decide +kernel
theorem dX4_count_103 : decode cX4_count 103 = .ok (.aload_n 0, 1) := by decide +kernel
theorem dX4_count_104 : decode cX4_count 104 = .ok (.getfield 21, 3) := by decide +kernel
theorem dX4_count_107 : decode cX4_count 107 = .ok (.getfield 161, 3) := by decide +kernel
theorem dX4_count_110 : decode cX4_count 110 = .ok (.ireturn, 1) := by decide +kernel
theorem dX4_count_111 : decode cX4_count 111 = .ok (.aload_n 0, 1) := by decide +kernel
theorem dX4_count_112 : decode cX4_count 112 = .ok (.invokevirtual 234, 3) := by decide +kernel
theorem dX4_count_115 : decode cX4_count 115 = .ok (.ireturn, 1) := by decide +kernel
theorem dX4_count_116 : decode cX4_count 116 = .ok (.aload_n 0, 1) := by decide +kernel
theorem dX4_count_117 : decode cX4_count 117 = .ok (.getfield 21, 3) := by decide +kernel
theorem dX4_count_120 : decode cX4_count 120 = .ok (.invokevirtual 321, 3) := by decide +kernel
theorem dX4_count_123 : decode cX4_count 123 = .ok (.ireturn, 1) := by decide +kernel
theorem dX4_count_124 : decode cX4_count 124 = .ok (.aload_n 0, 1) := by decide +kernel
theorem dX4_count_125 : decode cX4_count 125 = .ok (.getfield 11, 3) := by decide +kernel
theorem dX4_count_128 : decode cX4_count 128 = .ok (.invokestatic 324, 3) := by decide +kernel
theorem dX4_count_131 : decode cX4_count 131 = .ok (.ireturn, 1) := by decide +kernel
theorem dX4_count_132 : decode cX4_count 132 = .ok (.aload_n 0, 1) := by decide +kernel
theorem dX4_count_133 : decode cX4_count 133 = .ok (.getfield 15, 3) := by decide +kernel
theorem dX4_count_136 : decode cX4_count 136 = .ok (.invokestatic 324, 3) := by decide +kernel
theorem dX4_count_139 : decode cX4_count 139 = .ok (.ireturn, 1) := by decide +kernel
theorem dX4_count_140 : decode cX4_count 140 = .ok (.aload_n 0, 1) := by decide +kernel
theorem dX4_count_141 : decode cX4_count 141 = .ok (.invokevirtual 328, 3) := by decide +kernel
theorem dX4_count_144 : decode cX4_count 144 = .ok (.ireturn, 1) := by decide +kernel
theorem dX4_count_145 : decode cX4_count 145 = .ok (.iconst (-1), 1) := by decide +kernel
theorem dX4_count_146 : decode cX4_count 146 = .ok (.ireturn, 1) := by decide +kernel
theorem dX4_finding_0 : decode cX4_finding 0 = .ok (.aload_n 0, 1) := by decide +kernel
theorem dX4_finding_1 : decode cX4_finding 1 = .ok (.getfield 46, 3) := by decide +kernel
theorem dX4_finding_4 : decode cX4_finding 4 = .ok (.ireturn, 1) := by decide +kernel
theorem dX4_findings_0 : decode cX4_findings 0 = .ok (.iload_n 1, 1) := by decide +kernel
theorem dX4_findings_1 : decode cX4_findings 1 = .ok (.iconst 1, 1) := by decide +kernel
theorem dX4_findings_2 : decode cX4_findings 2 = .ok (.if_icmp .lt 8, 3) := by decide +kernel
theorem dX4_findings_5 : decode cX4_findings 5 = .ok (.iload_n 1, 1) := by decide +kernel
theorem dX4_findings_6 : decode cX4_findings 6 = .ok (.iconst 5, 1) := by decide +kernel
theorem dX4_findings_7 : decode cX4_findings 7 = .ok (.if_icmp .le 5, 3) := by decide +kernel
theorem dX4_findings_10 : decode cX4_findings 10 = .ok (.iconst (-1), 1) := by decide +kernel
theorem dX4_findings_11 : decode cX4_findings 11 = .ok (.ireturn, 1) := by decide +kernel
theorem dX4_findings_12 : decode cX4_findings 12 = .ok (.aload_n 0, 1) := by decide +kernel
theorem dX4_findings_13 : decode cX4_findings 13 = .ok (.getfield 43, 3) := by decide +kernel
theorem dX4_findings_16 : decode cX4_findings 16 = .ok (.iload_n 1, 1) := by decide +kernel
theorem dX4_findings_17 : decode cX4_findings 17 = .ok (.iaload, 1) := by decide +kernel
theorem dX4_findings_18 : decode cX4_findings 18 = .ok (.ireturn, 1) := by decide +kernel
theorem dX4_digest_0 : decode cX4_digest 0 = .ok (.ldc2_w 331, 3) := by decide +kernel
theorem dX4_digest_3 : decode cX4_digest 3 = .ok (.lstore_n 1, 1) := by decide +kernel
theorem dX4_digest_4 : decode cX4_digest 4 = .ok (.iconst 0, 1) := by decide +kernel
theorem dX4_digest_5 : decode cX4_digest 5 = .ok (.istore_n 3, 1) := by decide +kernel
theorem dX4_digest_6 : decode cX4_digest 6 = .ok (.iload_n 3, 1) := by decide +kernel
theorem dX4_digest_7 : decode cX4_digest 7 = .ok (.bipush 10, 2) := by decide +kernel
theorem dX4_digest_9 : decode cX4_digest 9 = .ok (.if_icmp .gt 22, 3) := by decide +kernel
theorem dX4_digest_12 : decode cX4_digest 12 = .ok (.ldc2_w 333, 3) := by decide +kernel
theorem dX4_digest_15 : decode cX4_digest 15 = .ok (.lload_n 1, 1) := by decide +kernel
theorem dX4_digest_16 : decode cX4_digest 16 = .ok (.lmul, 1) := by decide +kernel
theorem dX4_digest_17 : decode cX4_digest 17 = .ok (.aload_n 0, 1) := by decide +kernel
theorem dX4_digest_18 : decode cX4_digest 18 = .ok (.iload_n 3, 1) := by decide +kernel
theorem dX4_digest_19 : decode cX4_digest 19 = .ok (.invokevirtual 335, 3) := by decide +kernel
theorem dX4_digest_22 : decode cX4_digest 22 = .ok (.i2l, 1) := by decide +kernel
theorem dX4_digest_23 : decode cX4_digest 23 = .ok (.ladd, 1) := by decide +kernel
theorem dX4_digest_24 : decode cX4_digest 24 = .ok (.lstore_n 1, 1) := by decide +kernel
theorem dX4_digest_25 : decode cX4_digest 25 = .ok (.iinc 3 1, 3) := by decide +kernel
theorem dX4_digest_28 : decode cX4_digest 28 = .ok (.goto (-22), 3) := by decide +kernel
theorem dX4_digest_31 : decode cX4_digest 31 = .ok (.iconst 3, 1) := by decide +kernel
theorem dX4_digest_32 : decode cX4_digest 32 = .ok (.istore_n 3, 1) := by decide +kernel
theorem dX4_digest_33 : decode cX4_digest 33 = .ok (.iload_n 3, 1) := by decide +kernel
theorem dX4_digest_34 : decode cX4_digest 34 = .ok (.iconst 5, 1) := by decide +kernel
theorem dX4_digest_35 : decode cX4_digest 35 = .ok (.if_icmp .gt 32, 3) := by decide +kernel
theorem dX4_digest_38 : decode cX4_digest 38 = .ok (.aload_n 0, 1) := by decide +kernel
theorem dX4_digest_39 : decode cX4_digest 39 = .ok (.getfield 21, 3) := by decide +kernel
theorem dX4_digest_42 : decode cX4_digest 42 = .ok (.invokevirtual 170, 3) := by decide +kernel
theorem dX4_digest_45 : decode cX4_digest 45 = .ok (.ifCond .eq 22, 3) := by decide +kernel
theorem dX4_digest_48 : decode cX4_digest 48 = .ok (.ldc2_w 333, 3) := by decide +kernel
theorem dX4_digest_51 : decode cX4_digest 51 = .ok (.lload_n 1, 1) := by decide +kernel
theorem dX4_digest_52 : decode cX4_digest 52 = .ok (.lmul, 1) := by decide +kernel
theorem dX4_digest_53 : decode cX4_digest 53 = .ok (.aload_n 0, 1) := by decide +kernel
theorem dX4_digest_54 : decode cX4_digest 54 = .ok (.iload_n 3, 1) := by decide +kernel
theorem dX4_digest_55 : decode cX4_digest 55 = .ok (.invokevirtual 338, 3) := by decide +kernel
theorem dX4_digest_58 : decode cX4_digest 58 = .ok (.i2l, 1) := by decide +kernel
theorem dX4_digest_59 : decode cX4_digest 59 = .ok (.ladd, 1) := by decide +kernel
theorem dX4_digest_60 : decode cX4_digest 60 = .ok (.lstore_n 1, 1) := by decide +kernel
theorem dX4_digest_61 : decode cX4_digest 61 = .ok (.iinc 3 1, 3) := by decide +kernel
theorem dX4_digest_64 : decode cX4_digest 64 = .ok (.goto (-31), 3) := by decide +kernel
theorem dX4_digest_67 : decode cX4_digest 67 = .ok (.iconst 0, 1) := by decide +kernel
theorem dX4_digest_68 : decode cX4_digest 68 = .ok (.istore_n 3, 1) := by decide +kernel
theorem dX4_digest_69 : decode cX4_digest 69 = .ok (.iload_n 3, 1) := by decide +kernel
theorem dX4_digest_70 : decode cX4_digest 70 = .ok (.aload_n 0, 1) := by decide +kernel
theorem dX4_digest_71 : decode cX4_digest 71 = .ok (.getfield 21, 3) := by decide +kernel
theorem dX4_digest_74 : decode cX4_digest 74 = .ok (.getfield 124, 3) := by decide +kernel
theorem dX4_digest_77 : decode cX4_digest 77 = .ok (.if_icmp .ge 39, 3) := by decide +kernel
theorem dX4_digest_80 : decode cX4_digest 80 = .ok (.iconst 0, 1) := by decide +kernel
theorem dX4_digest_81 : decode cX4_digest 81 = .ok (.istore 4, 2) := by decide +kernel
theorem dX4_digest_83 : decode cX4_digest 83 = .ok (.iload 4, 2) := by decide +kernel
theorem dX4_digest_85 : decode cX4_digest 85 = .ok (.iconst 5, 1) := by decide +kernel
theorem dX4_digest_86 : decode cX4_digest 86 = .ok (.if_icmp .gt 24, 3) := by decide +kernel
theorem dX4_digest_89 : decode cX4_digest 89 = .ok (.ldc2_w 333, 3) := by decide +kernel
theorem dX4_digest_92 : decode cX4_digest 92 = .ok (.lload_n 1, 1) := by decide +kernel
theorem dX4_digest_93 : decode cX4_digest 93 = .ok (.lmul, 1) := by decide +kernel
theorem dX4_digest_94 : decode cX4_digest 94 = .ok (.aload_n 0, 1) := by decide +kernel
theorem dX4_digest_95 : decode cX4_digest 95 = .ok (.iload_n 3, 1) := by decide +kernel
theorem dX4_digest_96 : decode cX4_digest 96 = .ok (.iload 4, 2) := by decide +kernel
theorem dX4_digest_98 : decode cX4_digest 98 = .ok (.invokevirtual 130, 3) := by decide +kernel
theorem dX4_digest_101 : decode cX4_digest 101 = .ok (.i2l, 1) := by decide +kernel
theorem dX4_digest_102 : decode cX4_digest 102 = .ok (.ladd, 1) := by decide +kernel
theorem dX4_digest_103 : decode cX4_digest 103 = .ok (.lstore_n 1, 1) := by decide +kernel
theorem dX4_digest_104 : decode cX4_digest 104 = .ok (.iinc 4 1, 3) := by decide +kernel
theorem dX4_digest_107 : decode cX4_digest 107 = .ok (.goto (-24), 3) := by decide +kernel
theorem dX4_digest_110 : decode cX4_digest 110 = .ok (.iinc 3 1, 3) := by decide +kernel
theorem dX4_digest_113 : decode cX4_digest 113 = .ok (.goto (-44), 3) := by decide +kernel
theorem dX4_digest_116 : decode cX4_digest 116 = .ok (.iconst 0, 1) := by decide +kernel
theorem dX4_digest_117 : decode cX4_digest 117 = .ok (.istore_n 3, 1) := by decide +kernel
theorem dX4_digest_118 : decode cX4_digest 118 = .ok (.iload_n 3, 1) := by decide +kernel
theorem dX4_digest_119 : decode cX4_digest 119 = .ok (.iconst 3, 1) := by decide +kernel
theorem dX4_digest_120 : decode cX4_digest 120 = .ok (.if_icmp .ge 45, 3) := by decide +kernel
theorem dX4_digest_123 : decode cX4_digest 123 = .ok (.ldc2_w 333, 3) := by decide +kernel
theorem dX4_digest_126 : decode cX4_digest 126 = .ok (.lload_n 1, 1) := by decide +kernel
theorem dX4_digest_127 : decode cX4_digest 127 = .ok (.lmul, 1) := by decide +kernel
theorem dX4_digest_128 : decode cX4_digest 128 = .ok (.aload_n 0, 1) := by decide +kernel
theorem dX4_digest_129 : decode cX4_digest 129 = .ok (.getfield 25, 3) := by decide +kernel
theorem dX4_digest_132 : decode cX4_digest 132 = .ok (.iload_n 3, 1) := by decide +kernel
theorem dX4_digest_133 : decode cX4_digest 133 = .ok (.aaload, 1) := by decide +kernel
theorem dX4_digest_134 : decode cX4_digest 134 = .ok (.invokevirtual 170, 3) := by decide +kernel
theorem dX4_digest_137 : decode cX4_digest 137 = .ok (.ifCond .eq 18, 3) := by decide +kernel
theorem dX4_digest_140 : decode cX4_digest 140 = .ok (.aload_n 0, 1) := by decide +kernel
theorem dX4_digest_141 : decode cX4_digest 141 = .ok (.getfield 25, 3) := by decide +kernel
theorem dX4_digest_144 : decode cX4_digest 144 = .ok (.iload_n 3, 1) := by decide +kernel
theorem dX4_digest_145 : decode cX4_digest 145 = .ok (.aaload, 1) := by decide +kernel
theorem dX4_digest_146 : decode cX4_digest 146 = .ok (.getfield 202, 3) := by decide +kernel
theorem dX4_digest_149 : decode cX4_digest 149 = .ok (.getfield 206, 3) := by decide +kernel
theorem dX4_digest_152 : decode cX4_digest 152 = .ok (.goto 4, 3) := by decide +kernel
theorem dX4_digest_155 : decode cX4_digest 155 = .ok (.iconst (-1), 1) := by decide +kernel
theorem dX4_digest_156 : decode cX4_digest 156 = .ok (.i2l, 1) := by decide +kernel
theorem dX4_digest_157 : decode cX4_digest 157 = .ok (.ladd, 1) := by decide +kernel
theorem dX4_digest_158 : decode cX4_digest 158 = .ok (.lstore_n 1, 1) := by decide +kernel
theorem dX4_digest_159 : decode cX4_digest 159 = .ok (.iinc 3 1, 3) := by decide +kernel
theorem dX4_digest_162 : decode cX4_digest 162 = .ok (.goto (-44), 3) := by decide +kernel
theorem dX4_digest_165 : decode cX4_digest 165 = .ok (.iconst 0, 1) := by decide +kernel
theorem dX4_digest_166 : decode cX4_digest 166 = .ok (.istore_n 3, 1) := by decide +kernel
theorem dX4_digest_167 : decode cX4_digest 167 = .ok (.iload_n 3, 1) := by decide +kernel
theorem dX4_digest_168 : decode cX4_digest 168 = .ok (.bipush 6, 2) := by decide +kernel
theorem dX4_digest_170 : decode cX4_digest 170 = .ok (.if_icmp .ge 20, 3) := by decide +kernel
theorem dX4_digest_173 : decode cX4_digest 173 = .ok (.aload_n 0, 1) := by decide +kernel
theorem dX4_digest_174 : decode cX4_digest 174 = .ok (.getfield 11, 3) := by decide +kernel
theorem dX4_digest_177 : decode cX4_digest 177 = .ok (.iload_n 3, 1) := by decide +kernel
theorem dX4_digest_178 : decode cX4_digest 178 = .ok (.aaload, 1) := by decide +kernel
theorem dX4_digest_179 : decode cX4_digest 179 = .ok (.lload_n 1, 1) := by decide +kernel
theorem dX4_digest_180 : decode cX4_digest 180 = .ok (.invokevirtual 341, 3) := by decide +kernel
theorem dX4_digest_183 : decode cX4_digest 183 = .ok (.lstore_n 1, 1) := by decide +kernel
theorem dX4_digest_184 : decode cX4_digest 184 = .ok (.iinc 3 1, 3) := by decide +kernel
theorem dX4_digest_187 : decode cX4_digest 187 = .ok (.goto (-20), 3) := by decide +kernel
theorem dX4_digest_190 : decode cX4_digest 190 = .ok (.iconst 0, 1) := by decide +kernel
theorem dX4_digest_191 : decode cX4_digest 191 = .ok (.istore_n 3, 1) := by decide +kernel
theorem dX4_digest_192 : decode cX4_digest 192 = .ok (.iload_n 3, 1) := by decide +kernel
theorem dX4_digest_193 : decode cX4_digest 193 = .ok (.iconst 4, 1) := by decide +kernel
theorem dX4_digest_194 : decode cX4_digest 194 = .ok (.if_icmp .ge 20, 3) := by decide +kernel
theorem dX4_digest_197 : decode cX4_digest 197 = .ok (.aload_n 0, 1) := by decide +kernel
theorem dX4_digest_198 : decode cX4_digest 198 = .ok (.getfield 15, 3) := by decide +kernel
theorem dX4_digest_201 : decode cX4_digest 201 = .ok (.iload_n 3, 1) := by decide +kernel
theorem dX4_digest_202 : decode cX4_digest 202 = .ok (.aaload, 1) := by decide +kernel
theorem dX4_digest_203 : decode cX4_digest 203 = .ok (.lload_n 1, 1) := by decide +kernel
theorem dX4_digest_204 : decode cX4_digest 204 = .ok (.invokevirtual 341, 3) := by decide +kernel
theorem dX4_digest_207 : decode cX4_digest 207 = .ok (.lstore_n 1, 1) := by decide +kernel
theorem dX4_digest_208 : decode cX4_digest 208 = .ok (.iinc 3 1, 3) := by decide +kernel
theorem dX4_digest_211 : decode cX4_digest 211 = .ok (.goto (-19), 3) := by decide +kernel
theorem dX4_digest_214 : decode cX4_digest 214 = .ok (.lload_n 1, 1) := by decide +kernel
theorem dX4_digest_215 : decode cX4_digest 215 = .ok (.lreturn, 1) := by decide +kernel
theorem dX4_isRow_0 : decode cX4_isRow 0 = .ok (.iload_n 0, 1) := by decide +kernel
theorem dX4_isRow_1 : decode cX4_isRow 1 = .ok (.ifCond .lt 13, 3) := by decide +kernel
theorem dX4_isRow_4 : decode cX4_isRow 4 = .ok (.iload_n 0, 1) := by decide +kernel
theorem dX4_isRow_5 : decode cX4_isRow 5 = .ok (.bipush 6, 2) := by decide +kernel
theorem dX4_isRow_7 : decode cX4_isRow 7 = .ok (.if_icmp .ge 7, 3) := by decide +kernel
theorem dX4_isRow_10 : decode cX4_isRow 10 = .ok (.iconst 1, 1) := by decide +kernel
theorem dX4_isRow_11 : decode cX4_isRow 11 = .ok (.goto 4, 3) := by decide +kernel
theorem dX4_isRow_14 : decode cX4_isRow 14 = .ok (.iconst 0, 1) := by decide +kernel
theorem dX4_isRow_15 : decode cX4_isRow 15 = .ok (.ireturn, 1) := by decide +kernel
theorem dX4_isText_0 : decode cX4_isText 0 = .ok (.iload_n 0, 1) := by decide +kernel
theorem dX4_isText_1 : decode cX4_isText 1 = .ok (.ifCond .lt 12, 3) := by decide +kernel
theorem dX4_isText_4 : decode cX4_isText 4 = .ok (.iload_n 0, 1) := by decide +kernel
theorem dX4_isText_5 : decode cX4_isText 5 = .ok (.iconst 4, 1) := by decide +kernel
theorem dX4_isText_6 : decode cX4_isText 6 = .ok (.if_icmp .ge 7, 3) := by decide +kernel
theorem dX4_isText_9 : decode cX4_isText 9 = .ok (.iconst 1, 1) := by decide +kernel
theorem dX4_isText_10 : decode cX4_isText 10 = .ok (.goto 4, 3) := by decide +kernel
theorem dX4_isText_13 : decode cX4_isText 13 = .ok (.iconst 0, 1) := by decide +kernel
theorem dX4_isText_14 : decode cX4_isText 14 = .ok (.ireturn, 1) := by decide +kernel
theorem dX4_isKept_0 : decode cX4_isKept 0 = .ok (.iload_n 0, 1) := by decide +kernel
theorem dX4_isKept_1 : decode cX4_isKept 1 = .ok (.ifCond .lt 12, 3) := by decide +kernel
theorem dX4_isKept_4 : decode cX4_isKept 4 = .ok (.iload_n 0, 1) := by decide +kernel
theorem dX4_isKept_5 : decode cX4_isKept 5 = .ok (.iconst 3, 1) := by decide +kernel
theorem dX4_isKept_6 : decode cX4_isKept 6 = .ok (.if_icmp .ge 7, 3) := by decide +kernel
theorem dX4_isKept_9 : decode cX4_isKept 9 = .ok (.iconst 1, 1) := by decide +kernel
theorem dX4_isKept_10 : decode cX4_isKept 10 = .ok (.goto 4, 3) := by decide +kernel
theorem dX4_isKept_13 : decode cX4_isKept 13 = .ok (.iconst 0, 1) := by decide +kernel
theorem dX4_isKept_14 : decode cX4_isKept 14 = .ok (.ireturn, 1) := by decide +kernel
theorem dX4_refuse_0 : decode cX4_refuse 0 = .ok (.iload_n 1, 1) := by decide +kernel
theorem dX4_refuse_1 : decode cX4_refuse 1 = .ok (.iconst 1, 1) := by decide +kernel
theorem dX4_refuse_2 : decode cX4_refuse 2 = .ok (.if_icmp .lt 23, 3) := by decide +kernel
theorem dX4_refuse_5 : decode cX4_refuse 5 = .ok (.iload_n 1, 1) := by decide +kernel
theorem dX4_refuse_6 : decode cX4_refuse 6 = .ok (.iconst 5, 1) := by decide +kernel
theorem dX4_refuse_7 : decode cX4_refuse 7 = .ok (.if_icmp .gt 18, 3) := by decide +kernel
theorem dX4_refuse_10 : decode cX4_refuse 10 = .ok (.aload_n 0, 1) := by decide +kernel
theorem dX4_refuse_11 : decode cX4_refuse 11 = .ok (.iload_n 1, 1) := by decide +kernel
theorem dX4_refuse_12 : decode cX4_refuse 12 = .ok (.putfield 46, 3) := by decide +kernel
theorem dX4_refuse_15 : decode cX4_refuse 15 = .ok (.aload_n 0, 1) := by decide +kernel
theorem dX4_refuse_16 : decode cX4_refuse 16 = .ok (.getfield 43, 3) := by decide +kernel
theorem dX4_refuse_19 : decode cX4_refuse 19 = .ok (.iload_n 1, 1) := by decide +kernel
theorem dX4_refuse_20 : decode cX4_refuse 20 = .ok (.dup2, 1) := by decide +kernel
theorem dX4_refuse_21 : decode cX4_refuse 21 = .ok (.iaload, 1) := by decide +kernel
theorem dX4_refuse_22 : decode cX4_refuse 22 = .ok (.iconst 1, 1) := by decide +kernel
theorem dX4_refuse_23 : decode cX4_refuse 23 = .ok (.iadd, 1) := by decide +kernel
theorem dX4_refuse_24 : decode cX4_refuse 24 = .ok (.iastore, 1) := by decide +kernel
theorem dX4_refuse_25 : decode cX4_refuse 25 = .ok (.bipush (-3), 2) := by decide +kernel
theorem dX4_refuse_27 : decode cX4_refuse 27 = .ok (.ireturn, 1) := by decide +kernel
theorem dX4_refuseMissing_0 : decode cX4_refuseMissing 0 = .ok (.iload_n 2, 1) := by decide +kernel
theorem dX4_refuseMissing_1 : decode cX4_refuseMissing 1 = .ok (.ifCond .lt 9, 3) := by decide +kernel
theorem dX4_refuseMissing_4 : decode cX4_refuseMissing 4 = .ok (.iload_n 2, 1) := by decide +kernel
theorem dX4_refuseMissing_5 : decode cX4_refuseMissing 5 = .ok (.aload_n 1, 1) := by decide +kernel
theorem dX4_refuseMissing_6 : decode cX4_refuseMissing 6 = .ok (.arraylength, 1) := by decide +kernel
theorem dX4_refuseMissing_7 : decode cX4_refuseMissing 7 = .ok (.if_icmp .lt 5, 3) := by decide +kernel
theorem dX4_refuseMissing_10 : decode cX4_refuseMissing 10 = .ok (.iconst (-1), 1) := by decide +kernel
theorem dX4_refuseMissing_11 : decode cX4_refuseMissing 11 = .ok (.ireturn, 1) := by decide +kernel
theorem dX4_refuseMissing_12 : decode cX4_refuseMissing 12 = .ok (.aload_n 1, 1) := by decide +kernel
theorem dX4_refuseMissing_13 : decode cX4_refuseMissing 13 = .ok (.iload_n 2, 1) := by decide +kernel
theorem dX4_refuseMissing_14 : decode cX4_refuseMissing 14 = .ok (.aaload, 1) := by decide +kernel
theorem dX4_refuseMissing_15 : decode cX4_refuseMissing 15 = .ok (.invokevirtual 89, 3) := by decide +kernel
theorem dX4_refuseMissing_18 : decode cX4_refuseMissing 18 = .ok (.ifCond .eq 11, 3) := by decide +kernel
theorem dX4_refuseMissing_21 : decode cX4_refuseMissing 21 = .ok (.aload_n 0, 1) := by decide +kernel
theorem dX4_refuseMissing_22 : decode cX4_refuseMissing 22 = .ok (.iconst 1, 1) := by decide +kernel
theorem dX4_refuseMissing_23 : decode cX4_refuseMissing 23 = .ok (.invokevirtual 67, 3) := by decide +kernel
theorem dX4_refuseMissing_26 : decode cX4_refuseMissing 26 = .ok (.goto 4, 3) := by decide +kernel
theorem dX4_refuseMissing_29 : decode cX4_refuseMissing 29 = .ok (.iconst 0, 1) := by decide +kernel
theorem dX4_refuseMissing_30 : decode cX4_refuseMissing 30 = .ok (.ireturn, 1) := by decide +kernel
theorem dX4_refusePlace_0 : decode cX4_refusePlace 0 = .ok (.aload_n 0, 1) := by decide +kernel
theorem dX4_refusePlace_1 : decode cX4_refusePlace 1 = .ok (.aload_n 1, 1) := by decide +kernel
theorem dX4_refusePlace_2 : decode cX4_refusePlace 2 = .ok (.iload_n 2, 1) := by decide +kernel
theorem dX4_refusePlace_3 : decode cX4_refusePlace 3 = .ok (.invokevirtual 82, 3) := by decide +kernel
theorem dX4_refusePlace_6 : decode cX4_refusePlace 6 = .ok (.istore 4, 2) := by decide +kernel
theorem dX4_refusePlace_8 : decode cX4_refusePlace 8 = .ok (.iload 4, 2) := by decide +kernel
theorem dX4_refusePlace_10 : decode cX4_refusePlace 10 = .ok (.ifCond .eq 6, 3) := by decide +kernel
theorem dX4_refusePlace_13 : decode cX4_refusePlace 13 = .ok (.iload 4, 2) := by decide +kernel
theorem dX4_refusePlace_15 : decode cX4_refusePlace 15 = .ok (.ireturn, 1) := by decide +kernel
theorem dX4_refusePlace_16 : decode cX4_refusePlace 16 = .ok (.aload_n 1, 1) := by decide +kernel
theorem dX4_refusePlace_17 : decode cX4_refusePlace 17 = .ok (.iload_n 2, 1) := by decide +kernel
theorem dX4_refusePlace_18 : decode cX4_refusePlace 18 = .ok (.aaload, 1) := by decide +kernel
theorem dX4_refusePlace_19 : decode cX4_refusePlace 19 = .ok (.iload_n 3, 1) := by decide +kernel
theorem dX4_refusePlace_20 : decode cX4_refusePlace 20 = .ok (.invokevirtual 345, 3) := by decide +kernel
theorem dX4_refusePlace_23 : decode cX4_refusePlace 23 = .ok (.ifCond .eq 7, 3) := by decide +kernel
theorem dX4_refusePlace_26 : decode cX4_refusePlace 26 = .ok (.iconst 0, 1) := by decide +kernel
theorem dX4_refusePlace_27 : decode cX4_refusePlace 27 = .ok (.goto 8, 3) := by decide +kernel
theorem dX4_refusePlace_30 : decode cX4_refusePlace 30 = .ok (.aload_n 0, 1) := by decide +kernel
theorem dX4_refusePlace_31 : decode cX4_refusePlace 31 = .ok (.iconst 2, 1) := by decide +kernel
theorem dX4_refusePlace_32 : decode cX4_refusePlace 32 = .ok (.invokevirtual 67, 3) := by decide +kernel
theorem dX4_refusePlace_35 : decode cX4_refusePlace 35 = .ok (.ireturn, 1) := by decide +kernel
theorem dX4_ofOne_0 : decode cX4_ofOne 0 = .ok (.iload_n 2, 1) := by decide +kernel
theorem dX4_ofOne_1 : decode cX4_ofOne 1 = .ok (.tableswitch 84 0 4 #[35, 45, 55, 65, 74], 35) := by decide +kernel
theorem dX4_ofOne_36 : decode cX4_ofOne 36 = .ok (.aload_n 0, 1) := by decide +kernel
theorem dX4_ofOne_37 : decode cX4_ofOne 37 = .ok (.getfield 21, 3) := by decide +kernel
theorem dX4_ofOne_40 : decode cX4_ofOne 40 = .ok (.getfield 288, 3) := by decide +kernel
theorem dX4_ofOne_43 : decode cX4_ofOne 43 = .ok (.iload_n 1, 1) := by decide +kernel
theorem dX4_ofOne_44 : decode cX4_ofOne 44 = .ok (.iaload, 1) := by decide +kernel
theorem dX4_ofOne_45 : decode cX4_ofOne 45 = .ok (.ireturn, 1) := by decide +kernel
theorem dX4_ofOne_46 : decode cX4_ofOne 46 = .ok (.aload_n 0, 1) := by decide +kernel
theorem dX4_ofOne_47 : decode cX4_ofOne 47 = .ok (.getfield 21, 3) := by decide +kernel
theorem dX4_ofOne_50 : decode cX4_ofOne 50 = .ok (.getfield 137, 3) := by decide +kernel
theorem dX4_ofOne_53 : decode cX4_ofOne 53 = .ok (.iload_n 1, 1) := by decide +kernel
theorem dX4_ofOne_54 : decode cX4_ofOne 54 = .ok (.iaload, 1) := by decide +kernel
theorem dX4_ofOne_55 : decode cX4_ofOne 55 = .ok (.ireturn, 1) := by decide +kernel
theorem dX4_ofOne_56 : decode cX4_ofOne 56 = .ok (.aload_n 0, 1) := by decide +kernel
theorem dX4_ofOne_57 : decode cX4_ofOne 57 = .ok (.getfield 21, 3) := by decide +kernel
theorem dX4_ofOne_60 : decode cX4_ofOne 60 = .ok (.getfield 140, 3) := by decide +kernel
end
section
theorem dX4_ofOne_63 : decode cX4_ofOne 63 = .ok (.iload_n 1, 1) := by decide +kernel
theorem dX4_ofOne_64 : decode cX4_ofOne 64 = .ok (.iaload, 1) := by decide +kernel
theorem dX4_ofOne_65 : decode cX4_ofOne 65 = .ok (.ireturn, 1) := by decide +kernel
theorem dX4_ofOne_66 : decode cX4_ofOne 66 = .ok (.aload_n 0, 1) := by decide +kernel
theorem dX4_ofOne_67 : decode cX4_ofOne 67 = .ok (.getfield 21, 3) := by decide +kernel
theorem dX4_ofOne_70 : decode cX4_ofOne 70 = .ok (.iload_n 1, 1) := by decide +kernel
theorem dX4_ofOne_71 : decode cX4_ofOne 71 = .ok (.invokevirtual 348, 3) := by decide +kernel
theorem dX4_ofOne_74 : decode cX4_ofOne 74 = .ok (.ireturn, 1) := by decide +kernel
theorem dX4_ofOne_75 : decode cX4_ofOne 75 = .ok (.aload_n 0, 1) := by decide +kernel
theorem dX4_ofOne_76 : decode cX4_ofOne 76 = .ok (.getfield 21, 3) := by decide +kernel
theorem dX4_ofOne_79 : decode cX4_ofOne 79 = .ok (.getfield 351, 3) := by decide +kernel
theorem dX4_ofOne_82 : decode cX4_ofOne 82 = .ok (.iload_n 1, 1) := by decide +kernel
theorem dX4_ofOne_83 : decode cX4_ofOne 83 = .ok (.iaload, 1) := by decide +kernel
theorem dX4_ofOne_84 : decode cX4_ofOne 84 = .ok (.ireturn, 1) := by decide +kernel
theorem dX4_ofOne_85 : decode cX4_ofOne 85 = .ok (.aload_n 0, 1) := by decide +kernel
theorem dX4_ofOne_86 : decode cX4_ofOne 86 = .ok (.getfield 21, 3) := by decide +kernel
theorem dX4_ofOne_89 : decode cX4_ofOne 89 = .ok (.iload_n 1, 1) := by decide +kernel
theorem dX4_ofOne_90 : decode cX4_ofOne 90 = .ok (.invokevirtual 199, 3) := by decide +kernel
theorem dX4_ofOne_93 : decode cX4_ofOne 93 = .ok (.ifCond .eq 7, 3) := by decide +kernel
theorem dX4_ofOne_96 : decode cX4_ofOne 96 = .ok (.iconst 1, 1) := by decide +kernel
theorem dX4_ofOne_97 : decode cX4_ofOne 97 = .ok (.goto 4, 3) := by decide +kernel
theorem dX4_ofOne_100 : decode cX4_ofOne 100 = .ok (.iconst 0, 1) := by decide +kernel
theorem dX4_ofOne_101 : decode cX4_ofOne 101 = .ok (.ireturn, 1) := by decide +kernel
theorem dX4_thereOf_0 : decode cX4_thereOf 0 = .ok (.iconst 0, 1) := by decide +kernel
theorem dX4_thereOf_1 : decode cX4_thereOf 1 = .ok (.istore_n 1, 1) := by decide +kernel
theorem dX4_thereOf_2 : decode cX4_thereOf 2 = .ok (.iconst 0, 1) := by decide +kernel
theorem dX4_thereOf_3 : decode cX4_thereOf 3 = .ok (.istore_n 2, 1) := by decide +kernel
theorem dX4_thereOf_4 : decode cX4_thereOf 4 = .ok (.iload_n 2, 1) := by decide +kernel
theorem dX4_thereOf_5 : decode cX4_thereOf 5 = .ok (.aload_n 0, 1) := by decide +kernel
theorem dX4_thereOf_6 : decode cX4_thereOf 6 = .ok (.arraylength, 1) := by decide +kernel
theorem dX4_thereOf_7 : decode cX4_thereOf 7 = .ok (.if_icmp .ge 21, 3) := by decide +kernel
theorem dX4_thereOf_10 : decode cX4_thereOf 10 = .ok (.aload_n 0, 1) := by decide +kernel
theorem dX4_thereOf_11 : decode cX4_thereOf 11 = .ok (.iload_n 2, 1) := by decide +kernel
theorem dX4_thereOf_12 : decode cX4_thereOf 12 = .ok (.aaload, 1) := by decide +kernel
theorem dX4_thereOf_13 : decode cX4_thereOf 13 = .ok (.invokevirtual 89, 3) := by decide +kernel
theorem dX4_thereOf_16 : decode cX4_thereOf 16 = .ok (.ifCond .ne 6, 3) := by decide +kernel
theorem dX4_thereOf_19 : decode cX4_thereOf 19 = .ok (.iinc 1 1, 3) := by decide +kernel
theorem dX4_thereOf_22 : decode cX4_thereOf 22 = .ok (.iinc 2 1, 3) := by decide +kernel
theorem dX4_thereOf_25 : decode cX4_thereOf 25 = .ok (.goto (-21), 3) := by decide +kernel
theorem dX4_thereOf_28 : decode cX4_thereOf 28 = .ok (.iload_n 1, 1) := by decide +kernel
theorem dX4_thereOf_29 : decode cX4_thereOf 29 = .ok (.ireturn, 1) := by decide +kernel
theorem dX4_keptLands_0 : decode cX4_keptLands 0 = .ok (.iconst 0, 1) := by decide +kernel
theorem dX4_keptLands_1 : decode cX4_keptLands 1 = .ok (.istore_n 1, 1) := by decide +kernel
theorem dX4_keptLands_2 : decode cX4_keptLands 2 = .ok (.iconst 0, 1) := by decide +kernel
theorem dX4_keptLands_3 : decode cX4_keptLands 3 = .ok (.istore_n 2, 1) := by decide +kernel
theorem dX4_keptLands_4 : decode cX4_keptLands 4 = .ok (.iload_n 2, 1) := by decide +kernel
theorem dX4_keptLands_5 : decode cX4_keptLands 5 = .ok (.iconst 3, 1) := by decide +kernel
theorem dX4_keptLands_6 : decode cX4_keptLands 6 = .ok (.if_icmp .ge 24, 3) := by decide +kernel
theorem dX4_keptLands_9 : decode cX4_keptLands 9 = .ok (.aload_n 0, 1) := by decide +kernel
theorem dX4_keptLands_10 : decode cX4_keptLands 10 = .ok (.getfield 25, 3) := by decide +kernel
theorem dX4_keptLands_13 : decode cX4_keptLands 13 = .ok (.iload_n 2, 1) := by decide +kernel
theorem dX4_keptLands_14 : decode cX4_keptLands 14 = .ok (.aaload, 1) := by decide +kernel
theorem dX4_keptLands_15 : decode cX4_keptLands 15 = .ok (.invokevirtual 170, 3) := by decide +kernel
theorem dX4_keptLands_18 : decode cX4_keptLands 18 = .ok (.ifCond .eq 6, 3) := by decide +kernel
theorem dX4_keptLands_21 : decode cX4_keptLands 21 = .ok (.iinc 1 1, 3) := by decide +kernel
theorem dX4_keptLands_24 : decode cX4_keptLands 24 = .ok (.iinc 2 1, 3) := by decide +kernel
theorem dX4_keptLands_27 : decode cX4_keptLands 27 = .ok (.goto (-23), 3) := by decide +kernel
theorem dX4_keptLands_30 : decode cX4_keptLands 30 = .ok (.iload_n 1, 1) := by decide +kernel
theorem dX4_keptLands_31 : decode cX4_keptLands 31 = .ok (.ireturn, 1) := by decide +kernel
theorem dX4_nextSeated_0 : decode cX4_nextSeated 0 = .ok (.iconst (-1), 1) := by decide +kernel
theorem dX4_nextSeated_1 : decode cX4_nextSeated 1 = .ok (.istore_n 2, 1) := by decide +kernel
theorem dX4_nextSeated_2 : decode cX4_nextSeated 2 = .ok (.iconst 0, 1) := by decide +kernel
theorem dX4_nextSeated_3 : decode cX4_nextSeated 3 = .ok (.istore_n 3, 1) := by decide +kernel
theorem dX4_nextSeated_4 : decode cX4_nextSeated 4 = .ok (.iload_n 3, 1) := by decide +kernel
theorem dX4_nextSeated_5 : decode cX4_nextSeated 5 = .ok (.aload_n 0, 1) := by decide +kernel
theorem dX4_nextSeated_6 : decode cX4_nextSeated 6 = .ok (.getfield 21, 3) := by decide +kernel
theorem dX4_nextSeated_9 : decode cX4_nextSeated 9 = .ok (.getfield 124, 3) := by decide +kernel
theorem dX4_nextSeated_12 : decode cX4_nextSeated 12 = .ok (.if_icmp .ge 74, 3) := by decide +kernel
theorem dX4_nextSeated_15 : decode cX4_nextSeated 15 = .ok (.aload_n 0, 1) := by decide +kernel
theorem dX4_nextSeated_16 : decode cX4_nextSeated 16 = .ok (.getfield 21, 3) := by decide +kernel
theorem dX4_nextSeated_19 : decode cX4_nextSeated 19 = .ok (.iload_n 3, 1) := by decide +kernel
theorem dX4_nextSeated_20 : decode cX4_nextSeated 20 = .ok (.invokevirtual 199, 3) := by decide +kernel
theorem dX4_nextSeated_23 : decode cX4_nextSeated 23 = .ok (.ifCond .eq 57, 3) := by decide +kernel
theorem dX4_nextSeated_26 : decode cX4_nextSeated 26 = .ok (.aload_n 0, 1) := by decide +kernel
theorem dX4_nextSeated_27 : decode cX4_nextSeated 27 = .ok (.getfield 21, 3) := by decide +kernel
theorem dX4_nextSeated_30 : decode cX4_nextSeated 30 = .ok (.iload_n 3, 1) := by decide +kernel
theorem dX4_nextSeated_31 : decode cX4_nextSeated 31 = .ok (.invokevirtual 348, 3) := by decide +kernel
theorem dX4_nextSeated_34 : decode cX4_nextSeated 34 = .ok (.ifCond .le 46, 3) := by decide +kernel
theorem dX4_nextSeated_37 : decode cX4_nextSeated 37 = .ok (.iload_n 2, 1) := by decide +kernel
theorem dX4_nextSeated_38 : decode cX4_nextSeated 38 = .ok (.ifCond .lt 40, 3) := by decide +kernel
theorem dX4_nextSeated_41 : decode cX4_nextSeated 41 = .ok (.aload_n 0, 1) := by decide +kernel
theorem dX4_nextSeated_42 : decode cX4_nextSeated 42 = .ok (.getfield 21, 3) := by decide +kernel
theorem dX4_nextSeated_45 : decode cX4_nextSeated 45 = .ok (.iload_n 3, 1) := by decide +kernel
theorem dX4_nextSeated_46 : decode cX4_nextSeated 46 = .ok (.invokevirtual 348, 3) := by decide +kernel
theorem dX4_nextSeated_49 : decode cX4_nextSeated 49 = .ok (.aload_n 1, 1) := by decide +kernel
theorem dX4_nextSeated_50 : decode cX4_nextSeated 50 = .ok (.getfield 79, 3) := by decide +kernel
theorem dX4_nextSeated_53 : decode cX4_nextSeated 53 = .ok (.iload_n 2, 1) := by decide +kernel
theorem dX4_nextSeated_54 : decode cX4_nextSeated 54 = .ok (.iaload, 1) := by decide +kernel
theorem dX4_nextSeated_55 : decode cX4_nextSeated 55 = .ok (.iconst 1, 1) := by decide +kernel
theorem dX4_nextSeated_56 : decode cX4_nextSeated 56 = .ok (.iadd, 1) := by decide +kernel
theorem dX4_nextSeated_57 : decode cX4_nextSeated 57 = .ok (.imul, 1) := by decide +kernel
theorem dX4_nextSeated_58 : decode cX4_nextSeated 58 = .ok (.aload_n 0, 1) := by decide +kernel
theorem dX4_nextSeated_59 : decode cX4_nextSeated 59 = .ok (.getfield 21, 3) := by decide +kernel
theorem dX4_nextSeated_62 : decode cX4_nextSeated 62 = .ok (.iload_n 2, 1) := by decide +kernel
theorem dX4_nextSeated_63 : decode cX4_nextSeated 63 = .ok (.invokevirtual 348, 3) := by decide +kernel
theorem dX4_nextSeated_66 : decode cX4_nextSeated 66 = .ok (.aload_n 1, 1) := by decide +kernel
theorem dX4_nextSeated_67 : decode cX4_nextSeated 67 = .ok (.getfield 79, 3) := by decide +kernel
theorem dX4_nextSeated_70 : decode cX4_nextSeated 70 = .ok (.iload_n 3, 1) := by decide +kernel
theorem dX4_nextSeated_71 : decode cX4_nextSeated 71 = .ok (.iaload, 1) := by decide +kernel
theorem dX4_nextSeated_72 : decode cX4_nextSeated 72 = .ok (.iconst 1, 1) := by decide +kernel
theorem dX4_nextSeated_73 : decode cX4_nextSeated 73 = .ok (.iadd, 1) := by decide +kernel
theorem dX4_nextSeated_74 : decode cX4_nextSeated 74 = .ok (.imul, 1) := by decide +kernel
theorem dX4_nextSeated_75 : decode cX4_nextSeated 75 = .ok (.if_icmp .le 5, 3) := by decide +kernel
theorem dX4_nextSeated_78 : decode cX4_nextSeated 78 = .ok (.iload_n 3, 1) := by decide +kernel
theorem dX4_nextSeated_79 : decode cX4_nextSeated 79 = .ok (.istore_n 2, 1) := by decide +kernel
theorem dX4_nextSeated_80 : decode cX4_nextSeated 80 = .ok (.iinc 3 1, 3) := by decide +kernel
theorem dX4_nextSeated_83 : decode cX4_nextSeated 83 = .ok (.goto (-79), 3) := by decide +kernel
theorem dX4_nextSeated_86 : decode cX4_nextSeated 86 = .ok (.iload_n 2, 1) := by decide +kernel
theorem dX4_nextSeated_87 : decode cX4_nextSeated 87 = .ok (.ireturn, 1) := by decide +kernel
theorem dX4_votesByTurns_0 : decode cX4_votesByTurns 0 = .ok (.iload_n 1, 1) := by decide +kernel
theorem dX4_votesByTurns_1 : decode cX4_votesByTurns 1 = .ok (.ifCond .gt 11, 3) := by decide +kernel
theorem dX4_votesByTurns_4 : decode cX4_votesByTurns 4 = .ok (.aload_n 0, 1) := by decide +kernel
theorem dX4_votesByTurns_5 : decode cX4_votesByTurns 5 = .ok (.iload_n 3, 1) := by decide +kernel
theorem dX4_votesByTurns_6 : decode cX4_votesByTurns 6 = .ok (.iload 4, 2) := by decide +kernel
theorem dX4_votesByTurns_8 : decode cX4_votesByTurns 8 = .ok (.invokevirtual 173, 3) := by decide +kernel
theorem dX4_votesByTurns_11 : decode cX4_votesByTurns 11 = .ok (.ireturn, 1) := by decide +kernel
theorem dX4_votesByTurns_12 : decode cX4_votesByTurns 12 = .ok (.iload_n 2, 1) := by decide +kernel
theorem dX4_votesByTurns_13 : decode cX4_votesByTurns 13 = .ok (.ifCond .ne 7, 3) := by decide +kernel
theorem dX4_votesByTurns_16 : decode cX4_votesByTurns 16 = .ok (.iconst 1, 1) := by decide +kernel
theorem dX4_votesByTurns_17 : decode cX4_votesByTurns 17 = .ok (.goto 4, 3) := by decide +kernel
theorem dX4_votesByTurns_20 : decode cX4_votesByTurns 20 = .ok (.iconst 0, 1) := by decide +kernel
theorem dX4_votesByTurns_21 : decode cX4_votesByTurns 21 = .ok (.istore 5, 2) := by decide +kernel
theorem dX4_votesByTurns_23 : decode cX4_votesByTurns 23 = .ok (.aload_n 0, 1) := by decide +kernel
theorem dX4_votesByTurns_24 : decode cX4_votesByTurns 24 = .ok (.iload_n 1, 1) := by decide +kernel
theorem dX4_votesByTurns_25 : decode cX4_votesByTurns 25 = .ok (.iconst 1, 1) := by decide +kernel
theorem dX4_votesByTurns_26 : decode cX4_votesByTurns 26 = .ok (.isub, 1) := by decide +kernel
theorem dX4_votesByTurns_27 : decode cX4_votesByTurns 27 = .ok (.iload 5, 2) := by decide +kernel
theorem dX4_votesByTurns_29 : decode cX4_votesByTurns 29 = .ok (.iload_n 3, 1) := by decide +kernel
theorem dX4_votesByTurns_30 : decode cX4_votesByTurns 30 = .ok (.iload 4, 2) := by decide +kernel
theorem dX4_votesByTurns_32 : decode cX4_votesByTurns 32 = .ok (.invokestatic 263, 3) := by decide +kernel
theorem dX4_votesByTurns_35 : decode cX4_votesByTurns 35 = .ok (.istore 6, 2) := by decide +kernel
theorem dX4_votesByTurns_37 : decode cX4_votesByTurns 37 = .ok (.aload_n 0, 1) := by decide +kernel
theorem dX4_votesByTurns_38 : decode cX4_votesByTurns 38 = .ok (.iload_n 2, 1) := by decide +kernel
theorem dX4_votesByTurns_39 : decode cX4_votesByTurns 39 = .ok (.iconst 1, 1) := by decide +kernel
theorem dX4_votesByTurns_40 : decode cX4_votesByTurns 40 = .ok (.iload_n 3, 1) := by decide +kernel
theorem dX4_votesByTurns_41 : decode cX4_votesByTurns 41 = .ok (.iload 4, 2) := by decide +kernel
theorem dX4_votesByTurns_43 : decode cX4_votesByTurns 43 = .ok (.invokevirtual 188, 3) := by decide +kernel
theorem dX4_votesByTurns_46 : decode cX4_votesByTurns 46 = .ok (.ifCond .eq 50, 3) := by decide +kernel
theorem dX4_votesByTurns_49 : decode cX4_votesByTurns 49 = .ok (.iload_n 2, 1) := by decide +kernel
theorem dX4_votesByTurns_50 : decode cX4_votesByTurns 50 = .ok (.ifCond .ne 20, 3) := by decide +kernel
theorem dX4_votesByTurns_53 : decode cX4_votesByTurns 53 = .ok (.aload_n 0, 1) := by decide +kernel
theorem dX4_votesByTurns_54 : decode cX4_votesByTurns 54 = .ok (.iload_n 1, 1) := by decide +kernel
theorem dX4_votesByTurns_55 : decode cX4_votesByTurns 55 = .ok (.iconst 1, 1) := by decide +kernel
theorem dX4_votesByTurns_56 : decode cX4_votesByTurns 56 = .ok (.isub, 1) := by decide +kernel
theorem dX4_votesByTurns_57 : decode cX4_votesByTurns 57 = .ok (.iload 5, 2) := by decide +kernel
theorem dX4_votesByTurns_59 : decode cX4_votesByTurns 59 = .ok (.iload_n 3, 1) := by decide +kernel
theorem dX4_votesByTurns_60 : decode cX4_votesByTurns 60 = .ok (.iconst 1, 1) := by decide +kernel
theorem dX4_votesByTurns_61 : decode cX4_votesByTurns 61 = .ok (.isub, 1) := by decide +kernel
theorem dX4_votesByTurns_62 : decode cX4_votesByTurns 62 = .ok (.iload 4, 2) := by decide +kernel
theorem dX4_votesByTurns_64 : decode cX4_votesByTurns 64 = .ok (.invokestatic 263, 3) := by decide +kernel
theorem dX4_votesByTurns_67 : decode cX4_votesByTurns 67 = .ok (.goto 17, 3) := by decide +kernel
theorem dX4_votesByTurns_70 : decode cX4_votesByTurns 70 = .ok (.aload_n 0, 1) := by decide +kernel
theorem dX4_votesByTurns_71 : decode cX4_votesByTurns 71 = .ok (.iload_n 1, 1) := by decide +kernel
theorem dX4_votesByTurns_72 : decode cX4_votesByTurns 72 = .ok (.iconst 1, 1) := by decide +kernel
theorem dX4_votesByTurns_73 : decode cX4_votesByTurns 73 = .ok (.isub, 1) := by decide +kernel
theorem dX4_votesByTurns_74 : decode cX4_votesByTurns 74 = .ok (.iload 5, 2) := by decide +kernel
theorem dX4_votesByTurns_76 : decode cX4_votesByTurns 76 = .ok (.iload_n 3, 1) := by decide +kernel
theorem dX4_votesByTurns_77 : decode cX4_votesByTurns 77 = .ok (.iload 4, 2) := by decide +kernel
theorem dX4_votesByTurns_79 : decode cX4_votesByTurns 79 = .ok (.iconst 1, 1) := by decide +kernel
theorem dX4_votesByTurns_80 : decode cX4_votesByTurns 80 = .ok (.iadd, 1) := by decide +kernel
theorem dX4_votesByTurns_81 : decode cX4_votesByTurns 81 = .ok (.invokestatic 263, 3) := by decide +kernel
theorem dX4_votesByTurns_84 : decode cX4_votesByTurns 84 = .ok (.istore 7, 2) := by decide +kernel
theorem dX4_votesByTurns_86 : decode cX4_votesByTurns 86 = .ok (.iload_n 2, 1) := by decide +kernel
theorem dX4_votesByTurns_87 : decode cX4_votesByTurns 87 = .ok (.iload 6, 2) := by decide +kernel
theorem dX4_votesByTurns_89 : decode cX4_votesByTurns 89 = .ok (.iload 7, 2) := by decide +kernel
theorem dX4_votesByTurns_91 : decode cX4_votesByTurns 91 = .ok (.invokestatic 354, 3) := by decide +kernel
theorem dX4_votesByTurns_94 : decode cX4_votesByTurns 94 = .ok (.istore 6, 2) := by decide +kernel
theorem dX4_votesByTurns_96 : decode cX4_votesByTurns 96 = .ok (.aload_n 0, 1) := by decide +kernel
theorem dX4_votesByTurns_97 : decode cX4_votesByTurns 97 = .ok (.iload_n 2, 1) := by decide +kernel
theorem dX4_votesByTurns_98 : decode cX4_votesByTurns 98 = .ok (.iconst (-1), 1) := by decide +kernel
theorem dX4_votesByTurns_99 : decode cX4_votesByTurns 99 = .ok (.iload_n 3, 1) := by decide +kernel
theorem dX4_votesByTurns_100 : decode cX4_votesByTurns 100 = .ok (.iload 4, 2) := by decide +kernel
theorem dX4_votesByTurns_102 : decode cX4_votesByTurns 102 = .ok (.invokevirtual 188, 3) := by decide +kernel
theorem dX4_votesByTurns_105 : decode cX4_votesByTurns 105 = .ok (.ifCond .eq 50, 3) := by decide +kernel
theorem dX4_votesByTurns_108 : decode cX4_votesByTurns 108 = .ok (.iload_n 2, 1) := by decide +kernel
theorem dX4_votesByTurns_109 : decode cX4_votesByTurns 109 = .ok (.ifCond .ne 20, 3) := by decide +kernel
theorem dX4_votesByTurns_112 : decode cX4_votesByTurns 112 = .ok (.aload_n 0, 1) := by decide +kernel
theorem dX4_votesByTurns_113 : decode cX4_votesByTurns 113 = .ok (.iload_n 1, 1) := by decide +kernel
theorem dX4_votesByTurns_114 : decode cX4_votesByTurns 114 = .ok (.iconst 1, 1) := by decide +kernel
theorem dX4_votesByTurns_115 : decode cX4_votesByTurns 115 = .ok (.isub, 1) := by decide +kernel
theorem dX4_votesByTurns_116 : decode cX4_votesByTurns 116 = .ok (.iload 5, 2) := by decide +kernel
theorem dX4_votesByTurns_118 : decode cX4_votesByTurns 118 = .ok (.iload_n 3, 1) := by decide +kernel
theorem dX4_votesByTurns_119 : decode cX4_votesByTurns 119 = .ok (.iconst 1, 1) := by decide +kernel
theorem dX4_votesByTurns_120 : decode cX4_votesByTurns 120 = .ok (.iadd, 1) := by decide +kernel
theorem dX4_votesByTurns_121 : decode cX4_votesByTurns 121 = .ok (.iload 4, 2) := by decide +kernel
theorem dX4_votesByTurns_123 : decode cX4_votesByTurns 123 = .ok (.invokestatic 263, 3) := by decide +kernel
theorem dX4_votesByTurns_126 : decode cX4_votesByTurns 126 = .ok (.goto 17, 3) := by decide +kernel
theorem dX4_votesByTurns_129 : decode cX4_votesByTurns 129 = .ok (.aload_n 0, 1) := by decide +kernel
theorem dX4_votesByTurns_130 : decode cX4_votesByTurns 130 = .ok (.iload_n 1, 1) := by decide +kernel
theorem dX4_votesByTurns_131 : decode cX4_votesByTurns 131 = .ok (.iconst 1, 1) := by decide +kernel
theorem dX4_votesByTurns_132 : decode cX4_votesByTurns 132 = .ok (.isub, 1) := by decide +kernel
theorem dX4_votesByTurns_133 : decode cX4_votesByTurns 133 = .ok (.iload 5, 2) := by decide +kernel
theorem dX4_votesByTurns_135 : decode cX4_votesByTurns 135 = .ok (.iload_n 3, 1) := by decide +kernel
theorem dX4_votesByTurns_136 : decode cX4_votesByTurns 136 = .ok (.iload 4, 2) := by decide +kernel
theorem dX4_votesByTurns_138 : decode cX4_votesByTurns 138 = .ok (.iconst 1, 1) := by decide +kernel
theorem dX4_votesByTurns_139 : decode cX4_votesByTurns 139 = .ok (.isub, 1) := by decide +kernel
theorem dX4_votesByTurns_140 : decode cX4_votesByTurns 140 = .ok (.invokestatic 263, 3) := by decide +kernel
theorem dX4_votesByTurns_143 : decode cX4_votesByTurns 143 = .ok (.istore 7, 2) := by decide +kernel
theorem dX4_votesByTurns_145 : decode cX4_votesByTurns 145 = .ok (.iload_n 2, 1) := by decide +kernel
theorem dX4_votesByTurns_146 : decode cX4_votesByTurns 146 = .ok (.iload 6, 2) := by decide +kernel
theorem dX4_votesByTurns_148 : decode cX4_votesByTurns 148 = .ok (.iload 7, 2) := by decide +kernel
theorem dX4_votesByTurns_150 : decode cX4_votesByTurns 150 = .ok (.invokestatic 354, 3) := by decide +kernel
theorem dX4_votesByTurns_153 : decode cX4_votesByTurns 153 = .ok (.istore 6, 2) := by decide +kernel
theorem dX4_votesByTurns_155 : decode cX4_votesByTurns 155 = .ok (.iload 6, 2) := by decide +kernel
theorem dX4_votesByTurns_157 : decode cX4_votesByTurns 157 = .ok (.ireturn, 1) := by decide +kernel
theorem dX4_betterFor_0 : decode cX4_betterFor 0 = .ok (.iload_n 0, 1) := by decide +kernel
theorem dX4_betterFor_1 : decode cX4_betterFor 1 = .ok (.ifCond .ne 11, 3) := by decide +kernel
theorem dX4_betterFor_4 : decode cX4_betterFor 4 = .ok (.iload_n 1, 1) := by decide +kernel
theorem dX4_betterFor_5 : decode cX4_betterFor 5 = .ok (.iload_n 2, 1) := by decide +kernel
theorem dX4_betterFor_6 : decode cX4_betterFor 6 = .ok (.invokestatic 358, 3) := by decide +kernel
theorem dX4_betterFor_9 : decode cX4_betterFor 9 = .ok (.goto 8, 3) := by decide +kernel
theorem dX4_betterFor_12 : decode cX4_betterFor 12 = .ok (.iload_n 1, 1) := by decide +kernel
theorem dX4_betterFor_13 : decode cX4_betterFor 13 = .ok (.iload_n 2, 1) := by decide +kernel
theorem dX4_betterFor_14 : decode cX4_betterFor 14 = .ok (.invokestatic 150, 3) := by decide +kernel
theorem dX4_betterFor_17 : decode cX4_betterFor 17 = .ok (.ireturn, 1) := by decide +kernel
theorem dX4_shareCrowns_0 : decode cX4_shareCrowns 0 = .ok (.aload_n 3, 1) := by decide +kernel
theorem dX4_shareCrowns_1 : decode cX4_shareCrowns 1 = .ok (.aload_n 0, 1) := by decide +kernel
theorem dX4_shareCrowns_2 : decode cX4_shareCrowns 2 = .ok (.getfield 21, 3) := by decide +kernel
theorem dX4_shareCrowns_5 : decode cX4_shareCrowns 5 = .ok (.getfield 124, 3) := by decide +kernel
theorem dX4_shareCrowns_8 : decode cX4_shareCrowns 8 = .ok (.iconst 0, 1) := by decide +kernel
theorem dX4_shareCrowns_9 : decode cX4_shareCrowns 9 = .ok (.invokevirtual 71, 3) := by decide +kernel
theorem dX4_shareCrowns_12 : decode cX4_shareCrowns 12 = .ok (.iload_n 1, 1) := by decide +kernel
theorem dX4_shareCrowns_13 : decode cX4_shareCrowns 13 = .ok (.istore 4, 2) := by decide +kernel
theorem dX4_shareCrowns_15 : decode cX4_shareCrowns 15 = .ok (.iconst 0, 1) := by decide +kernel
theorem dX4_shareCrowns_16 : decode cX4_shareCrowns 16 = .ok (.istore 5, 2) := by decide +kernel
theorem dX4_shareCrowns_18 : decode cX4_shareCrowns 18 = .ok (.iload 5, 2) := by decide +kernel
theorem dX4_shareCrowns_20 : decode cX4_shareCrowns 20 = .ok (.aload_n 0, 1) := by decide +kernel
theorem dX4_shareCrowns_21 : decode cX4_shareCrowns 21 = .ok (.getfield 21, 3) := by decide +kernel
theorem dX4_shareCrowns_24 : decode cX4_shareCrowns 24 = .ok (.getfield 124, 3) := by decide +kernel
theorem dX4_shareCrowns_27 : decode cX4_shareCrowns 27 = .ok (.if_icmp .ge 57, 3) := by decide +kernel
theorem dX4_shareCrowns_30 : decode cX4_shareCrowns 30 = .ok (.iload_n 2, 1) := by decide +kernel
theorem dX4_shareCrowns_31 : decode cX4_shareCrowns 31 = .ok (.ifCond .le 53, 3) := by decide +kernel
theorem dX4_shareCrowns_34 : decode cX4_shareCrowns 34 = .ok (.aload_n 0, 1) := by decide +kernel
theorem dX4_shareCrowns_35 : decode cX4_shareCrowns 35 = .ok (.getfield 21, 3) := by decide +kernel
theorem dX4_shareCrowns_38 : decode cX4_shareCrowns 38 = .ok (.iload 5, 2) := by decide +kernel
theorem dX4_shareCrowns_40 : decode cX4_shareCrowns 40 = .ok (.invokevirtual 199, 3) := by decide +kernel
theorem dX4_shareCrowns_43 : decode cX4_shareCrowns 43 = .ok (.ifCond .eq 35, 3) := by decide +kernel
theorem dX4_shareCrowns_46 : decode cX4_shareCrowns 46 = .ok (.aload_n 3, 1) := by decide +kernel
theorem dX4_shareCrowns_47 : decode cX4_shareCrowns 47 = .ok (.getfield 79, 3) := by decide +kernel
theorem dX4_shareCrowns_50 : decode cX4_shareCrowns 50 = .ok (.iload 5, 2) := by decide +kernel
theorem dX4_shareCrowns_52 : decode cX4_shareCrowns 52 = .ok (.aload_n 0, 1) := by decide +kernel
theorem dX4_shareCrowns_53 : decode cX4_shareCrowns 53 = .ok (.getfield 21, 3) := by decide +kernel
theorem dX4_shareCrowns_56 : decode cX4_shareCrowns 56 = .ok (.iload 5, 2) := by decide +kernel
theorem dX4_shareCrowns_58 : decode cX4_shareCrowns 58 = .ok (.invokevirtual 348, 3) := by decide +kernel
theorem dX4_shareCrowns_61 : decode cX4_shareCrowns 61 = .ok (.iload_n 1, 1) := by decide +kernel
theorem dX4_shareCrowns_62 : decode cX4_shareCrowns 62 = .ok (.imul, 1) := by decide +kernel
theorem dX4_shareCrowns_63 : decode cX4_shareCrowns 63 = .ok (.iload_n 2, 1) := by decide +kernel
theorem dX4_shareCrowns_64 : decode cX4_shareCrowns 64 = .ok (.idiv, 1) := by decide +kernel
theorem dX4_shareCrowns_65 : decode cX4_shareCrowns 65 = .ok (.iastore, 1) := by decide +kernel
theorem dX4_shareCrowns_66 : decode cX4_shareCrowns 66 = .ok (.iload 4, 2) := by decide +kernel
theorem dX4_shareCrowns_68 : decode cX4_shareCrowns 68 = .ok (.aload_n 3, 1) := by decide +kernel
theorem dX4_shareCrowns_69 : decode cX4_shareCrowns 69 = .ok (.getfield 79, 3) := by decide +kernel
theorem dX4_shareCrowns_72 : decode cX4_shareCrowns 72 = .ok (.iload 5, 2) := by decide +kernel
theorem dX4_shareCrowns_74 : decode cX4_shareCrowns 74 = .ok (.iaload, 1) := by decide +kernel
theorem dX4_shareCrowns_75 : decode cX4_shareCrowns 75 = .ok (.isub, 1) := by decide +kernel
theorem dX4_shareCrowns_76 : decode cX4_shareCrowns 76 = .ok (.istore 4, 2) := by decide +kernel
theorem dX4_shareCrowns_78 : decode cX4_shareCrowns 78 = .ok (.iinc 5 1, 3) := by decide +kernel
theorem dX4_shareCrowns_81 : decode cX4_shareCrowns 81 = .ok (.goto (-63), 3) := by decide +kernel
theorem dX4_shareCrowns_84 : decode cX4_shareCrowns 84 = .ok (.iconst 0, 1) := by decide +kernel
theorem dX4_shareCrowns_85 : decode cX4_shareCrowns 85 = .ok (.istore 5, 2) := by decide +kernel
theorem dX4_shareCrowns_87 : decode cX4_shareCrowns 87 = .ok (.iload 5, 2) := by decide +kernel
theorem dX4_shareCrowns_89 : decode cX4_shareCrowns 89 = .ok (.aload_n 0, 1) := by decide +kernel
theorem dX4_shareCrowns_90 : decode cX4_shareCrowns 90 = .ok (.getfield 21, 3) := by decide +kernel
theorem dX4_shareCrowns_93 : decode cX4_shareCrowns 93 = .ok (.getfield 124, 3) := by decide +kernel
theorem dX4_shareCrowns_96 : decode cX4_shareCrowns 96 = .ok (.if_icmp .ge 40, 3) := by decide +kernel
theorem dX4_shareCrowns_99 : decode cX4_shareCrowns 99 = .ok (.iload 4, 2) := by decide +kernel
theorem dX4_shareCrowns_101 : decode cX4_shareCrowns 101 = .ok (.ifCond .le 35, 3) := by decide +kernel
theorem dX4_shareCrowns_104 : decode cX4_shareCrowns 104 = .ok (.aload_n 0, 1) := by decide +kernel
theorem dX4_shareCrowns_105 : decode cX4_shareCrowns 105 = .ok (.getfield 21, 3) := by decide +kernel
theorem dX4_shareCrowns_108 : decode cX4_shareCrowns 108 = .ok (.iload 5, 2) := by decide +kernel
theorem dX4_shareCrowns_110 : decode cX4_shareCrowns 110 = .ok (.invokevirtual 199, 3) := by decide +kernel
theorem dX4_shareCrowns_113 : decode cX4_shareCrowns 113 = .ok (.ifCond .eq 17, 3) := by decide +kernel
theorem dX4_shareCrowns_116 : decode cX4_shareCrowns 116 = .ok (.aload_n 3, 1) := by decide +kernel
theorem dX4_shareCrowns_117 : decode cX4_shareCrowns 117 = .ok (.getfield 79, 3) := by decide +kernel
theorem dX4_shareCrowns_120 : decode cX4_shareCrowns 120 = .ok (.iload 5, 2) := by decide +kernel
theorem dX4_shareCrowns_122 : decode cX4_shareCrowns 122 = .ok (.dup2, 1) := by decide +kernel
theorem dX4_shareCrowns_123 : decode cX4_shareCrowns 123 = .ok (.iaload, 1) := by decide +kernel
theorem dX4_shareCrowns_124 : decode cX4_shareCrowns 124 = .ok (.iconst 1, 1) := by decide +kernel
theorem dX4_shareCrowns_125 : decode cX4_shareCrowns 125 = .ok (.iadd, 1) := by decide +kernel
theorem dX4_shareCrowns_126 : decode cX4_shareCrowns 126 = .ok (.iastore, 1) := by decide +kernel
theorem dX4_shareCrowns_127 : decode cX4_shareCrowns 127 = .ok (.iinc 4 (-1), 3) := by decide +kernel
theorem dX4_shareCrowns_130 : decode cX4_shareCrowns 130 = .ok (.iinc 5 1, 3) := by decide +kernel
theorem dX4_shareCrowns_133 : decode cX4_shareCrowns 133 = .ok (.goto (-46), 3) := by decide +kernel
theorem dX4_shareCrowns_136 : decode cX4_shareCrowns 136 = .ok (.return_, 1) := by decide +kernel
theorem dX4_isWronged_0 : decode cX4_isWronged 0 = .ok (.iconst 0, 1) := by decide +kernel
theorem dX4_isWronged_1 : decode cX4_isWronged 1 = .ok (.istore_n 3, 1) := by decide +kernel
theorem dX4_isWronged_2 : decode cX4_isWronged 2 = .ok (.iload_n 3, 1) := by decide +kernel
theorem dX4_isWronged_3 : decode cX4_isWronged 3 = .ok (.aload_n 0, 1) := by decide +kernel
theorem dX4_isWronged_4 : decode cX4_isWronged 4 = .ok (.getfield 21, 3) := by decide +kernel
theorem dX4_isWronged_7 : decode cX4_isWronged 7 = .ok (.getfield 124, 3) := by decide +kernel
theorem dX4_isWronged_10 : decode cX4_isWronged 10 = .ok (.if_icmp .ge 56, 3) := by decide +kernel
theorem dX4_isWronged_13 : decode cX4_isWronged 13 = .ok (.aload_n 0, 1) := by decide +kernel
theorem dX4_isWronged_14 : decode cX4_isWronged 14 = .ok (.getfield 21, 3) := by decide +kernel
theorem dX4_isWronged_17 : decode cX4_isWronged 17 = .ok (.iload_n 3, 1) := by decide +kernel
theorem dX4_isWronged_18 : decode cX4_isWronged 18 = .ok (.invokevirtual 199, 3) := by decide +kernel
theorem dX4_isWronged_21 : decode cX4_isWronged 21 = .ok (.ifCond .eq 39, 3) := by decide +kernel
theorem dX4_isWronged_24 : decode cX4_isWronged 24 = .ok (.aload_n 2, 1) := by decide +kernel
theorem dX4_isWronged_25 : decode cX4_isWronged 25 = .ok (.getfield 79, 3) := by decide +kernel
theorem dX4_isWronged_28 : decode cX4_isWronged 28 = .ok (.iload_n 1, 1) := by decide +kernel
theorem dX4_isWronged_29 : decode cX4_isWronged 29 = .ok (.iaload, 1) := by decide +kernel
theorem dX4_isWronged_30 : decode cX4_isWronged 30 = .ok (.aload_n 2, 1) := by decide +kernel
theorem dX4_isWronged_31 : decode cX4_isWronged 31 = .ok (.getfield 79, 3) := by decide +kernel
theorem dX4_isWronged_34 : decode cX4_isWronged 34 = .ok (.iload_n 3, 1) := by decide +kernel
theorem dX4_isWronged_35 : decode cX4_isWronged 35 = .ok (.iaload, 1) := by decide +kernel
theorem dX4_isWronged_36 : decode cX4_isWronged 36 = .ok (.if_icmp .ge 24, 3) := by decide +kernel
theorem dX4_isWronged_39 : decode cX4_isWronged 39 = .ok (.aload_n 0, 1) := by decide +kernel
theorem dX4_isWronged_40 : decode cX4_isWronged 40 = .ok (.getfield 21, 3) := by decide +kernel
theorem dX4_isWronged_43 : decode cX4_isWronged 43 = .ok (.iload_n 3, 1) := by decide +kernel
theorem dX4_isWronged_44 : decode cX4_isWronged 44 = .ok (.invokevirtual 348, 3) := by decide +kernel
theorem dX4_isWronged_47 : decode cX4_isWronged 47 = .ok (.aload_n 0, 1) := by decide +kernel
theorem dX4_isWronged_48 : decode cX4_isWronged 48 = .ok (.getfield 21, 3) := by decide +kernel
theorem dX4_isWronged_51 : decode cX4_isWronged 51 = .ok (.iload_n 1, 1) := by decide +kernel
theorem dX4_isWronged_52 : decode cX4_isWronged 52 = .ok (.invokevirtual 348, 3) := by decide +kernel
theorem dX4_isWronged_55 : decode cX4_isWronged 55 = .ok (.if_icmp .gt 5, 3) := by decide +kernel
theorem dX4_isWronged_58 : decode cX4_isWronged 58 = .ok (.iconst 1, 1) := by decide +kernel
theorem dX4_isWronged_59 : decode cX4_isWronged 59 = .ok (.ireturn, 1) := by decide +kernel
theorem dX4_isWronged_60 : decode cX4_isWronged 60 = .ok (.iinc 3 1, 3) := by decide +kernel
theorem dX4_isWronged_63 : decode cX4_isWronged 63 = .ok (.goto (-61), 3) := by decide +kernel
theorem dX4_isWronged_66 : decode cX4_isWronged 66 = .ok (.iconst 0, 1) := by decide +kernel
theorem dX4_isWronged_67 : decode cX4_isWronged 67 = .ok (.ireturn, 1) := by decide +kernel
theorem dX4_refusePapers_0 : decode cX4_refusePapers 0 = .ok (.aload_n 0, 1) := by decide +kernel
theorem dX4_refusePapers_1 : decode cX4_refusePapers 1 = .ok (.getfield 21, 3) := by decide +kernel
theorem dX4_refusePapers_4 : decode cX4_refusePapers 4 = .ok (.iload_n 1, 1) := by decide +kernel
theorem dX4_refusePapers_5 : decode cX4_refusePapers 5 = .ok (.invokevirtual 127, 3) := by decide +kernel
theorem dX4_refusePapers_8 : decode cX4_refusePapers 8 = .ok (.ifCond .ne 5, 3) := by decide +kernel
theorem dX4_refusePapers_11 : decode cX4_refusePapers 11 = .ok (.iconst (-1), 1) := by decide +kernel
theorem dX4_refusePapers_12 : decode cX4_refusePapers 12 = .ok (.ireturn, 1) := by decide +kernel
theorem dX4_refusePapers_13 : decode cX4_refusePapers 13 = .ok (.aload_n 0, 1) := by decide +kernel
theorem dX4_refusePapers_14 : decode cX4_refusePapers 14 = .ok (.aload_n 0, 1) := by decide +kernel
theorem dX4_refusePapers_15 : decode cX4_refusePapers 15 = .ok (.getfield 11, 3) := by decide +kernel
theorem dX4_refusePapers_18 : decode cX4_refusePapers 18 = .ok (.iload_n 2, 1) := by decide +kernel
theorem dX4_refusePapers_19 : decode cX4_refusePapers 19 = .ok (.invokevirtual 82, 3) := by decide +kernel
theorem dX4_refusePapers_22 : decode cX4_refusePapers 22 = .ok (.istore_n 3, 1) := by decide +kernel
theorem dX4_refusePapers_23 : decode cX4_refusePapers 23 = .ok (.iload_n 3, 1) := by decide +kernel
theorem dX4_refusePapers_24 : decode cX4_refusePapers 24 = .ok (.ifCond .eq 5, 3) := by decide +kernel
theorem dX4_refusePapers_27 : decode cX4_refusePapers 27 = .ok (.iload_n 3, 1) := by decide +kernel
theorem dX4_refusePapers_28 : decode cX4_refusePapers 28 = .ok (.ireturn, 1) := by decide +kernel
theorem dX4_refusePapers_29 : decode cX4_refusePapers 29 = .ok (.aload_n 0, 1) := by decide +kernel
theorem dX4_refusePapers_30 : decode cX4_refusePapers 30 = .ok (.getfield 11, 3) := by decide +kernel
theorem dX4_refusePapers_33 : decode cX4_refusePapers 33 = .ok (.iload_n 2, 1) := by decide +kernel
theorem dX4_refusePapers_34 : decode cX4_refusePapers 34 = .ok (.aaload, 1) := by decide +kernel
theorem dX4_refusePapers_35 : decode cX4_refusePapers 35 = .ok (.astore 4, 2) := by decide +kernel
theorem dX4_refusePapers_37 : decode cX4_refusePapers 37 = .ok (.aload 4, 2) := by decide +kernel
theorem dX4_refusePapers_39 : decode cX4_refusePapers 39 = .ok (.getfield 86, 3) := by decide +kernel
theorem dX4_refusePapers_42 : decode cX4_refusePapers 42 = .ok (.iconst 3, 1) := by decide +kernel
theorem dX4_refusePapers_43 : decode cX4_refusePapers 43 = .ok (.irem, 1) := by decide +kernel
theorem dX4_refusePapers_44 : decode cX4_refusePapers 44 = .ok (.ifCond .eq 9, 3) := by decide +kernel
theorem dX4_refusePapers_47 : decode cX4_refusePapers 47 = .ok (.aload_n 0, 1) := by decide +kernel
theorem dX4_refusePapers_48 : decode cX4_refusePapers 48 = .ok (.iconst 5, 1) := by decide +kernel
theorem dX4_refusePapers_49 : decode cX4_refusePapers 49 = .ok (.invokevirtual 67, 3) := by decide +kernel
theorem dX4_refusePapers_52 : decode cX4_refusePapers 52 = .ok (.ireturn, 1) := by decide +kernel
theorem dX4_refusePapers_53 : decode cX4_refusePapers 53 = .ok (.iconst 0, 1) := by decide +kernel
theorem dX4_refusePapers_54 : decode cX4_refusePapers 54 = .ok (.istore 5, 2) := by decide +kernel
theorem dX4_refusePapers_56 : decode cX4_refusePapers 56 = .ok (.iload 5, 2) := by decide +kernel
theorem dX4_refusePapers_58 : decode cX4_refusePapers 58 = .ok (.iconst 2, 1) := by decide +kernel
theorem dX4_refusePapers_59 : decode cX4_refusePapers 59 = .ok (.iadd, 1) := by decide +kernel
theorem dX4_refusePapers_60 : decode cX4_refusePapers 60 = .ok (.aload 4, 2) := by decide +kernel
theorem dX4_refusePapers_62 : decode cX4_refusePapers 62 = .ok (.getfield 86, 3) := by decide +kernel
theorem dX4_refusePapers_65 : decode cX4_refusePapers 65 = .ok (.if_icmp .ge 66, 3) := by decide +kernel
theorem dX4_refusePapers_68 : decode cX4_refusePapers 68 = .ok (.aload 4, 2) := by decide +kernel
theorem dX4_refusePapers_70 : decode cX4_refusePapers 70 = .ok (.getfield 79, 3) := by decide +kernel
theorem dX4_refusePapers_73 : decode cX4_refusePapers 73 = .ok (.iload 5, 2) := by decide +kernel
theorem dX4_refusePapers_75 : decode cX4_refusePapers 75 = .ok (.iconst 2, 1) := by decide +kernel
theorem dX4_refusePapers_76 : decode cX4_refusePapers 76 = .ok (.iadd, 1) := by decide +kernel
theorem dX4_refusePapers_77 : decode cX4_refusePapers 77 = .ok (.iaload, 1) := by decide +kernel
theorem dX4_refusePapers_78 : decode cX4_refusePapers 78 = .ok (.istore 6, 2) := by decide +kernel
theorem dX4_refusePapers_80 : decode cX4_refusePapers 80 = .ok (.aload_n 0, 1) := by decide +kernel
theorem dX4_refusePapers_81 : decode cX4_refusePapers 81 = .ok (.getfield 21, 3) := by decide +kernel
theorem dX4_refusePapers_84 : decode cX4_refusePapers 84 = .ok (.aload 4, 2) := by decide +kernel
theorem dX4_refusePapers_86 : decode cX4_refusePapers 86 = .ok (.getfield 79, 3) := by decide +kernel
theorem dX4_refusePapers_89 : decode cX4_refusePapers 89 = .ok (.iload 5, 2) := by decide +kernel
theorem dX4_refusePapers_91 : decode cX4_refusePapers 91 = .ok (.iaload, 1) := by decide +kernel
theorem dX4_refusePapers_92 : decode cX4_refusePapers 92 = .ok (.aload 4, 2) := by decide +kernel
theorem dX4_refusePapers_94 : decode cX4_refusePapers 94 = .ok (.getfield 79, 3) := by decide +kernel
theorem dX4_refusePapers_97 : decode cX4_refusePapers 97 = .ok (.iload 5, 2) := by decide +kernel
theorem dX4_refusePapers_99 : decode cX4_refusePapers 99 = .ok (.iconst 1, 1) := by decide +kernel
theorem dX4_refusePapers_100 : decode cX4_refusePapers 100 = .ok (.iadd, 1) := by decide +kernel
theorem dX4_refusePapers_101 : decode cX4_refusePapers 101 = .ok (.iaload, 1) := by decide +kernel
theorem dX4_refusePapers_102 : decode cX4_refusePapers 102 = .ok (.invokevirtual 257, 3) := by decide +kernel
theorem dX4_refusePapers_105 : decode cX4_refusePapers 105 = .ok (.ifCond .eq 14, 3) := by decide +kernel
theorem dX4_refusePapers_108 : decode cX4_refusePapers 108 = .ok (.iload 6, 2) := by decide +kernel
theorem dX4_refusePapers_110 : decode cX4_refusePapers 110 = .ok (.ifCond .eq 15, 3) := by decide +kernel
theorem dX4_refusePapers_113 : decode cX4_refusePapers 113 = .ok (.iload 6, 2) := by decide +kernel
theorem dX4_refusePapers_115 : decode cX4_refusePapers 115 = .ok (.iconst 1, 1) := by decide +kernel
theorem dX4_refusePapers_116 : decode cX4_refusePapers 116 = .ok (.if_icmp .eq 9, 3) := by decide +kernel
theorem dX4_refusePapers_119 : decode cX4_refusePapers 119 = .ok (.aload_n 0, 1) := by decide +kernel
theorem dX4_refusePapers_120 : decode cX4_refusePapers 120 = .ok (.iconst 3, 1) := by decide +kernel
theorem dX4_refusePapers_121 : decode cX4_refusePapers 121 = .ok (.invokevirtual 67, 3) := by decide +kernel
theorem dX4_refusePapers_124 : decode cX4_refusePapers 124 = .ok (.ireturn, 1) := by decide +kernel
theorem dX4_refusePapers_125 : decode cX4_refusePapers 125 = .ok (.iinc 5 3, 3) := by decide +kernel
theorem dX4_refusePapers_128 : decode cX4_refusePapers 128 = .ok (.goto (-72), 3) := by decide +kernel
theorem dX4_refusePapers_131 : decode cX4_refusePapers 131 = .ok (.iconst 0, 1) := by decide +kernel
theorem dX4_refusePapers_132 : decode cX4_refusePapers 132 = .ok (.ireturn, 1) := by decide +kernel
theorem dX4_agrees_0 : decode cX4_agrees 0 = .ok (.iconst 0, 1) := by decide +kernel
theorem dX4_agrees_1 : decode cX4_agrees 1 = .ok (.istore 5, 2) := by decide +kernel
theorem dX4_agrees_3 : decode cX4_agrees 3 = .ok (.iload 5, 2) := by decide +kernel
theorem dX4_agrees_5 : decode cX4_agrees 5 = .ok (.iconst 2, 1) := by decide +kernel
theorem dX4_agrees_6 : decode cX4_agrees 6 = .ok (.iadd, 1) := by decide +kernel
theorem dX4_agrees_7 : decode cX4_agrees 7 = .ok (.aload 4, 2) := by decide +kernel
theorem dX4_agrees_9 : decode cX4_agrees 9 = .ok (.getfield 86, 3) := by decide +kernel
theorem dX4_agrees_12 : decode cX4_agrees 12 = .ok (.if_icmp .ge 65, 3) := by decide +kernel
theorem dX4_agrees_15 : decode cX4_agrees 15 = .ok (.aload 4, 2) := by decide +kernel
theorem dX4_agrees_17 : decode cX4_agrees 17 = .ok (.getfield 79, 3) := by decide +kernel
theorem dX4_agrees_20 : decode cX4_agrees 20 = .ok (.iload 5, 2) := by decide +kernel
theorem dX4_agrees_22 : decode cX4_agrees 22 = .ok (.iconst 2, 1) := by decide +kernel
theorem dX4_agrees_23 : decode cX4_agrees 23 = .ok (.iadd, 1) := by decide +kernel
theorem dX4_agrees_24 : decode cX4_agrees 24 = .ok (.iaload, 1) := by decide +kernel
theorem dX4_agrees_25 : decode cX4_agrees 25 = .ok (.iconst 1, 1) := by decide +kernel
theorem dX4_agrees_26 : decode cX4_agrees 26 = .ok (.if_icmp .ne 7, 3) := by decide +kernel
theorem dX4_agrees_29 : decode cX4_agrees 29 = .ok (.iconst 1, 1) := by decide +kernel
theorem dX4_agrees_30 : decode cX4_agrees 30 = .ok (.goto 4, 3) := by decide +kernel
theorem dX4_agrees_33 : decode cX4_agrees 33 = .ok (.iconst 0, 1) := by decide +kernel
theorem dX4_agrees_34 : decode cX4_agrees 34 = .ok (.istore 6, 2) := by decide +kernel
theorem dX4_agrees_36 : decode cX4_agrees 36 = .ok (.aload_n 0, 1) := by decide +kernel
theorem dX4_agrees_37 : decode cX4_agrees 37 = .ok (.getfield 21, 3) := by decide +kernel
theorem dX4_agrees_40 : decode cX4_agrees 40 = .ok (.iload_n 1, 1) := by decide +kernel
theorem dX4_agrees_41 : decode cX4_agrees 41 = .ok (.iload_n 2, 1) := by decide +kernel
theorem dX4_agrees_42 : decode cX4_agrees 42 = .ok (.iload_n 3, 1) := by decide +kernel
theorem dX4_agrees_43 : decode cX4_agrees 43 = .ok (.aload 4, 2) := by decide +kernel
theorem dX4_agrees_45 : decode cX4_agrees 45 = .ok (.getfield 79, 3) := by decide +kernel
theorem dX4_agrees_48 : decode cX4_agrees 48 = .ok (.iload 5, 2) := by decide +kernel
theorem dX4_agrees_50 : decode cX4_agrees 50 = .ok (.iaload, 1) := by decide +kernel
theorem dX4_agrees_51 : decode cX4_agrees 51 = .ok (.aload 4, 2) := by decide +kernel
theorem dX4_agrees_53 : decode cX4_agrees 53 = .ok (.getfield 79, 3) := by decide +kernel
theorem dX4_agrees_56 : decode cX4_agrees 56 = .ok (.iload 5, 2) := by decide +kernel
theorem dX4_agrees_58 : decode cX4_agrees 58 = .ok (.iconst 1, 1) := by decide +kernel
theorem dX4_agrees_59 : decode cX4_agrees 59 = .ok (.iadd, 1) := by decide +kernel
theorem dX4_agrees_60 : decode cX4_agrees 60 = .ok (.iaload, 1) := by decide +kernel
theorem dX4_agrees_61 : decode cX4_agrees 61 = .ok (.invokevirtual 361, 3) := by decide +kernel
theorem dX4_agrees_64 : decode cX4_agrees 64 = .ok (.iload 6, 2) := by decide +kernel
theorem dX4_agrees_66 : decode cX4_agrees 66 = .ok (.if_icmp .eq 5, 3) := by decide +kernel
theorem dX4_agrees_69 : decode cX4_agrees 69 = .ok (.iconst 0, 1) := by decide +kernel
theorem dX4_agrees_70 : decode cX4_agrees 70 = .ok (.ireturn, 1) := by decide +kernel
theorem dX4_agrees_71 : decode cX4_agrees 71 = .ok (.iinc 5 3, 3) := by decide +kernel
theorem dX4_agrees_74 : decode cX4_agrees 74 = .ok (.goto (-71), 3) := by decide +kernel
theorem dX4_agrees_77 : decode cX4_agrees 77 = .ok (.iconst 1, 1) := by decide +kernel
theorem dX4_agrees_78 : decode cX4_agrees 78 = .ok (.ireturn, 1) := by decide +kernel
theorem dX4_waysToBeHere_0 : decode cX4_waysToBeHere 0 = .ok (.iload_n 0, 1) := by decide +kernel
theorem dX4_waysToBeHere_1 : decode cX4_waysToBeHere 1 = .ok (.invokestatic 240, 3) := by decide +kernel
theorem dX4_waysToBeHere_4 : decode cX4_waysToBeHere 4 = .ok (.istore_n 3, 1) := by decide +kernel
theorem dX4_waysToBeHere_5 : decode cX4_waysToBeHere 5 = .ok (.bipush 12, 2) := by decide +kernel
theorem dX4_waysToBeHere_7 : decode cX4_waysToBeHere 7 = .ok (.iload_n 2, 1) := by decide +kernel
theorem dX4_waysToBeHere_8 : decode cX4_waysToBeHere 8 = .ok (.isub, 1) := by decide +kernel
theorem dX4_waysToBeHere_9 : decode cX4_waysToBeHere 9 = .ok (.iload_n 3, 1) := by decide +kernel
theorem dX4_waysToBeHere_10 : decode cX4_waysToBeHere 10 = .ok (.invokestatic 295, 3) := by decide +kernel
theorem dX4_waysToBeHere_13 : decode cX4_waysToBeHere 13 = .ok (.iload_n 2, 1) := by decide +kernel
theorem dX4_waysToBeHere_14 : decode cX4_waysToBeHere 14 = .ok (.iload_n 1, 1) := by decide +kernel
theorem dX4_waysToBeHere_15 : decode cX4_waysToBeHere 15 = .ok (.invokestatic 240, 3) := by decide +kernel
theorem dX4_waysToBeHere_18 : decode cX4_waysToBeHere 18 = .ok (.iload_n 3, 1) := by decide +kernel
theorem dX4_waysToBeHere_19 : decode cX4_waysToBeHere 19 = .ok (.isub, 1) := by decide +kernel
theorem dX4_waysToBeHere_20 : decode cX4_waysToBeHere 20 = .ok (.invokestatic 295, 3) := by decide +kernel
theorem dX4_waysToBeHere_23 : decode cX4_waysToBeHere 23 = .ok (.lmul, 1) := by decide +kernel
theorem dX4_waysToBeHere_24 : decode cX4_waysToBeHere 24 = .ok (.lreturn, 1) := by decide +kernel
theorem dX4_power_0 : decode cX4_power 0 = .ok (.lconst 1, 1) := by decide +kernel
theorem dX4_power_1 : decode cX4_power 1 = .ok (.lstore_n 2, 1) := by decide +kernel
theorem dX4_power_2 : decode cX4_power 2 = .ok (.iconst 0, 1) := by decide +kernel
theorem dX4_power_3 : decode cX4_power 3 = .ok (.istore 4, 2) := by decide +kernel
theorem dX4_power_5 : decode cX4_power 5 = .ok (.iload 4, 2) := by decide +kernel
theorem dX4_power_7 : decode cX4_power 7 = .ok (.iload_n 1, 1) := by decide +kernel
theorem dX4_power_8 : decode cX4_power 8 = .ok (.if_icmp .ge 14, 3) := by decide +kernel
theorem dX4_power_11 : decode cX4_power 11 = .ok (.lload_n 2, 1) := by decide +kernel
theorem dX4_power_12 : decode cX4_power 12 = .ok (.iload_n 0, 1) := by decide +kernel
theorem dX4_power_13 : decode cX4_power 13 = .ok (.i2l, 1) := by decide +kernel
theorem dX4_power_14 : decode cX4_power 14 = .ok (.lmul, 1) := by decide +kernel
theorem dX4_power_15 : decode cX4_power 15 = .ok (.lstore_n 2, 1) := by decide +kernel
theorem dX4_power_16 : decode cX4_power 16 = .ok (.iinc 4 1, 3) := by decide +kernel
theorem dX4_power_19 : decode cX4_power 19 = .ok (.goto (-14), 3) := by decide +kernel
theorem dX4_power_22 : decode cX4_power 22 = .ok (.lload_n 2, 1) := by decide +kernel
theorem dX4_power_23 : decode cX4_power 23 = .ok (.lreturn, 1) := by decide +kernel
theorem dX4_tellFraction_0 : decode cX4_tellFraction 0 = .ok (.lload_n 3, 1) := by decide +kernel
theorem dX4_tellFraction_1 : decode cX4_tellFraction 1 = .ok (.lstore 5, 2) := by decide +kernel
theorem dX4_tellFraction_3 : decode cX4_tellFraction 3 = .ok (.lload_n 1, 1) := by decide +kernel
theorem dX4_tellFraction_4 : decode cX4_tellFraction 4 = .ok (.lstore 7, 2) := by decide +kernel
theorem dX4_tellFraction_6 : decode cX4_tellFraction 6 = .ok (.iconst 0, 1) := by decide +kernel
theorem dX4_tellFraction_7 : decode cX4_tellFraction 7 = .ok (.istore 9, 2) := by decide +kernel
theorem dX4_tellFraction_9 : decode cX4_tellFraction 9 = .ok (.iload 9, 2) := by decide +kernel
theorem dX4_tellFraction_11 : decode cX4_tellFraction 11 = .ok (.sipush 1000, 3) := by decide +kernel
theorem dX4_tellFraction_14 : decode cX4_tellFraction 14 = .ok (.if_icmp .ge 31, 3) := by decide +kernel
theorem dX4_tellFraction_17 : decode cX4_tellFraction 17 = .ok (.lload 7, 2) := by decide +kernel
theorem dX4_tellFraction_19 : decode cX4_tellFraction 19 = .ok (.lconst 0, 1) := by decide +kernel
theorem dX4_tellFraction_20 : decode cX4_tellFraction 20 = .ok (.lcmp, 1) := by decide +kernel
theorem dX4_tellFraction_21 : decode cX4_tellFraction 21 = .ok (.ifCond .le 24, 3) := by decide +kernel
theorem dX4_tellFraction_24 : decode cX4_tellFraction 24 = .ok (.lload 5, 2) := by decide +kernel
theorem dX4_tellFraction_26 : decode cX4_tellFraction 26 = .ok (.lload 7, 2) := by decide +kernel
theorem dX4_tellFraction_28 : decode cX4_tellFraction 28 = .ok (.lrem, 1) := by decide +kernel
theorem dX4_tellFraction_29 : decode cX4_tellFraction 29 = .ok (.lstore 10, 2) := by decide +kernel
theorem dX4_tellFraction_31 : decode cX4_tellFraction 31 = .ok (.lload 7, 2) := by decide +kernel
theorem dX4_tellFraction_33 : decode cX4_tellFraction 33 = .ok (.lstore 5, 2) := by decide +kernel
theorem dX4_tellFraction_35 : decode cX4_tellFraction 35 = .ok (.lload 10, 2) := by decide +kernel
theorem dX4_tellFraction_37 : decode cX4_tellFraction 37 = .ok (.lstore 7, 2) := by decide +kernel
theorem dX4_tellFraction_39 : decode cX4_tellFraction 39 = .ok (.iinc 9 1, 3) := by decide +kernel
theorem dX4_tellFraction_42 : decode cX4_tellFraction 42 = .ok (.goto (-33), 3) := by decide +kernel
theorem dX4_tellFraction_45 : decode cX4_tellFraction 45 = .ok (.lload 5, 2) := by decide +kernel
theorem dX4_tellFraction_47 : decode cX4_tellFraction 47 = .ok (.lconst 0, 1) := by decide +kernel
theorem dX4_tellFraction_48 : decode cX4_tellFraction 48 = .ok (.lcmp, 1) := by decide +kernel
theorem dX4_tellFraction_49 : decode cX4_tellFraction 49 = .ok (.ifCond .le 19, 3) := by decide +kernel
theorem dX4_tellFraction_52 : decode cX4_tellFraction 52 = .ok (.aload_n 0, 1) := by decide +kernel
theorem dX4_tellFraction_53 : decode cX4_tellFraction 53 = .ok (.lload_n 1, 1) := by decide +kernel
theorem dX4_tellFraction_54 : decode cX4_tellFraction 54 = .ok (.lload 5, 2) := by decide +kernel
theorem dX4_tellFraction_56 : decode cX4_tellFraction 56 = .ok (.ldiv, 1) := by decide +kernel
theorem dX4_tellFraction_57 : decode cX4_tellFraction 57 = .ok (.putfield 53, 3) := by decide +kernel
theorem dX4_tellFraction_60 : decode cX4_tellFraction 60 = .ok (.aload_n 0, 1) := by decide +kernel
theorem dX4_tellFraction_61 : decode cX4_tellFraction 61 = .ok (.lload_n 3, 1) := by decide +kernel
theorem dX4_tellFraction_62 : decode cX4_tellFraction 62 = .ok (.lload 5, 2) := by decide +kernel
theorem dX4_tellFraction_64 : decode cX4_tellFraction 64 = .ok (.ldiv, 1) := by decide +kernel
theorem dX4_tellFraction_65 : decode cX4_tellFraction 65 = .ok (.putfield 57, 3) := by decide +kernel
theorem dX4_tellFraction_68 : decode cX4_tellFraction 68 = .ok (.return_, 1) := by decide +kernel
theorem dX4_coastsOf_0 : decode cX4_coastsOf 0 = .ok (.bipush 10, 2) := by decide +kernel
theorem dX4_coastsOf_2 : decode cX4_coastsOf 2 = .ok (.iload_n 0, 1) := by decide +kernel
theorem dX4_coastsOf_3 : decode cX4_coastsOf 3 = .ok (.imul, 1) := by decide +kernel
theorem dX4_coastsOf_4 : decode cX4_coastsOf 4 = .ok (.iload_n 1, 1) := by decide +kernel
theorem dX4_coastsOf_5 : decode cX4_coastsOf 5 = .ok (.iadd, 1) := by decide +kernel
theorem dX4_coastsOf_6 : decode cX4_coastsOf 6 = .ok (.ireturn, 1) := by decide +kernel
theorem dX4_westOf_0 : decode cX4_westOf 0 = .ok (.iload_n 0, 1) := by decide +kernel
theorem dX4_westOf_1 : decode cX4_westOf 1 = .ok (.bipush 10, 2) := by decide +kernel
theorem dX4_westOf_3 : decode cX4_westOf 3 = .ok (.idiv, 1) := by decide +kernel
theorem dX4_westOf_4 : decode cX4_westOf 4 = .ok (.ireturn, 1) := by decide +kernel
theorem dX4_eastOf_0 : decode cX4_eastOf 0 = .ok (.iload_n 0, 1) := by decide +kernel
theorem dX4_eastOf_1 : decode cX4_eastOf 1 = .ok (.bipush 10, 2) := by decide +kernel
theorem dX4_eastOf_3 : decode cX4_eastOf 3 = .ok (.irem, 1) := by decide +kernel
theorem dX4_eastOf_4 : decode cX4_eastOf 4 = .ok (.ireturn, 1) := by decide +kernel
theorem dX4_middleOf_0 : decode cX4_middleOf 0 = .ok (.iload_n 0, 1) := by decide +kernel
theorem dX4_middleOf_1 : decode cX4_middleOf 1 = .ok (.iload_n 1, 1) := by decide +kernel
theorem dX4_middleOf_2 : decode cX4_middleOf 2 = .ok (.iadd, 1) := by decide +kernel
theorem dX4_middleOf_3 : decode cX4_middleOf 3 = .ok (.iconst 2, 1) := by decide +kernel
theorem dX4_middleOf_4 : decode cX4_middleOf 4 = .ok (.idiv, 1) := by decide +kernel
theorem dX4_middleOf_5 : decode cX4_middleOf 5 = .ok (.ireturn, 1) := by decide +kernel
end
section
theorem dX5_init_0 : decode cX5_init 0 = .ok (.aload_n 0, 1) := by decide +kernel
theorem dX5_init_1 : decode cX5_init 1 = .ok (.invokespecial 1, 3) := by decide +kernel
theorem dX5_init_4 : decode cX5_init 4 = .ok (.aload_n 0, 1) := by decide +kernel
theorem dX5_init_5 : decode cX5_init 5 = .ok (.bipush 6, 2) := by decide +kernel
theorem dX5_init_7 : decode cX5_init 7 = .ok (.newarray .int, 2) := by decide +kernel
theorem dX5_init_9 : decode cX5_init 9 = .ok (.putfield 7, 3) := by decide +kernel
theorem dX5_init_12 : decode cX5_init 12 = .ok (.aload_n 0, 1) := by decide +kernel
theorem dX5_init_13 : decode cX5_init 13 = .ok (.sipush 240, 3) := by decide +kernel
theorem dX5_init_16 : decode cX5_init 16 = .ok (.newarray .int, 2) := by decide +kernel
theorem dX5_init_18 : decode cX5_init 18 = .ok (.putfield 13, 3) := by decide +kernel
theorem dX5_init_21 : decode cX5_init 21 = .ok (.aload_n 0, 1) := by decide +kernel
theorem dX5_init_22 : decode cX5_init 22 = .ok (.bipush 40, 2) := by decide +kernel
theorem dX5_init_24 : decode cX5_init 24 = .ok (.newarray .int, 2) := by decide +kernel
theorem dX5_init_26 : decode cX5_init 26 = .ok (.putfield 16, 3) := by decide +kernel
theorem dX5_init_29 : decode cX5_init 29 = .ok (.aload_n 0, 1) := by decide +kernel
theorem dX5_init_30 : decode cX5_init 30 = .ok (.iconst 4, 1) := by decide +kernel
theorem dX5_init_31 : decode cX5_init 31 = .ok (.newarray .int, 2) := by decide +kernel
theorem dX5_init_33 : decode cX5_init 33 = .ok (.putfield 19, 3) := by decide +kernel
theorem dX5_init_36 : decode cX5_init 36 = .ok (.aload_n 0, 1) := by decide +kernel
theorem dX5_init_37 : decode cX5_init 37 = .ok (.sipush 240, 3) := by decide +kernel
theorem dX5_init_40 : decode cX5_init 40 = .ok (.newarray .int, 2) := by decide +kernel
theorem dX5_init_42 : decode cX5_init 42 = .ok (.putfield 22, 3) := by decide +kernel
theorem dX5_init_45 : decode cX5_init 45 = .ok (.aload_n 0, 1) := by decide +kernel
theorem dX5_init_46 : decode cX5_init 46 = .ok (.sipush 400, 3) := by decide +kernel
theorem dX5_init_49 : decode cX5_init 49 = .ok (.newarray .int, 2) := by decide +kernel
theorem dX5_init_51 : decode cX5_init 51 = .ok (.putfield 25, 3) := by decide +kernel
theorem dX5_init_54 : decode cX5_init 54 = .ok (.aload_n 0, 1) := by decide +kernel
theorem dX5_init_55 : decode cX5_init 55 = .ok (.sipush 400, 3) := by decide +kernel
theorem dX5_init_58 : decode cX5_init 58 = .ok (.newarray .int, 2) := by decide +kernel
theorem dX5_init_60 : decode cX5_init 60 = .ok (.putfield 28, 3) := by decide +kernel
theorem dX5_init_63 : decode cX5_init 63 = .ok (.aload_n 0, 1) := by decide +kernel
theorem dX5_init_64 : decode cX5_init 64 = .ok (.sipush 1200, 3) := by decide +kernel
theorem dX5_init_67 : decode cX5_init 67 = .ok (.newarray .int, 2) := by decide +kernel
theorem dX5_init_69 : decode cX5_init 69 = .ok (.putfield 31, 3) := by decide +kernel
theorem dX5_init_72 : decode cX5_init 72 = .ok (.aload_n 0, 1) := by decide +kernel
theorem dX5_init_73 : decode cX5_init 73 = .ok (.iconst 3, 1) := by decide +kernel
theorem dX5_init_74 : decode cX5_init 74 = .ok (.newarray .boolean, 2) := by decide +kernel
theorem dX5_init_76 : decode cX5_init 76 = .ok (.putfield 34, 3) := by decide +kernel
theorem dX5_init_79 : decode cX5_init 79 = .ok (.aload_n 0, 1) := by decide +kernel
theorem dX5_init_80 : decode cX5_init 80 = .ok (.bipush 6, 2) := by decide +kernel
theorem dX5_init_82 : decode cX5_init 82 = .ok (.newarray .int, 2) := by decide +kernel
theorem dX5_init_84 : decode cX5_init 84 = .ok (.putfield 38, 3) := by decide +kernel
theorem dX5_init_87 : decode cX5_init 87 = .ok (.aload_n 0, 1) := by decide +kernel
theorem dX5_init_88 : decode cX5_init 88 = .ok (.bipush 6, 2) := by decide +kernel
theorem dX5_init_90 : decode cX5_init 90 = .ok (.newarray .int, 2) := by decide +kernel
theorem dX5_init_92 : decode cX5_init 92 = .ok (.putfield 41, 3) := by decide +kernel
theorem dX5_init_95 : decode cX5_init 95 = .ok (.aload_n 0, 1) := by decide +kernel
theorem dX5_init_96 : decode cX5_init 96 = .ok (.bipush 62, 2) := by decide +kernel
theorem dX5_init_98 : decode cX5_init 98 = .ok (.newarray .int, 2) := by decide +kernel
theorem dX5_init_100 : decode cX5_init 100 = .ok (.putfield 44, 3) := by decide +kernel
theorem dX5_init_103 : decode cX5_init 103 = .ok (.aload_n 0, 1) := by decide +kernel
theorem dX5_init_104 : decode cX5_init 104 = .ok (.bipush 7, 2) := by decide +kernel
theorem dX5_init_106 : decode cX5_init 106 = .ok (.newarray .int, 2) := by decide +kernel
theorem dX5_init_108 : decode cX5_init 108 = .ok (.putfield 47, 3) := by decide +kernel
theorem dX5_init_111 : decode cX5_init 111 = .ok (.aload_n 0, 1) := by decide +kernel
theorem dX5_init_112 : decode cX5_init 112 = .ok (.bipush 7, 2) := by decide +kernel
theorem dX5_init_114 : decode cX5_init 114 = .ok (.newarray .int, 2) := by decide +kernel
theorem dX5_init_116 : decode cX5_init 116 = .ok (.putfield 50, 3) := by decide +kernel
theorem dX5_init_119 : decode cX5_init 119 = .ok (.aload_n 0, 1) := by decide +kernel
theorem dX5_init_120 : decode cX5_init 120 = .ok (.bipush 7, 2) := by decide +kernel
theorem dX5_init_122 : decode cX5_init 122 = .ok (.newarray .int, 2) := by decide +kernel
theorem dX5_init_124 : decode cX5_init 124 = .ok (.putfield 53, 3) := by decide +kernel
theorem dX5_init_127 : decode cX5_init 127 = .ok (.aload_n 0, 1) := by decide +kernel
theorem dX5_init_128 : decode cX5_init 128 = .ok (.bipush 7, 2) := by decide +kernel
theorem dX5_init_130 : decode cX5_init 130 = .ok (.newarray .int, 2) := by decide +kernel
theorem dX5_init_132 : decode cX5_init 132 = .ok (.putfield 56, 3) := by decide +kernel
theorem dX5_init_135 : decode cX5_init 135 = .ok (.iconst 0, 1) := by decide +kernel
theorem dX5_init_136 : decode cX5_init 136 = .ok (.istore_n 1, 1) := by decide +kernel
theorem dX5_init_137 : decode cX5_init 137 = .ok (.iload_n 1, 1) := by decide +kernel
theorem dX5_init_138 : decode cX5_init 138 = .ok (.bipush 6, 2) := by decide +kernel
theorem dX5_init_140 : decode cX5_init 140 = .ok (.if_icmp .ge 16, 3) := by decide +kernel
theorem dX5_init_143 : decode cX5_init 143 = .ok (.aload_n 0, 1) := by decide +kernel
theorem dX5_init_144 : decode cX5_init 144 = .ok (.getfield 7, 3) := by decide +kernel
theorem dX5_init_147 : decode cX5_init 147 = .ok (.iload_n 1, 1) := by decide +kernel
theorem dX5_init_148 : decode cX5_init 148 = .ok (.iconst (-1), 1) := by decide +kernel
theorem dX5_init_149 : decode cX5_init 149 = .ok (.iastore, 1) := by decide +kernel
theorem dX5_init_150 : decode cX5_init 150 = .ok (.iinc 1 1, 3) := by decide +kernel
theorem dX5_init_153 : decode cX5_init 153 = .ok (.goto (-16), 3) := by decide +kernel
theorem dX5_init_156 : decode cX5_init 156 = .ok (.iconst 0, 1) := by decide +kernel
theorem dX5_init_157 : decode cX5_init 157 = .ok (.istore_n 1, 1) := by decide +kernel
theorem dX5_init_158 : decode cX5_init 158 = .ok (.iload_n 1, 1) := by decide +kernel
theorem dX5_init_159 : decode cX5_init 159 = .ok (.iconst 4, 1) := by decide +kernel
theorem dX5_init_160 : decode cX5_init 160 = .ok (.if_icmp .ge 16, 3) := by decide +kernel
theorem dX5_init_163 : decode cX5_init 163 = .ok (.aload_n 0, 1) := by decide +kernel
theorem dX5_init_164 : decode cX5_init 164 = .ok (.getfield 19, 3) := by decide +kernel
theorem dX5_init_167 : decode cX5_init 167 = .ok (.iload_n 1, 1) := by decide +kernel
theorem dX5_init_168 : decode cX5_init 168 = .ok (.iconst (-1), 1) := by decide +kernel
theorem dX5_init_169 : decode cX5_init 169 = .ok (.iastore, 1) := by decide +kernel
theorem dX5_init_170 : decode cX5_init 170 = .ok (.iinc 1 1, 3) := by decide +kernel
theorem dX5_init_173 : decode cX5_init 173 = .ok (.goto (-15), 3) := by decide +kernel
theorem dX5_init_176 : decode cX5_init 176 = .ok (.aload_n 0, 1) := by decide +kernel
theorem dX5_init_177 : decode cX5_init 177 = .ok (.lconst 1, 1) := by decide +kernel
theorem dX5_init_178 : decode cX5_init 178 = .ok (.putfield 59, 3) := by decide +kernel
theorem dX5_init_181 : decode cX5_init 181 = .ok (.return_, 1) := by decide +kernel
theorem dX5_in_0 : decode cX5_in 0 = .ok (.iload_n 0, 1) := by decide +kernel
theorem dX5_in_1 : decode cX5_in 1 = .ok (.iload_n 1, 1) := by decide +kernel
theorem dX5_in_2 : decode cX5_in 2 = .ok (.if_icmp .lt 12, 3) := by decide +kernel
theorem dX5_in_5 : decode cX5_in 5 = .ok (.iload_n 0, 1) := by decide +kernel
theorem dX5_in_6 : decode cX5_in 6 = .ok (.iload_n 2, 1) := by decide +kernel
theorem dX5_in_7 : decode cX5_in 7 = .ok (.if_icmp .gt 7, 3) := by decide +kernel
theorem dX5_in_10 : decode cX5_in 10 = .ok (.iconst 1, 1) := by decide +kernel
theorem dX5_in_11 : decode cX5_in 11 = .ok (.goto 4, 3) := by decide +kernel
theorem dX5_in_14 : decode cX5_in 14 = .ok (.iconst 0, 1) := by decide +kernel
theorem dX5_in_15 : decode cX5_in 15 = .ok (.ireturn, 1) := by decide +kernel
theorem dX5_has_0 : decode cX5_has 0 = .ok (.iload_n 0, 1) := by decide +kernel
theorem dX5_has_1 : decode cX5_has 1 = .ok (.iload_n 1, 1) := by decide +kernel
theorem dX5_has_2 : decode cX5_has 2 = .ok (.ishr, 1) := by decide +kernel
theorem dX5_has_3 : decode cX5_has 3 = .ok (.iconst 1, 1) := by decide +kernel
theorem dX5_has_4 : decode cX5_has 4 = .ok (.iand, 1) := by decide +kernel
theorem dX5_has_5 : decode cX5_has 5 = .ok (.iconst 1, 1) := by decide +kernel
theorem dX5_has_6 : decode cX5_has 6 = .ok (.if_icmp .ne 7, 3) := by decide +kernel
theorem dX5_has_9 : decode cX5_has 9 = .ok (.iconst 1, 1) := by decide +kernel
theorem dX5_has_10 : decode cX5_has 10 = .ok (.goto 4, 3) := by decide +kernel
theorem dX5_has_13 : decode cX5_has 13 = .ok (.iconst 0, 1) := by decide +kernel
theorem dX5_has_14 : decode cX5_has 14 = .ok (.ireturn, 1) := by decide +kernel
theorem dX5_ones_0 : decode cX5_ones 0 = .ok (.iconst 0, 1) := by decide +kernel
theorem dX5_ones_1 : decode cX5_ones 1 = .ok (.istore_n 1, 1) := by decide +kernel
theorem dX5_ones_2 : decode cX5_ones 2 = .ok (.iconst 0, 1) := by decide +kernel
theorem dX5_ones_3 : decode cX5_ones 3 = .ok (.istore_n 2, 1) := by decide +kernel
theorem dX5_ones_4 : decode cX5_ones 4 = .ok (.iload_n 2, 1) := by decide +kernel
theorem dX5_ones_5 : decode cX5_ones 5 = .ok (.bipush 24, 2) := by decide +kernel
theorem dX5_ones_7 : decode cX5_ones 7 = .ok (.if_icmp .ge 17, 3) := by decide +kernel
theorem dX5_ones_10 : decode cX5_ones 10 = .ok (.iload_n 1, 1) := by decide +kernel
theorem dX5_ones_11 : decode cX5_ones 11 = .ok (.iload_n 0, 1) := by decide +kernel
theorem dX5_ones_12 : decode cX5_ones 12 = .ok (.iload_n 2, 1) := by decide +kernel
theorem dX5_ones_13 : decode cX5_ones 13 = .ok (.ishr, 1) := by decide +kernel
theorem dX5_ones_14 : decode cX5_ones 14 = .ok (.iconst 1, 1) := by decide +kernel
theorem dX5_ones_15 : decode cX5_ones 15 = .ok (.iand, 1) := by decide +kernel
theorem dX5_ones_16 : decode cX5_ones 16 = .ok (.iadd, 1) := by decide +kernel
theorem dX5_ones_17 : decode cX5_ones 17 = .ok (.istore_n 1, 1) := by decide +kernel
theorem dX5_ones_18 : decode cX5_ones 18 = .ok (.iinc 2 1, 3) := by decide +kernel
theorem dX5_ones_21 : decode cX5_ones 21 = .ok (.goto (-17), 3) := by decide +kernel
theorem dX5_ones_24 : decode cX5_ones 24 = .ok (.iload_n 1, 1) := by decide +kernel
theorem dX5_ones_25 : decode cX5_ones 25 = .ok (.ireturn, 1) := by decide +kernel
theorem dX5_off_0 : decode cX5_off 0 = .ok (.iload_n 0, 1) := by decide +kernel
theorem dX5_off_1 : decode cX5_off 1 = .ok (.iload_n 1, 1) := by decide +kernel
theorem dX5_off_2 : decode cX5_off 2 = .ok (.if_icmp .le 9, 3) := by decide +kernel
theorem dX5_off_5 : decode cX5_off 5 = .ok (.iload_n 0, 1) := by decide +kernel
theorem dX5_off_6 : decode cX5_off 6 = .ok (.iload_n 1, 1) := by decide +kernel
theorem dX5_off_7 : decode cX5_off 7 = .ok (.isub, 1) := by decide +kernel
theorem dX5_off_8 : decode cX5_off 8 = .ok (.goto 6, 3) := by decide +kernel
theorem dX5_off_11 : decode cX5_off 11 = .ok (.iload_n 1, 1) := by decide +kernel
theorem dX5_off_12 : decode cX5_off 12 = .ok (.iload_n 0, 1) := by decide +kernel
theorem dX5_off_13 : decode cX5_off 13 = .ok (.isub, 1) := by decide +kernel
theorem dX5_off_14 : decode cX5_off 14 = .ok (.ireturn, 1) := by decide +kernel
theorem dX5_finds_0 : decode cX5_finds 0 = .ok (.aload_n 0, 1) := by decide +kernel
theorem dX5_finds_1 : decode cX5_finds 1 = .ok (.iload_n 1, 1) := by decide +kernel
theorem dX5_finds_2 : decode cX5_finds 2 = .ok (.putfield 63, 3) := by decide +kernel
theorem dX5_finds_5 : decode cX5_finds 5 = .ok (.aload_n 0, 1) := by decide +kernel
theorem dX5_finds_6 : decode cX5_finds 6 = .ok (.getfield 38, 3) := by decide +kernel
theorem dX5_finds_9 : decode cX5_finds 9 = .ok (.iload_n 1, 1) := by decide +kernel
theorem dX5_finds_10 : decode cX5_finds 10 = .ok (.dup2, 1) := by decide +kernel
theorem dX5_finds_11 : decode cX5_finds 11 = .ok (.iaload, 1) := by decide +kernel
theorem dX5_finds_12 : decode cX5_finds 12 = .ok (.iconst 1, 1) := by decide +kernel
theorem dX5_finds_13 : decode cX5_finds 13 = .ok (.iadd, 1) := by decide +kernel
theorem dX5_finds_14 : decode cX5_finds 14 = .ok (.iastore, 1) := by decide +kernel
theorem dX5_finds_15 : decode cX5_finds 15 = .ok (.bipush (-3), 2) := by decide +kernel
theorem dX5_finds_17 : decode cX5_finds 17 = .ok (.ireturn, 1) := by decide +kernel
theorem dX5_tells_0 : decode cX5_tells 0 = .ok (.aload_n 0, 1) := by decide +kernel
theorem dX5_tells_1 : decode cX5_tells 1 = .ok (.iload_n 2, 1) := by decide +kernel
theorem dX5_tells_2 : decode cX5_tells 2 = .ok (.putfield 67, 3) := by decide +kernel
theorem dX5_tells_5 : decode cX5_tells 5 = .ok (.iload_n 1, 1) := by decide +kernel
theorem dX5_tells_6 : decode cX5_tells 6 = .ok (.ireturn, 1) := by decide +kernel
theorem dX5_tellsParts_0 : decode cX5_tellsParts 0 = .ok (.lload_n 1, 1) := by decide +kernel
theorem dX5_tellsParts_1 : decode cX5_tellsParts 1 = .ok (.lstore 5, 2) := by decide +kernel
theorem dX5_tellsParts_3 : decode cX5_tellsParts 3 = .ok (.lload_n 3, 1) := by decide +kernel
theorem dX5_tellsParts_4 : decode cX5_tellsParts 4 = .ok (.lstore 7, 2) := by decide +kernel
theorem dX5_tellsParts_6 : decode cX5_tellsParts 6 = .ok (.lload 7, 2) := by decide +kernel
theorem dX5_tellsParts_8 : decode cX5_tellsParts 8 = .ok (.lconst 0, 1) := by decide +kernel
theorem dX5_tellsParts_9 : decode cX5_tellsParts 9 = .ok (.lcmp, 1) := by decide +kernel
theorem dX5_tellsParts_10 : decode cX5_tellsParts 10 = .ok (.ifCond .eq 21, 3) := by decide +kernel
theorem dX5_tellsParts_13 : decode cX5_tellsParts 13 = .ok (.lload 5, 2) := by decide +kernel
theorem dX5_tellsParts_15 : decode cX5_tellsParts 15 = .ok (.lload 7, 2) := by decide +kernel
theorem dX5_tellsParts_17 : decode cX5_tellsParts 17 = .ok (.lrem, 1) := by decide +kernel
theorem dX5_tellsParts_18 : decode cX5_tellsParts 18 = .ok (.lstore 9, 2) := by decide +kernel
theorem dX5_tellsParts_20 : decode cX5_tellsParts 20 = .ok (.lload 7, 2) := by decide +kernel
theorem dX5_tellsParts_22 : decode cX5_tellsParts 22 = .ok (.lstore 5, 2) := by decide +kernel
theorem dX5_tellsParts_24 : decode cX5_tellsParts 24 = .ok (.lload 9, 2) := by decide +kernel
theorem dX5_tellsParts_26 : decode cX5_tellsParts 26 = .ok (.lstore 7, 2) := by decide +kernel
theorem dX5_tellsParts_28 : decode cX5_tellsParts 28 = .ok (.goto (-22), 3) := by decide +kernel
theorem dX5_tellsParts_31 : decode cX5_tellsParts 31 = .ok (.aload_n 0, 1) := by decide +kernel
theorem dX5_tellsParts_32 : decode cX5_tellsParts 32 = .ok (.lload_n 1, 1) := by decide +kernel
theorem dX5_tellsParts_33 : decode cX5_tellsParts 33 = .ok (.lload 5, 2) := by decide +kernel
theorem dX5_tellsParts_35 : decode cX5_tellsParts 35 = .ok (.ldiv, 1) := by decide +kernel
theorem dX5_tellsParts_36 : decode cX5_tellsParts 36 = .ok (.putfield 70, 3) := by decide +kernel
theorem dX5_tellsParts_39 : decode cX5_tellsParts 39 = .ok (.aload_n 0, 1) := by decide +kernel
theorem dX5_tellsParts_40 : decode cX5_tellsParts 40 = .ok (.lload_n 3, 1) := by decide +kernel
theorem dX5_tellsParts_41 : decode cX5_tellsParts 41 = .ok (.lload 5, 2) := by decide +kernel
theorem dX5_tellsParts_43 : decode cX5_tellsParts 43 = .ok (.ldiv, 1) := by decide +kernel
theorem dX5_tellsParts_44 : decode cX5_tellsParts 44 = .ok (.putfield 59, 3) := by decide +kernel
theorem dX5_tellsParts_47 : decode cX5_tellsParts 47 = .ok (.iconst 1, 1) := by decide +kernel
theorem dX5_tellsParts_48 : decode cX5_tellsParts 48 = .ok (.ireturn, 1) := by decide +kernel
theorem dX5_isRow_0 : decode cX5_isRow 0 = .ok (.iload_n 0, 1) := by decide +kernel
theorem dX5_isRow_1 : decode cX5_isRow 1 = .ok (.iconst 0, 1) := by decide +kernel
theorem dX5_isRow_2 : decode cX5_isRow 2 = .ok (.iconst 5, 1) := by decide +kernel
theorem dX5_isRow_3 : decode cX5_isRow 3 = .ok (.invokestatic 73, 3) := by decide +kernel
theorem dX5_isRow_6 : decode cX5_isRow 6 = .ok (.ireturn, 1) := by decide +kernel
theorem dX5_isText_0 : decode cX5_isText 0 = .ok (.iload_n 0, 1) := by decide +kernel
theorem dX5_isText_1 : decode cX5_isText 1 = .ok (.iconst 0, 1) := by decide +kernel
theorem dX5_isText_2 : decode cX5_isText 2 = .ok (.iconst 3, 1) := by decide +kernel
theorem dX5_isText_3 : decode cX5_isText 3 = .ok (.invokestatic 73, 3) := by decide +kernel
theorem dX5_isText_6 : decode cX5_isText 6 = .ok (.ireturn, 1) := by decide +kernel
theorem dX5_lays_0 : decode cX5_lays 0 = .ok (.aload_n 0, 1) := by decide +kernel
theorem dX5_lays_1 : decode cX5_lays 1 = .ok (.getfield 7, 3) := by decide +kernel
theorem dX5_lays_4 : decode cX5_lays 4 = .ok (.iload_n 1, 1) := by decide +kernel
theorem dX5_lays_5 : decode cX5_lays 5 = .ok (.iload_n 2, 1) := by decide +kernel
theorem dX5_lays_6 : decode cX5_lays 6 = .ok (.iastore, 1) := by decide +kernel
theorem dX5_lays_7 : decode cX5_lays 7 = .ok (.iconst 0, 1) := by decide +kernel
theorem dX5_lays_8 : decode cX5_lays 8 = .ok (.istore_n 3, 1) := by decide +kernel
theorem dX5_lays_9 : decode cX5_lays 9 = .ok (.iload_n 3, 1) := by decide +kernel
theorem dX5_lays_10 : decode cX5_lays 10 = .ok (.bipush 40, 2) := by decide +kernel
theorem dX5_lays_12 : decode cX5_lays 12 = .ok (.if_icmp .ge 21, 3) := by decide +kernel
theorem dX5_lays_15 : decode cX5_lays 15 = .ok (.aload_n 0, 1) := by decide +kernel
theorem dX5_lays_16 : decode cX5_lays 16 = .ok (.getfield 13, 3) := by decide +kernel
theorem dX5_lays_19 : decode cX5_lays 19 = .ok (.bipush 40, 2) := by decide +kernel
theorem dX5_lays_21 : decode cX5_lays 21 = .ok (.iload_n 1, 1) := by decide +kernel
theorem dX5_lays_22 : decode cX5_lays 22 = .ok (.imul, 1) := by decide +kernel
theorem dX5_lays_23 : decode cX5_lays 23 = .ok (.iload_n 3, 1) := by decide +kernel
theorem dX5_lays_24 : decode cX5_lays 24 = .ok (.iadd, 1) := by decide +kernel
theorem dX5_lays_25 : decode cX5_lays 25 = .ok (.iconst 0, 1) := by decide +kernel
theorem dX5_lays_26 : decode cX5_lays 26 = .ok (.iastore, 1) := by decide +kernel
theorem dX5_lays_27 : decode cX5_lays 27 = .ok (.iinc 3 1, 3) := by decide +kernel
theorem dX5_lays_30 : decode cX5_lays 30 = .ok (.goto (-21), 3) := by decide +kernel
theorem dX5_lays_33 : decode cX5_lays 33 = .ok (.return_, 1) := by decide +kernel
theorem dX5_row_0 : decode cX5_row 0 = .ok (.iload_n 1, 1) := by decide +kernel
theorem dX5_row_1 : decode cX5_row 1 = .ok (.invokestatic 77, 3) := by decide +kernel
theorem dX5_row_4 : decode cX5_row 4 = .ok (.ifCond .eq 9, 3) := by decide +kernel
theorem dX5_row_7 : decode cX5_row 7 = .ok (.iload_n 2, 1) := by decide +kernel
theorem dX5_row_8 : decode cX5_row 8 = .ok (.bipush 40, 2) := by decide +kernel
theorem dX5_row_10 : decode cX5_row 10 = .ok (.if_icmp .le 5, 3) := by decide +kernel
theorem dX5_row_13 : decode cX5_row 13 = .ok (.iconst (-1), 1) := by decide +kernel
theorem dX5_row_14 : decode cX5_row 14 = .ok (.ireturn, 1) := by decide +kernel
theorem dX5_row_15 : decode cX5_row 15 = .ok (.iload_n 2, 1) := by decide +kernel
theorem dX5_row_16 : decode cX5_row 16 = .ok (.ifCond .ge 9, 3) := by decide +kernel
theorem dX5_row_19 : decode cX5_row 19 = .ok (.aload_n 0, 1) := by decide +kernel
theorem dX5_row_20 : decode cX5_row 20 = .ok (.iconst 5, 1) := by decide +kernel
theorem dX5_row_21 : decode cX5_row 21 = .ok (.invokevirtual 81, 3) := by decide +kernel
theorem dX5_row_24 : decode cX5_row 24 = .ok (.ireturn, 1) := by decide +kernel
theorem dX5_row_25 : decode cX5_row 25 = .ok (.aload_n 0, 1) := by decide +kernel
theorem dX5_row_26 : decode cX5_row 26 = .ok (.iload_n 1, 1) := by decide +kernel
theorem dX5_row_27 : decode cX5_row 27 = .ok (.iload_n 2, 1) := by decide +kernel
theorem dX5_row_28 : decode cX5_row 28 = .ok (.invokevirtual 85, 3) := by decide +kernel
theorem dX5_row_31 : decode cX5_row 31 = .ok (.iload_n 2, 1) := by decide +kernel
theorem dX5_row_32 : decode cX5_row 32 = .ok (.ireturn, 1) := by decide +kernel
theorem dX5_lay_0 : decode cX5_lay 0 = .ok (.aload_n 0, 1) := by decide +kernel
theorem dX5_lay_1 : decode cX5_lay 1 = .ok (.iload_n 1, 1) := by decide +kernel
theorem dX5_lay_2 : decode cX5_lay 2 = .ok (.iload_n 2, 1) := by decide +kernel
theorem dX5_lay_3 : decode cX5_lay 3 = .ok (.invokevirtual 89, 3) := by decide +kernel
theorem dX5_lay_6 : decode cX5_lay 6 = .ok (.istore 4, 2) := by decide +kernel
theorem dX5_lay_8 : decode cX5_lay 8 = .ok (.iload 4, 2) := by decide +kernel
theorem dX5_lay_10 : decode cX5_lay 10 = .ok (.iconst 1, 1) := by decide +kernel
theorem dX5_lay_11 : decode cX5_lay 11 = .ok (.if_icmp .ne 15, 3) := by decide +kernel
theorem dX5_lay_14 : decode cX5_lay 14 = .ok (.aload_n 0, 1) := by decide +kernel
theorem dX5_lay_15 : decode cX5_lay 15 = .ok (.getfield 13, 3) := by decide +kernel
theorem dX5_lay_18 : decode cX5_lay 18 = .ok (.bipush 40, 2) := by decide +kernel
theorem dX5_lay_20 : decode cX5_lay 20 = .ok (.iload_n 1, 1) := by decide +kernel
theorem dX5_lay_21 : decode cX5_lay 21 = .ok (.imul, 1) := by decide +kernel
theorem dX5_lay_22 : decode cX5_lay 22 = .ok (.iload_n 2, 1) := by decide +kernel
theorem dX5_lay_23 : decode cX5_lay 23 = .ok (.iadd, 1) := by decide +kernel
theorem dX5_lay_24 : decode cX5_lay 24 = .ok (.iload_n 3, 1) := by decide +kernel
theorem dX5_lay_25 : decode cX5_lay 25 = .ok (.iastore, 1) := by decide +kernel
theorem dX5_lay_26 : decode cX5_lay 26 = .ok (.iload 4, 2) := by decide +kernel
theorem dX5_lay_28 : decode cX5_lay 28 = .ok (.ireturn, 1) := by decide +kernel
theorem dX5_at_0 : decode cX5_at 0 = .ok (.iload_n 1, 1) := by decide +kernel
theorem dX5_at_1 : decode cX5_at 1 = .ok (.invokestatic 77, 3) := by decide +kernel
theorem dX5_at_4 : decode cX5_at 4 = .ok (.ifCond .ne 5, 3) := by decide +kernel
theorem dX5_at_7 : decode cX5_at 7 = .ok (.iconst (-1), 1) := by decide +kernel
theorem dX5_at_8 : decode cX5_at 8 = .ok (.ireturn, 1) := by decide +kernel
theorem dX5_at_9 : decode cX5_at 9 = .ok (.aload_n 0, 1) := by decide +kernel
theorem dX5_at_10 : decode cX5_at 10 = .ok (.getfield 7, 3) := by decide +kernel
theorem dX5_at_13 : decode cX5_at 13 = .ok (.iload_n 1, 1) := by decide +kernel
theorem dX5_at_14 : decode cX5_at 14 = .ok (.iaload, 1) := by decide +kernel
theorem dX5_at_15 : decode cX5_at 15 = .ok (.ifCond .ge 9, 3) := by decide +kernel
theorem dX5_at_18 : decode cX5_at 18 = .ok (.aload_n 0, 1) := by decide +kernel
theorem dX5_at_19 : decode cX5_at 19 = .ok (.iconst 1, 1) := by decide +kernel
theorem dX5_at_20 : decode cX5_at 20 = .ok (.invokevirtual 81, 3) := by decide +kernel
theorem dX5_at_23 : decode cX5_at 23 = .ok (.ireturn, 1) := by decide +kernel
theorem dX5_at_24 : decode cX5_at 24 = .ok (.iload_n 2, 1) := by decide +kernel
theorem dX5_at_25 : decode cX5_at 25 = .ok (.iconst 0, 1) := by decide +kernel
theorem dX5_at_26 : decode cX5_at 26 = .ok (.aload_n 0, 1) := by decide +kernel
theorem dX5_at_27 : decode cX5_at 27 = .ok (.getfield 7, 3) := by decide +kernel
theorem dX5_at_30 : decode cX5_at 30 = .ok (.iload_n 1, 1) := by decide +kernel
theorem dX5_at_31 : decode cX5_at 31 = .ok (.iaload, 1) := by decide +kernel
theorem dX5_at_32 : decode cX5_at 32 = .ok (.iconst 1, 1) := by decide +kernel
theorem dX5_at_33 : decode cX5_at 33 = .ok (.isub, 1) := by decide +kernel
theorem dX5_at_34 : decode cX5_at 34 = .ok (.invokestatic 73, 3) := by decide +kernel
theorem dX5_at_37 : decode cX5_at 37 = .ok (.ifCond .eq 22, 3) := by decide +kernel
theorem dX5_at_40 : decode cX5_at 40 = .ok (.aload_n 0, 1) := by decide +kernel
theorem dX5_at_41 : decode cX5_at 41 = .ok (.iconst 1, 1) := by decide +kernel
theorem dX5_at_42 : decode cX5_at 42 = .ok (.aload_n 0, 1) := by decide +kernel
theorem dX5_at_43 : decode cX5_at 43 = .ok (.getfield 13, 3) := by decide +kernel
theorem dX5_at_46 : decode cX5_at 46 = .ok (.bipush 40, 2) := by decide +kernel
theorem dX5_at_48 : decode cX5_at 48 = .ok (.iload_n 1, 1) := by decide +kernel
theorem dX5_at_49 : decode cX5_at 49 = .ok (.imul, 1) := by decide +kernel
theorem dX5_at_50 : decode cX5_at 50 = .ok (.iload_n 2, 1) := by decide +kernel
theorem dX5_at_51 : decode cX5_at 51 = .ok (.iadd, 1) := by decide +kernel
theorem dX5_at_52 : decode cX5_at 52 = .ok (.iaload, 1) := by decide +kernel
theorem dX5_at_53 : decode cX5_at 53 = .ok (.invokevirtual 93, 3) := by decide +kernel
theorem dX5_at_56 : decode cX5_at 56 = .ok (.goto 8, 3) := by decide +kernel
theorem dX5_at_59 : decode cX5_at 59 = .ok (.aload_n 0, 1) := by decide +kernel
theorem dX5_at_60 : decode cX5_at 60 = .ok (.iconst 2, 1) := by decide +kernel
theorem dX5_at_61 : decode cX5_at 61 = .ok (.invokevirtual 81, 3) := by decide +kernel
theorem dX5_at_64 : decode cX5_at 64 = .ok (.ireturn, 1) := by decide +kernel
theorem dX5_tear_0 : decode cX5_tear 0 = .ok (.iload_n 1, 1) := by decide +kernel
theorem dX5_tear_1 : decode cX5_tear 1 = .ok (.invokestatic 77, 3) := by decide +kernel
theorem dX5_tear_4 : decode cX5_tear 4 = .ok (.ifCond .ne 5, 3) := by decide +kernel
theorem dX5_tear_7 : decode cX5_tear 7 = .ok (.iconst (-1), 1) := by decide +kernel
theorem dX5_tear_8 : decode cX5_tear 8 = .ok (.ireturn, 1) := by decide +kernel
theorem dX5_tear_9 : decode cX5_tear 9 = .ok (.aload_n 0, 1) := by decide +kernel
theorem dX5_tear_10 : decode cX5_tear 10 = .ok (.getfield 7, 3) := by decide +kernel
theorem dX5_tear_13 : decode cX5_tear 13 = .ok (.iload_n 1, 1) := by decide +kernel
theorem dX5_tear_14 : decode cX5_tear 14 = .ok (.iaload, 1) := by decide +kernel
theorem dX5_tear_15 : decode cX5_tear 15 = .ok (.ifCond .ge 9, 3) := by decide +kernel
theorem dX5_tear_18 : decode cX5_tear 18 = .ok (.aload_n 0, 1) := by decide +kernel
theorem dX5_tear_19 : decode cX5_tear 19 = .ok (.iconst 1, 1) := by decide +kernel
theorem dX5_tear_20 : decode cX5_tear 20 = .ok (.invokevirtual 81, 3) := by decide +kernel
theorem dX5_tear_23 : decode cX5_tear 23 = .ok (.ireturn, 1) := by decide +kernel
theorem dX5_tear_24 : decode cX5_tear 24 = .ok (.aload_n 0, 1) := by decide +kernel
theorem dX5_tear_25 : decode cX5_tear 25 = .ok (.getfield 7, 3) := by decide +kernel
theorem dX5_tear_28 : decode cX5_tear 28 = .ok (.iload_n 1, 1) := by decide +kernel
theorem dX5_tear_29 : decode cX5_tear 29 = .ok (.iconst (-1), 1) := by decide +kernel
theorem dX5_tear_30 : decode cX5_tear 30 = .ok (.iastore, 1) := by decide +kernel
theorem dX5_tear_31 : decode cX5_tear 31 = .ok (.iconst 1, 1) := by decide +kernel
theorem dX5_tear_32 : decode cX5_tear 32 = .ok (.ireturn, 1) := by decide +kernel
theorem dX5_copy_0 : decode cX5_copy 0 = .ok (.iload_n 1, 1) := by decide +kernel
theorem dX5_copy_1 : decode cX5_copy 1 = .ok (.invokestatic 77, 3) := by decide +kernel
theorem dX5_copy_4 : decode cX5_copy 4 = .ok (.ifCond .eq 10, 3) := by decide +kernel
theorem dX5_copy_7 : decode cX5_copy 7 = .ok (.iload_n 3, 1) := by decide +kernel
theorem dX5_copy_8 : decode cX5_copy 8 = .ok (.invokestatic 77, 3) := by decide +kernel
theorem dX5_copy_11 : decode cX5_copy 11 = .ok (.ifCond .ne 5, 3) := by decide +kernel
theorem dX5_copy_14 : decode cX5_copy 14 = .ok (.iconst (-1), 1) := by decide +kernel
theorem dX5_copy_15 : decode cX5_copy 15 = .ok (.ireturn, 1) := by decide +kernel
theorem dX5_copy_16 : decode cX5_copy 16 = .ok (.iload 5, 2) := by decide +kernel
theorem dX5_copy_18 : decode cX5_copy 18 = .ok (.ifCond .ge 9, 3) := by decide +kernel
theorem dX5_copy_21 : decode cX5_copy 21 = .ok (.aload_n 0, 1) := by decide +kernel
theorem dX5_copy_22 : decode cX5_copy 22 = .ok (.iconst 5, 1) := by decide +kernel
theorem dX5_copy_23 : decode cX5_copy 23 = .ok (.invokevirtual 81, 3) := by decide +kernel
theorem dX5_copy_26 : decode cX5_copy 26 = .ok (.ireturn, 1) := by decide +kernel
theorem dX5_copy_27 : decode cX5_copy 27 = .ok (.aload_n 0, 1) := by decide +kernel
theorem dX5_copy_28 : decode cX5_copy 28 = .ok (.getfield 7, 3) := by decide +kernel
theorem dX5_copy_31 : decode cX5_copy 31 = .ok (.iload_n 1, 1) := by decide +kernel
theorem dX5_copy_32 : decode cX5_copy 32 = .ok (.iaload, 1) := by decide +kernel
theorem dX5_copy_33 : decode cX5_copy 33 = .ok (.ifCond .lt 12, 3) := by decide +kernel
theorem dX5_copy_36 : decode cX5_copy 36 = .ok (.aload_n 0, 1) := by decide +kernel
theorem dX5_copy_37 : decode cX5_copy 37 = .ok (.getfield 7, 3) := by decide +kernel
theorem dX5_copy_40 : decode cX5_copy 40 = .ok (.iload_n 3, 1) := by decide +kernel
theorem dX5_copy_41 : decode cX5_copy 41 = .ok (.iaload, 1) := by decide +kernel
theorem dX5_copy_42 : decode cX5_copy 42 = .ok (.ifCond .ge 9, 3) := by decide +kernel
theorem dX5_copy_45 : decode cX5_copy 45 = .ok (.aload_n 0, 1) := by decide +kernel
theorem dX5_copy_46 : decode cX5_copy 46 = .ok (.iconst 1, 1) := by decide +kernel
theorem dX5_copy_47 : decode cX5_copy 47 = .ok (.invokevirtual 81, 3) := by decide +kernel
theorem dX5_copy_50 : decode cX5_copy 50 = .ok (.ireturn, 1) := by decide +kernel
theorem dX5_copy_51 : decode cX5_copy 51 = .ok (.iload_n 2, 1) := by decide +kernel
theorem dX5_copy_52 : decode cX5_copy 52 = .ok (.ifCond .lt 43, 3) := by decide +kernel
theorem dX5_copy_55 : decode cX5_copy 55 = .ok (.iload 4, 2) := by decide +kernel
theorem dX5_copy_57 : decode cX5_copy 57 = .ok (.ifCond .lt 38, 3) := by decide +kernel
theorem dX5_copy_60 : decode cX5_copy 60 = .ok (.iload_n 2, 1) := by decide +kernel
theorem dX5_copy_61 : decode cX5_copy 61 = .ok (.i2l, 1) := by decide +kernel
theorem dX5_copy_62 : decode cX5_copy 62 = .ok (.iload 5, 2) := by decide +kernel
theorem dX5_copy_64 : decode cX5_copy 64 = .ok (.i2l, 1) := by decide +kernel
theorem dX5_copy_65 : decode cX5_copy 65 = .ok (.ladd, 1) := by decide +kernel
theorem dX5_copy_66 : decode cX5_copy 66 = .ok (.aload_n 0, 1) := by decide +kernel
theorem dX5_copy_67 : decode cX5_copy 67 = .ok (.getfield 7, 3) := by decide +kernel
theorem dX5_copy_70 : decode cX5_copy 70 = .ok (.iload_n 1, 1) := by decide +kernel
theorem dX5_copy_71 : decode cX5_copy 71 = .ok (.iaload, 1) := by decide +kernel
theorem dX5_copy_72 : decode cX5_copy 72 = .ok (.i2l, 1) := by decide +kernel
theorem dX5_copy_73 : decode cX5_copy 73 = .ok (.lcmp, 1) := by decide +kernel
theorem dX5_copy_74 : decode cX5_copy 74 = .ok (.ifCond .gt 21, 3) := by decide +kernel
theorem dX5_copy_77 : decode cX5_copy 77 = .ok (.iload 4, 2) := by decide +kernel
theorem dX5_copy_79 : decode cX5_copy 79 = .ok (.i2l, 1) := by decide +kernel
theorem dX5_copy_80 : decode cX5_copy 80 = .ok (.iload 5, 2) := by decide +kernel
theorem dX5_copy_82 : decode cX5_copy 82 = .ok (.i2l, 1) := by decide +kernel
theorem dX5_copy_83 : decode cX5_copy 83 = .ok (.ladd, 1) := by decide +kernel
theorem dX5_copy_84 : decode cX5_copy 84 = .ok (.aload_n 0, 1) := by decide +kernel
theorem dX5_copy_85 : decode cX5_copy 85 = .ok (.getfield 7, 3) := by decide +kernel
theorem dX5_copy_88 : decode cX5_copy 88 = .ok (.iload_n 3, 1) := by decide +kernel
theorem dX5_copy_89 : decode cX5_copy 89 = .ok (.iaload, 1) := by decide +kernel
theorem dX5_copy_90 : decode cX5_copy 90 = .ok (.i2l, 1) := by decide +kernel
theorem dX5_copy_91 : decode cX5_copy 91 = .ok (.lcmp, 1) := by decide +kernel
theorem dX5_copy_92 : decode cX5_copy 92 = .ok (.ifCond .le 9, 3) := by decide +kernel
theorem dX5_copy_95 : decode cX5_copy 95 = .ok (.aload_n 0, 1) := by decide +kernel
theorem dX5_copy_96 : decode cX5_copy 96 = .ok (.iconst 2, 1) := by decide +kernel
theorem dX5_copy_97 : decode cX5_copy 97 = .ok (.invokevirtual 81, 3) := by decide +kernel
theorem dX5_copy_100 : decode cX5_copy 100 = .ok (.ireturn, 1) := by decide +kernel
theorem dX5_copy_101 : decode cX5_copy 101 = .ok (.iconst 0, 1) := by decide +kernel
theorem dX5_copy_102 : decode cX5_copy 102 = .ok (.istore 6, 2) := by decide +kernel
theorem dX5_copy_104 : decode cX5_copy 104 = .ok (.iload 6, 2) := by decide +kernel
theorem dX5_copy_106 : decode cX5_copy 106 = .ok (.iload 5, 2) := by decide +kernel
theorem dX5_copy_108 : decode cX5_copy 108 = .ok (.if_icmp .ge 30, 3) := by decide +kernel
theorem dX5_copy_111 : decode cX5_copy 111 = .ok (.aload_n 0, 1) := by decide +kernel
theorem dX5_copy_112 : decode cX5_copy 112 = .ok (.getfield 16, 3) := by decide +kernel
theorem dX5_copy_115 : decode cX5_copy 115 = .ok (.iload 6, 2) := by decide +kernel
theorem dX5_copy_117 : decode cX5_copy 117 = .ok (.aload_n 0, 1) := by decide +kernel
theorem dX5_copy_118 : decode cX5_copy 118 = .ok (.getfield 13, 3) := by decide +kernel
theorem dX5_copy_121 : decode cX5_copy 121 = .ok (.bipush 40, 2) := by decide +kernel
theorem dX5_copy_123 : decode cX5_copy 123 = .ok (.iload_n 1, 1) := by decide +kernel
theorem dX5_copy_124 : decode cX5_copy 124 = .ok (.imul, 1) := by decide +kernel
theorem dX5_copy_125 : decode cX5_copy 125 = .ok (.iload_n 2, 1) := by decide +kernel
theorem dX5_copy_126 : decode cX5_copy 126 = .ok (.iadd, 1) := by decide +kernel
theorem dX5_copy_127 : decode cX5_copy 127 = .ok (.iload 6, 2) := by decide +kernel
theorem dX5_copy_129 : decode cX5_copy 129 = .ok (.iadd, 1) := by decide +kernel
theorem dX5_copy_130 : decode cX5_copy 130 = .ok (.iaload, 1) := by decide +kernel
theorem dX5_copy_131 : decode cX5_copy 131 = .ok (.iastore, 1) := by decide +kernel
theorem dX5_copy_132 : decode cX5_copy 132 = .ok (.iinc 6 1, 3) := by decide +kernel
theorem dX5_copy_135 : decode cX5_copy 135 = .ok (.goto (-31), 3) := by decide +kernel
theorem dX5_copy_138 : decode cX5_copy 138 = .ok (.iconst 0, 1) := by decide +kernel
theorem dX5_copy_139 : decode cX5_copy 139 = .ok (.istore 6, 2) := by decide +kernel
theorem dX5_copy_141 : decode cX5_copy 141 = .ok (.iload 6, 2) := by decide +kernel
theorem dX5_copy_143 : decode cX5_copy 143 = .ok (.iload 5, 2) := by decide +kernel
theorem dX5_copy_145 : decode cX5_copy 145 = .ok (.if_icmp .ge 31, 3) := by decide +kernel
theorem dX5_copy_148 : decode cX5_copy 148 = .ok (.aload_n 0, 1) := by decide +kernel
theorem dX5_copy_149 : decode cX5_copy 149 = .ok (.getfield 13, 3) := by decide +kernel
theorem dX5_copy_152 : decode cX5_copy 152 = .ok (.bipush 40, 2) := by decide +kernel
theorem dX5_copy_154 : decode cX5_copy 154 = .ok (.iload_n 3, 1) := by decide +kernel
theorem dX5_copy_155 : decode cX5_copy 155 = .ok (.imul, 1) := by decide +kernel
theorem dX5_copy_156 : decode cX5_copy 156 = .ok (.iload 4, 2) := by decide +kernel
theorem dX5_copy_158 : decode cX5_copy 158 = .ok (.iadd, 1) := by decide +kernel
theorem dX5_copy_159 : decode cX5_copy 159 = .ok (.iload 6, 2) := by decide +kernel
theorem dX5_copy_161 : decode cX5_copy 161 = .ok (.iadd, 1) := by decide +kernel
theorem dX5_copy_162 : decode cX5_copy 162 = .ok (.aload_n 0, 1) := by decide +kernel
theorem dX5_copy_163 : decode cX5_copy 163 = .ok (.getfield 16, 3) := by decide +kernel
theorem dX5_copy_166 : decode cX5_copy 166 = .ok (.iload 6, 2) := by decide +kernel
theorem dX5_copy_168 : decode cX5_copy 168 = .ok (.iaload, 1) := by decide +kernel
theorem dX5_copy_169 : decode cX5_copy 169 = .ok (.iastore, 1) := by decide +kernel
theorem dX5_copy_170 : decode cX5_copy 170 = .ok (.iinc 6 1, 3) := by decide +kernel
theorem dX5_copy_173 : decode cX5_copy 173 = .ok (.goto (-32), 3) := by decide +kernel
theorem dX5_copy_176 : decode cX5_copy 176 = .ok (.iconst 1, 1) := by decide +kernel
theorem dX5_copy_177 : decode cX5_copy 177 = .ok (.ireturn, 1) := by decide +kernel
theorem dX5_mean_0 : decode cX5_mean 0 = .ok (.iload_n 1, 1) := by decide +kernel
theorem dX5_mean_1 : decode cX5_mean 1 = .ok (.invokestatic 77, 3) := by decide +kernel
theorem dX5_mean_4 : decode cX5_mean 4 = .ok (.ifCond .ne 5, 3) := by decide +kernel
theorem dX5_mean_7 : decode cX5_mean 7 = .ok (.iconst (-1), 1) := by decide +kernel
theorem dX5_mean_8 : decode cX5_mean 8 = .ok (.ireturn, 1) := by decide +kernel
theorem dX5_mean_9 : decode cX5_mean 9 = .ok (.aload_n 0, 1) := by decide +kernel
theorem dX5_mean_10 : decode cX5_mean 10 = .ok (.getfield 7, 3) := by decide +kernel
theorem dX5_mean_13 : decode cX5_mean 13 = .ok (.iload_n 1, 1) := by decide +kernel
theorem dX5_mean_14 : decode cX5_mean 14 = .ok (.iaload, 1) := by decide +kernel
theorem dX5_mean_15 : decode cX5_mean 15 = .ok (.ifCond .ge 9, 3) := by decide +kernel
theorem dX5_mean_18 : decode cX5_mean 18 = .ok (.aload_n 0, 1) := by decide +kernel
theorem dX5_mean_19 : decode cX5_mean 19 = .ok (.iconst 1, 1) := by decide +kernel
theorem dX5_mean_20 : decode cX5_mean 20 = .ok (.invokevirtual 81, 3) := by decide +kernel
theorem dX5_mean_23 : decode cX5_mean 23 = .ok (.ireturn, 1) := by decide +kernel
theorem dX5_mean_24 : decode cX5_mean 24 = .ok (.aload_n 0, 1) := by decide +kernel
theorem dX5_mean_25 : decode cX5_mean 25 = .ok (.getfield 7, 3) := by decide +kernel
theorem dX5_mean_28 : decode cX5_mean 28 = .ok (.iload_n 1, 1) := by decide +kernel
theorem dX5_mean_29 : decode cX5_mean 29 = .ok (.iaload, 1) := by decide +kernel
theorem dX5_mean_30 : decode cX5_mean 30 = .ok (.ifCond .ne 9, 3) := by decide +kernel
theorem dX5_mean_33 : decode cX5_mean 33 = .ok (.aload_n 0, 1) := by decide +kernel
theorem dX5_mean_34 : decode cX5_mean 34 = .ok (.iconst 4, 1) := by decide +kernel
theorem dX5_mean_35 : decode cX5_mean 35 = .ok (.invokevirtual 81, 3) := by decide +kernel
theorem dX5_mean_38 : decode cX5_mean 38 = .ok (.ireturn, 1) := by decide +kernel
theorem dX5_mean_39 : decode cX5_mean 39 = .ok (.lconst 0, 1) := by decide +kernel
theorem dX5_mean_40 : decode cX5_mean 40 = .ok (.lstore_n 2, 1) := by decide +kernel
theorem dX5_mean_41 : decode cX5_mean 41 = .ok (.iconst 0, 1) := by decide +kernel
theorem dX5_mean_42 : decode cX5_mean 42 = .ok (.istore 4, 2) := by decide +kernel
theorem dX5_mean_44 : decode cX5_mean 44 = .ok (.iload 4, 2) := by decide +kernel
theorem dX5_mean_46 : decode cX5_mean 46 = .ok (.aload_n 0, 1) := by decide +kernel
theorem dX5_mean_47 : decode cX5_mean 47 = .ok (.getfield 7, 3) := by decide +kernel
theorem dX5_mean_50 : decode cX5_mean 50 = .ok (.iload_n 1, 1) := by decide +kernel
theorem dX5_mean_51 : decode cX5_mean 51 = .ok (.iaload, 1) := by decide +kernel
theorem dX5_mean_52 : decode cX5_mean 52 = .ok (.if_icmp .ge 25, 3) := by decide +kernel
theorem dX5_mean_55 : decode cX5_mean 55 = .ok (.lload_n 2, 1) := by decide +kernel
theorem dX5_mean_56 : decode cX5_mean 56 = .ok (.aload_n 0, 1) := by decide +kernel
theorem dX5_mean_57 : decode cX5_mean 57 = .ok (.getfield 13, 3) := by decide +kernel
theorem dX5_mean_60 : decode cX5_mean 60 = .ok (.bipush 40, 2) := by decide +kernel
theorem dX5_mean_62 : decode cX5_mean 62 = .ok (.iload_n 1, 1) := by decide +kernel
theorem dX5_mean_63 : decode cX5_mean 63 = .ok (.imul, 1) := by decide +kernel
theorem dX5_mean_64 : decode cX5_mean 64 = .ok (.iload 4, 2) := by decide +kernel
theorem dX5_mean_66 : decode cX5_mean 66 = .ok (.iadd, 1) := by decide +kernel
theorem dX5_mean_67 : decode cX5_mean 67 = .ok (.iaload, 1) := by decide +kernel
theorem dX5_mean_68 : decode cX5_mean 68 = .ok (.i2l, 1) := by decide +kernel
theorem dX5_mean_69 : decode cX5_mean 69 = .ok (.ladd, 1) := by decide +kernel
theorem dX5_mean_70 : decode cX5_mean 70 = .ok (.lstore_n 2, 1) := by decide +kernel
theorem dX5_mean_71 : decode cX5_mean 71 = .ok (.iinc 4 1, 3) := by decide +kernel
theorem dX5_mean_74 : decode cX5_mean 74 = .ok (.goto (-30), 3) := by decide +kernel
theorem dX5_mean_77 : decode cX5_mean 77 = .ok (.aload_n 0, 1) := by decide +kernel
theorem dX5_mean_78 : decode cX5_mean 78 = .ok (.iconst 1, 1) := by decide +kernel
theorem dX5_mean_79 : decode cX5_mean 79 = .ok (.lload_n 2, 1) := by decide +kernel
theorem dX5_mean_80 : decode cX5_mean 80 = .ok (.aload_n 0, 1) := by decide +kernel
theorem dX5_mean_81 : decode cX5_mean 81 = .ok (.getfield 7, 3) := by decide +kernel
theorem dX5_mean_84 : decode cX5_mean 84 = .ok (.iload_n 1, 1) := by decide +kernel
theorem dX5_mean_85 : decode cX5_mean 85 = .ok (.iaload, 1) := by decide +kernel
theorem dX5_mean_86 : decode cX5_mean 86 = .ok (.i2l, 1) := by decide +kernel
theorem dX5_mean_87 : decode cX5_mean 87 = .ok (.ldiv, 1) := by decide +kernel
theorem dX5_mean_88 : decode cX5_mean 88 = .ok (.l2i, 1) := by decide +kernel
theorem dX5_mean_89 : decode cX5_mean 89 = .ok (.invokevirtual 93, 3) := by decide +kernel
theorem dX5_mean_92 : decode cX5_mean 92 = .ok (.ireturn, 1) := by decide +kernel
theorem dX5_text_0 : decode cX5_text 0 = .ok (.iload_n 1, 1) := by decide +kernel
theorem dX5_text_1 : decode cX5_text 1 = .ok (.invokestatic 96, 3) := by decide +kernel
theorem dX5_text_4 : decode cX5_text 4 = .ok (.ifCond .eq 9, 3) := by decide +kernel
theorem dX5_text_7 : decode cX5_text 7 = .ok (.iload_n 2, 1) := by decide +kernel
theorem dX5_text_8 : decode cX5_text 8 = .ok (.bipush 60, 2) := by decide +kernel
theorem dX5_text_10 : decode cX5_text 10 = .ok (.if_icmp .le 5, 3) := by decide +kernel
theorem dX5_text_13 : decode cX5_text 13 = .ok (.iconst (-1), 1) := by decide +kernel
theorem dX5_text_14 : decode cX5_text 14 = .ok (.ireturn, 1) := by decide +kernel
theorem dX5_text_15 : decode cX5_text 15 = .ok (.iload_n 2, 1) := by decide +kernel
theorem dX5_text_16 : decode cX5_text 16 = .ok (.ifCond .ge 9, 3) := by decide +kernel
theorem dX5_text_19 : decode cX5_text 19 = .ok (.aload_n 0, 1) := by decide +kernel
theorem dX5_text_20 : decode cX5_text 20 = .ok (.iconst 5, 1) := by decide +kernel
theorem dX5_text_21 : decode cX5_text 21 = .ok (.invokevirtual 81, 3) := by decide +kernel
theorem dX5_text_24 : decode cX5_text 24 = .ok (.ireturn, 1) := by decide +kernel
theorem dX5_text_25 : decode cX5_text 25 = .ok (.aload_n 0, 1) := by decide +kernel
theorem dX5_text_26 : decode cX5_text 26 = .ok (.getfield 19, 3) := by decide +kernel
theorem dX5_text_29 : decode cX5_text 29 = .ok (.iload_n 1, 1) := by decide +kernel
theorem dX5_text_30 : decode cX5_text 30 = .ok (.iload_n 2, 1) := by decide +kernel
theorem dX5_text_31 : decode cX5_text 31 = .ok (.iastore, 1) := by decide +kernel
theorem dX5_text_32 : decode cX5_text 32 = .ok (.iconst 0, 1) := by decide +kernel
theorem dX5_text_33 : decode cX5_text 33 = .ok (.istore_n 3, 1) := by decide +kernel
theorem dX5_text_34 : decode cX5_text 34 = .ok (.iload_n 3, 1) := by decide +kernel
theorem dX5_text_35 : decode cX5_text 35 = .ok (.bipush 60, 2) := by decide +kernel
theorem dX5_text_37 : decode cX5_text 37 = .ok (.if_icmp .ge 22, 3) := by decide +kernel
theorem dX5_text_40 : decode cX5_text 40 = .ok (.aload_n 0, 1) := by decide +kernel
theorem dX5_text_41 : decode cX5_text 41 = .ok (.getfield 22, 3) := by decide +kernel
theorem dX5_text_44 : decode cX5_text 44 = .ok (.bipush 60, 2) := by decide +kernel
theorem dX5_text_46 : decode cX5_text 46 = .ok (.iload_n 1, 1) := by decide +kernel
theorem dX5_text_47 : decode cX5_text 47 = .ok (.imul, 1) := by decide +kernel
theorem dX5_text_48 : decode cX5_text 48 = .ok (.iload_n 3, 1) := by decide +kernel
theorem dX5_text_49 : decode cX5_text 49 = .ok (.iadd, 1) := by decide +kernel
theorem dX5_text_50 : decode cX5_text 50 = .ok (.bipush 32, 2) := by decide +kernel
theorem dX5_text_52 : decode cX5_text 52 = .ok (.iastore, 1) := by decide +kernel
theorem dX5_text_53 : decode cX5_text 53 = .ok (.iinc 3 1, 3) := by decide +kernel
theorem dX5_text_56 : decode cX5_text 56 = .ok (.goto (-22), 3) := by decide +kernel
theorem dX5_text_59 : decode cX5_text 59 = .ok (.iload_n 2, 1) := by decide +kernel
theorem dX5_text_60 : decode cX5_text 60 = .ok (.ireturn, 1) := by decide +kernel
theorem dX5_put_0 : decode cX5_put 0 = .ok (.iload_n 1, 1) := by decide +kernel
theorem dX5_put_1 : decode cX5_put 1 = .ok (.invokestatic 96, 3) := by decide +kernel
theorem dX5_put_4 : decode cX5_put 4 = .ok (.ifCond .ne 5, 3) := by decide +kernel
theorem dX5_put_7 : decode cX5_put 7 = .ok (.iconst (-1), 1) := by decide +kernel
theorem dX5_put_8 : decode cX5_put 8 = .ok (.ireturn, 1) := by decide +kernel
theorem dX5_put_9 : decode cX5_put 9 = .ok (.aload_n 0, 1) := by decide +kernel
theorem dX5_put_10 : decode cX5_put 10 = .ok (.getfield 19, 3) := by decide +kernel
theorem dX5_put_13 : decode cX5_put 13 = .ok (.iload_n 1, 1) := by decide +kernel
theorem dX5_put_14 : decode cX5_put 14 = .ok (.iaload, 1) := by decide +kernel
theorem dX5_put_15 : decode cX5_put 15 = .ok (.ifCond .ge 9, 3) := by decide +kernel
theorem dX5_put_18 : decode cX5_put 18 = .ok (.aload_n 0, 1) := by decide +kernel
theorem dX5_put_19 : decode cX5_put 19 = .ok (.iconst 1, 1) := by decide +kernel
theorem dX5_put_20 : decode cX5_put 20 = .ok (.invokevirtual 81, 3) := by decide +kernel
theorem dX5_put_23 : decode cX5_put 23 = .ok (.ireturn, 1) := by decide +kernel
theorem dX5_put_24 : decode cX5_put 24 = .ok (.iload_n 2, 1) := by decide +kernel
theorem dX5_put_25 : decode cX5_put 25 = .ok (.iconst 0, 1) := by decide +kernel
theorem dX5_put_26 : decode cX5_put 26 = .ok (.aload_n 0, 1) := by decide +kernel
theorem dX5_put_27 : decode cX5_put 27 = .ok (.getfield 19, 3) := by decide +kernel
theorem dX5_put_30 : decode cX5_put 30 = .ok (.iload_n 1, 1) := by decide +kernel
theorem dX5_put_31 : decode cX5_put 31 = .ok (.iaload, 1) := by decide +kernel
theorem dX5_put_32 : decode cX5_put 32 = .ok (.iconst 1, 1) := by decide +kernel
theorem dX5_put_33 : decode cX5_put 33 = .ok (.isub, 1) := by decide +kernel
theorem dX5_put_34 : decode cX5_put 34 = .ok (.invokestatic 73, 3) := by decide +kernel
theorem dX5_put_37 : decode cX5_put 37 = .ok (.ifCond .ne 9, 3) := by decide +kernel
theorem dX5_put_40 : decode cX5_put 40 = .ok (.aload_n 0, 1) := by decide +kernel
theorem dX5_put_41 : decode cX5_put 41 = .ok (.iconst 2, 1) := by decide +kernel
theorem dX5_put_42 : decode cX5_put 42 = .ok (.invokevirtual 81, 3) := by decide +kernel
theorem dX5_put_45 : decode cX5_put 45 = .ok (.ireturn, 1) := by decide +kernel
theorem dX5_put_46 : decode cX5_put 46 = .ok (.aload_n 0, 1) := by decide +kernel
theorem dX5_put_47 : decode cX5_put 47 = .ok (.getfield 22, 3) := by decide +kernel
theorem dX5_put_50 : decode cX5_put 50 = .ok (.bipush 60, 2) := by decide +kernel
theorem dX5_put_52 : decode cX5_put 52 = .ok (.iload_n 1, 1) := by decide +kernel
theorem dX5_put_53 : decode cX5_put 53 = .ok (.imul, 1) := by decide +kernel
theorem dX5_put_54 : decode cX5_put 54 = .ok (.iload_n 2, 1) := by decide +kernel
theorem dX5_put_55 : decode cX5_put 55 = .ok (.iadd, 1) := by decide +kernel
theorem dX5_put_56 : decode cX5_put 56 = .ok (.iaload, 1) := by decide +kernel
theorem dX5_put_57 : decode cX5_put 57 = .ok (.istore 4, 2) := by decide +kernel
theorem dX5_put_59 : decode cX5_put 59 = .ok (.aload_n 0, 1) := by decide +kernel
theorem dX5_put_60 : decode cX5_put 60 = .ok (.getfield 22, 3) := by decide +kernel
theorem dX5_put_63 : decode cX5_put 63 = .ok (.bipush 60, 2) := by decide +kernel
theorem dX5_put_65 : decode cX5_put 65 = .ok (.iload_n 1, 1) := by decide +kernel
theorem dX5_put_66 : decode cX5_put 66 = .ok (.imul, 1) := by decide +kernel
theorem dX5_put_67 : decode cX5_put 67 = .ok (.iload_n 2, 1) := by decide +kernel
theorem dX5_put_68 : decode cX5_put 68 = .ok (.iadd, 1) := by decide +kernel
theorem dX5_put_69 : decode cX5_put 69 = .ok (.iload_n 3, 1) := by decide +kernel
theorem dX5_put_70 : decode cX5_put 70 = .ok (.i2b, 1) := by decide +kernel
theorem dX5_put_71 : decode cX5_put 71 = .ok (.iastore, 1) := by decide +kernel
theorem dX5_put_72 : decode cX5_put 72 = .ok (.iload 4, 2) := by decide +kernel
theorem dX5_put_74 : decode cX5_put 74 = .ok (.sipush 1000, 3) := by decide +kernel
theorem dX5_put_77 : decode cX5_put 77 = .ok (.iadd, 1) := by decide +kernel
theorem dX5_put_78 : decode cX5_put 78 = .ok (.ireturn, 1) := by decide +kernel
theorem dX5_look_0 : decode cX5_look 0 = .ok (.aload_n 0, 1) := by decide +kernel
theorem dX5_look_1 : decode cX5_look 1 = .ok (.getfield 99, 3) := by decide +kernel
theorem dX5_look_4 : decode cX5_look 4 = .ok (.aload_n 0, 1) := by decide +kernel
theorem dX5_look_5 : decode cX5_look 5 = .ok (.getfield 19, 3) := by decide +kernel
theorem dX5_look_8 : decode cX5_look 8 = .ok (.iload_n 1, 1) := by decide +kernel
theorem dX5_look_9 : decode cX5_look 9 = .ok (.iaload, 1) := by decide +kernel
theorem dX5_look_10 : decode cX5_look 10 = .ok (.if_icmp .ge 20, 3) := by decide +kernel
theorem dX5_look_13 : decode cX5_look 13 = .ok (.aload_n 0, 1) := by decide +kernel
theorem dX5_look_14 : decode cX5_look 14 = .ok (.getfield 22, 3) := by decide +kernel
theorem dX5_look_17 : decode cX5_look 17 = .ok (.bipush 60, 2) := by decide +kernel
theorem dX5_look_19 : decode cX5_look 19 = .ok (.iload_n 1, 1) := by decide +kernel
theorem dX5_look_20 : decode cX5_look 20 = .ok (.imul, 1) := by decide +kernel
theorem dX5_look_21 : decode cX5_look 21 = .ok (.aload_n 0, 1) := by decide +kernel
theorem dX5_look_22 : decode cX5_look 22 = .ok (.getfield 99, 3) := by decide +kernel
theorem dX5_look_25 : decode cX5_look 25 = .ok (.iadd, 1) := by decide +kernel
theorem dX5_look_26 : decode cX5_look 26 = .ok (.iaload, 1) := by decide +kernel
theorem dX5_look_27 : decode cX5_look 27 = .ok (.goto 6, 3) := by decide +kernel
theorem dX5_look_30 : decode cX5_look 30 = .ok (.sipush (-1000), 3) := by decide +kernel
theorem dX5_look_33 : decode cX5_look 33 = .ok (.ireturn, 1) := by decide +kernel
theorem dX5_skips_0 : decode cX5_skips 0 = .ok (.aload_n 0, 1) := by decide +kernel
theorem dX5_skips_1 : decode cX5_skips 1 = .ok (.getfield 102, 3) := by decide +kernel
theorem dX5_skips_4 : decode cX5_skips 4 = .ok (.ifCond .eq 26, 3) := by decide +kernel
theorem dX5_skips_7 : decode cX5_skips 7 = .ok (.aload_n 0, 1) := by decide +kernel
theorem dX5_skips_8 : decode cX5_skips 8 = .ok (.iload_n 1, 1) := by decide +kernel
theorem dX5_skips_9 : decode cX5_skips 9 = .ok (.invokevirtual 106, 3) := by decide +kernel
theorem dX5_skips_12 : decode cX5_skips 12 = .ok (.bipush 32, 2) := by decide +kernel
theorem dX5_skips_14 : decode cX5_skips 14 = .ok (.if_icmp .ne 16, 3) := by decide +kernel
theorem dX5_skips_17 : decode cX5_skips 17 = .ok (.aload_n 0, 1) := by decide +kernel
theorem dX5_skips_18 : decode cX5_skips 18 = .ok (.dup, 1) := by decide +kernel
theorem dX5_skips_19 : decode cX5_skips 19 = .ok (.getfield 99, 3) := by decide +kernel
theorem dX5_skips_22 : decode cX5_skips 22 = .ok (.iconst 1, 1) := by decide +kernel
theorem dX5_skips_23 : decode cX5_skips 23 = .ok (.iadd, 1) := by decide +kernel
theorem dX5_skips_24 : decode cX5_skips 24 = .ok (.putfield 99, 3) := by decide +kernel
theorem dX5_skips_27 : decode cX5_skips 27 = .ok (.goto (-27), 3) := by decide +kernel
theorem dX5_skips_30 : decode cX5_skips 30 = .ok (.return_, 1) := by decide +kernel
theorem dX5_figure_0 : decode cX5_figure 0 = .ok (.aload_n 0, 1) := by decide +kernel
theorem dX5_figure_1 : decode cX5_figure 1 = .ok (.iload_n 1, 1) := by decide +kernel
theorem dX5_figure_2 : decode cX5_figure 2 = .ok (.invokevirtual 106, 3) := by decide +kernel
theorem dX5_figure_5 : decode cX5_figure 5 = .ok (.bipush 48, 2) := by decide +kernel
theorem dX5_figure_7 : decode cX5_figure 7 = .ok (.isub, 1) := by decide +kernel
theorem dX5_figure_8 : decode cX5_figure 8 = .ok (.istore 4, 2) := by decide +kernel
theorem dX5_figure_10 : decode cX5_figure 10 = .ok (.aload_n 0, 1) := by decide +kernel
theorem dX5_figure_11 : decode cX5_figure 11 = .ok (.aload_n 0, 1) := by decide +kernel
theorem dX5_figure_12 : decode cX5_figure 12 = .ok (.getfield 102, 3) := by decide +kernel
theorem dX5_figure_15 : decode cX5_figure 15 = .ok (.ifCond .eq 32, 3) := by decide +kernel
theorem dX5_figure_18 : decode cX5_figure 18 = .ok (.aload_n 0, 1) := by decide +kernel
theorem dX5_figure_19 : decode cX5_figure 19 = .ok (.iload_n 1, 1) := by decide +kernel
theorem dX5_figure_20 : decode cX5_figure 20 = .ok (.invokevirtual 106, 3) := by decide +kernel
theorem dX5_figure_23 : decode cX5_figure 23 = .ok (.bipush 48, 2) := by decide +kernel
theorem dX5_figure_25 : decode cX5_figure 25 = .ok (.bipush 57, 2) := by decide +kernel
theorem dX5_figure_27 : decode cX5_figure 27 = .ok (.invokestatic 73, 3) := by decide +kernel
theorem dX5_figure_30 : decode cX5_figure 30 = .ok (.ifCond .eq 17, 3) := by decide +kernel
theorem dX5_figure_33 : decode cX5_figure 33 = .ok (.iload 4, 2) := by decide +kernel
theorem dX5_figure_35 : decode cX5_figure 35 = .ok (.iload_n 2, 1) := by decide +kernel
theorem dX5_figure_36 : decode cX5_figure 36 = .ok (.iload_n 3, 1) := by decide +kernel
theorem dX5_figure_37 : decode cX5_figure 37 = .ok (.invokestatic 73, 3) := by decide +kernel
theorem dX5_figure_40 : decode cX5_figure 40 = .ok (.ifCond .eq 7, 3) := by decide +kernel
theorem dX5_figure_43 : decode cX5_figure 43 = .ok (.iconst 1, 1) := by decide +kernel
theorem dX5_figure_44 : decode cX5_figure 44 = .ok (.goto 4, 3) := by decide +kernel
theorem dX5_figure_47 : decode cX5_figure 47 = .ok (.iconst 0, 1) := by decide +kernel
theorem dX5_figure_48 : decode cX5_figure 48 = .ok (.putfield 102, 3) := by decide +kernel
theorem dX5_figure_51 : decode cX5_figure 51 = .ok (.aload_n 0, 1) := by decide +kernel
theorem dX5_figure_52 : decode cX5_figure 52 = .ok (.dup, 1) := by decide +kernel
theorem dX5_figure_53 : decode cX5_figure 53 = .ok (.getfield 99, 3) := by decide +kernel
theorem dX5_figure_56 : decode cX5_figure 56 = .ok (.aload_n 0, 1) := by decide +kernel
theorem dX5_figure_57 : decode cX5_figure 57 = .ok (.getfield 102, 3) := by decide +kernel
theorem dX5_figure_60 : decode cX5_figure 60 = .ok (.ifCond .eq 7, 3) := by decide +kernel
theorem dX5_figure_63 : decode cX5_figure 63 = .ok (.iconst 1, 1) := by decide +kernel
theorem dX5_figure_64 : decode cX5_figure 64 = .ok (.goto 4, 3) := by decide +kernel
theorem dX5_figure_67 : decode cX5_figure 67 = .ok (.iconst 0, 1) := by decide +kernel
theorem dX5_figure_68 : decode cX5_figure 68 = .ok (.iadd, 1) := by decide +kernel
theorem dX5_figure_69 : decode cX5_figure 69 = .ok (.putfield 99, 3) := by decide +kernel
theorem dX5_figure_72 : decode cX5_figure 72 = .ok (.iload 4, 2) := by decide +kernel
theorem dX5_figure_74 : decode cX5_figure 74 = .ok (.ireturn, 1) := by decide +kernel
theorem dX5_kindOf_0 : decode cX5_kindOf 0 = .ok (.iload_n 0, 1) := by decide +kernel
theorem dX5_kindOf_1 : decode cX5_kindOf 1 = .ok (.bipush 112, 2) := by decide +kernel
theorem dX5_kindOf_3 : decode cX5_kindOf 3 = .ok (.if_icmp .ne 7, 3) := by decide +kernel
theorem dX5_kindOf_6 : decode cX5_kindOf 6 = .ok (.iconst 0, 1) := by decide +kernel
theorem dX5_kindOf_7 : decode cX5_kindOf 7 = .ok (.goto 55, 3) := by decide +kernel
theorem dX5_kindOf_10 : decode cX5_kindOf 10 = .ok (.iload_n 0, 1) := by decide +kernel
theorem dX5_kindOf_11 : decode cX5_kindOf 11 = .ok (.bipush 111, 2) := by decide +kernel
theorem dX5_kindOf_13 : decode cX5_kindOf 13 = .ok (.if_icmp .ne 7, 3) := by decide +kernel
theorem dX5_kindOf_16 : decode cX5_kindOf 16 = .ok (.iconst 1, 1) := by decide +kernel
theorem dX5_kindOf_17 : decode cX5_kindOf 17 = .ok (.goto 45, 3) := by decide +kernel
theorem dX5_kindOf_20 : decode cX5_kindOf 20 = .ok (.iload_n 0, 1) := by decide +kernel
theorem dX5_kindOf_21 : decode cX5_kindOf 21 = .ok (.bipush 108, 2) := by decide +kernel
theorem dX5_kindOf_23 : decode cX5_kindOf 23 = .ok (.if_icmp .ne 7, 3) := by decide +kernel
theorem dX5_kindOf_26 : decode cX5_kindOf 26 = .ok (.iconst 2, 1) := by decide +kernel
theorem dX5_kindOf_27 : decode cX5_kindOf 27 = .ok (.goto 35, 3) := by decide +kernel
theorem dX5_kindOf_30 : decode cX5_kindOf 30 = .ok (.iload_n 0, 1) := by decide +kernel
theorem dX5_kindOf_31 : decode cX5_kindOf 31 = .ok (.bipush 104, 2) := by decide +kernel
theorem dX5_kindOf_33 : decode cX5_kindOf 33 = .ok (.if_icmp .ne 7, 3) := by decide +kernel
theorem dX5_kindOf_36 : decode cX5_kindOf 36 = .ok (.iconst 3, 1) := by decide +kernel
theorem dX5_kindOf_37 : decode cX5_kindOf 37 = .ok (.goto 25, 3) := by decide +kernel
theorem dX5_kindOf_40 : decode cX5_kindOf 40 = .ok (.iload_n 0, 1) := by decide +kernel
theorem dX5_kindOf_41 : decode cX5_kindOf 41 = .ok (.bipush 116, 2) := by decide +kernel
theorem dX5_kindOf_43 : decode cX5_kindOf 43 = .ok (.if_icmp .ne 7, 3) := by decide +kernel
theorem dX5_kindOf_46 : decode cX5_kindOf 46 = .ok (.iconst 4, 1) := by decide +kernel
theorem dX5_kindOf_47 : decode cX5_kindOf 47 = .ok (.goto 15, 3) := by decide +kernel
theorem dX5_kindOf_50 : decode cX5_kindOf 50 = .ok (.iload_n 0, 1) := by decide +kernel
theorem dX5_kindOf_51 : decode cX5_kindOf 51 = .ok (.bipush 102, 2) := by decide +kernel
theorem dX5_kindOf_53 : decode cX5_kindOf 53 = .ok (.if_icmp .ne 7, 3) := by decide +kernel
theorem dX5_kindOf_56 : decode cX5_kindOf 56 = .ok (.iconst 5, 1) := by decide +kernel
theorem dX5_kindOf_57 : decode cX5_kindOf 57 = .ok (.goto 5, 3) := by decide +kernel
theorem dX5_kindOf_60 : decode cX5_kindOf 60 = .ok (.bipush (-9), 2) := by decide +kernel
theorem dX5_kindOf_62 : decode cX5_kindOf 62 = .ok (.ireturn, 1) := by decide +kernel
theorem dX5_readsHead_0 : decode cX5_readsHead 0 = .ok (.aload_n 0, 1) := by decide +kernel
theorem dX5_readsHead_1 : decode cX5_readsHead 1 = .ok (.iload_n 1, 1) := by decide +kernel
theorem dX5_readsHead_2 : decode cX5_readsHead 2 = .ok (.invokevirtual 109, 3) := by decide +kernel
theorem dX5_readsHead_5 : decode cX5_readsHead 5 = .ok (.aload_n 0, 1) := by decide +kernel
theorem dX5_readsHead_6 : decode cX5_readsHead 6 = .ok (.aload_n 0, 1) := by decide +kernel
theorem dX5_readsHead_7 : decode cX5_readsHead 7 = .ok (.iload_n 1, 1) := by decide +kernel
theorem dX5_readsHead_8 : decode cX5_readsHead 8 = .ok (.invokevirtual 106, 3) := by decide +kernel
theorem dX5_readsHead_11 : decode cX5_readsHead 11 = .ok (.bipush 110, 2) := by decide +kernel
theorem dX5_readsHead_13 : decode cX5_readsHead 13 = .ok (.if_icmp .ne 7, 3) := by decide +kernel
theorem dX5_readsHead_16 : decode cX5_readsHead 16 = .ok (.iconst 1, 1) := by decide +kernel
theorem dX5_readsHead_17 : decode cX5_readsHead 17 = .ok (.goto 4, 3) := by decide +kernel
theorem dX5_readsHead_20 : decode cX5_readsHead 20 = .ok (.iconst 0, 1) := by decide +kernel
theorem dX5_readsHead_21 : decode cX5_readsHead 21 = .ok (.putfield 102, 3) := by decide +kernel
theorem dX5_readsHead_24 : decode cX5_readsHead 24 = .ok (.aload_n 0, 1) := by decide +kernel
theorem dX5_readsHead_25 : decode cX5_readsHead 25 = .ok (.dup, 1) := by decide +kernel
theorem dX5_readsHead_26 : decode cX5_readsHead 26 = .ok (.getfield 99, 3) := by decide +kernel
theorem dX5_readsHead_29 : decode cX5_readsHead 29 = .ok (.aload_n 0, 1) := by decide +kernel
theorem dX5_readsHead_30 : decode cX5_readsHead 30 = .ok (.getfield 102, 3) := by decide +kernel
theorem dX5_readsHead_33 : decode cX5_readsHead 33 = .ok (.ifCond .eq 7, 3) := by decide +kernel
theorem dX5_readsHead_36 : decode cX5_readsHead 36 = .ok (.iconst 1, 1) := by decide +kernel
theorem dX5_readsHead_37 : decode cX5_readsHead 37 = .ok (.goto 4, 3) := by decide +kernel
theorem dX5_readsHead_40 : decode cX5_readsHead 40 = .ok (.iconst 0, 1) := by decide +kernel
theorem dX5_readsHead_41 : decode cX5_readsHead 41 = .ok (.iadd, 1) := by decide +kernel
theorem dX5_readsHead_42 : decode cX5_readsHead 42 = .ok (.putfield 99, 3) := by decide +kernel
theorem dX5_readsHead_45 : decode cX5_readsHead 45 = .ok (.aload_n 0, 1) := by decide +kernel
theorem dX5_readsHead_46 : decode cX5_readsHead 46 = .ok (.getfield 28, 3) := by decide +kernel
theorem dX5_readsHead_49 : decode cX5_readsHead 49 = .ok (.iconst 0, 1) := by decide +kernel
theorem dX5_readsHead_50 : decode cX5_readsHead 50 = .ok (.aload_n 0, 1) := by decide +kernel
theorem dX5_readsHead_51 : decode cX5_readsHead 51 = .ok (.iload_n 1, 1) := by decide +kernel
theorem dX5_readsHead_52 : decode cX5_readsHead 52 = .ok (.iconst 3, 1) := by decide +kernel
theorem dX5_readsHead_53 : decode cX5_readsHead 53 = .ok (.bipush 9, 2) := by decide +kernel
theorem dX5_readsHead_55 : decode cX5_readsHead 55 = .ok (.invokevirtual 113, 3) := by decide +kernel
theorem dX5_readsHead_58 : decode cX5_readsHead 58 = .ok (.iastore, 1) := by decide +kernel
theorem dX5_readsHead_59 : decode cX5_readsHead 59 = .ok (.aload_n 0, 1) := by decide +kernel
theorem dX5_readsHead_60 : decode cX5_readsHead 60 = .ok (.getfield 28, 3) := by decide +kernel
theorem dX5_readsHead_63 : decode cX5_readsHead 63 = .ok (.iconst 1, 1) := by decide +kernel
theorem dX5_readsHead_64 : decode cX5_readsHead 64 = .ok (.aload_n 0, 1) := by decide +kernel
theorem dX5_readsHead_65 : decode cX5_readsHead 65 = .ok (.iload_n 1, 1) := by decide +kernel
theorem dX5_readsHead_66 : decode cX5_readsHead 66 = .ok (.iconst 0, 1) := by decide +kernel
theorem dX5_readsHead_67 : decode cX5_readsHead 67 = .ok (.aload_n 0, 1) := by decide +kernel
theorem dX5_readsHead_68 : decode cX5_readsHead 68 = .ok (.getfield 28, 3) := by decide +kernel
theorem dX5_readsHead_71 : decode cX5_readsHead 71 = .ok (.iconst 0, 1) := by decide +kernel
theorem dX5_readsHead_72 : decode cX5_readsHead 72 = .ok (.iaload, 1) := by decide +kernel
theorem dX5_readsHead_73 : decode cX5_readsHead 73 = .ok (.invokevirtual 113, 3) := by decide +kernel
theorem dX5_readsHead_76 : decode cX5_readsHead 76 = .ok (.iastore, 1) := by decide +kernel
theorem dX5_readsHead_77 : decode cX5_readsHead 77 = .ok (.aload_n 0, 1) := by decide +kernel
theorem dX5_readsHead_78 : decode cX5_readsHead 78 = .ok (.getfield 28, 3) := by decide +kernel
theorem dX5_readsHead_81 : decode cX5_readsHead 81 = .ok (.iconst 2, 1) := by decide +kernel
theorem dX5_readsHead_82 : decode cX5_readsHead 82 = .ok (.aload_n 0, 1) := by decide +kernel
theorem dX5_readsHead_83 : decode cX5_readsHead 83 = .ok (.iload_n 1, 1) := by decide +kernel
theorem dX5_readsHead_84 : decode cX5_readsHead 84 = .ok (.aload_n 0, 1) := by decide +kernel
theorem dX5_readsHead_85 : decode cX5_readsHead 85 = .ok (.getfield 28, 3) := by decide +kernel
theorem dX5_readsHead_88 : decode cX5_readsHead 88 = .ok (.iconst 1, 1) := by decide +kernel
theorem dX5_readsHead_89 : decode cX5_readsHead 89 = .ok (.iaload, 1) := by decide +kernel
theorem dX5_readsHead_90 : decode cX5_readsHead 90 = .ok (.aload_n 0, 1) := by decide +kernel
theorem dX5_readsHead_91 : decode cX5_readsHead 91 = .ok (.getfield 28, 3) := by decide +kernel
theorem dX5_readsHead_94 : decode cX5_readsHead 94 = .ok (.iconst 0, 1) := by decide +kernel
theorem dX5_readsHead_95 : decode cX5_readsHead 95 = .ok (.iaload, 1) := by decide +kernel
theorem dX5_readsHead_96 : decode cX5_readsHead 96 = .ok (.invokevirtual 113, 3) := by decide +kernel
theorem dX5_readsHead_99 : decode cX5_readsHead 99 = .ok (.iastore, 1) := by decide +kernel
theorem dX5_readsHead_100 : decode cX5_readsHead 100 = .ok (.aload_n 0, 1) := by decide +kernel
theorem dX5_readsHead_101 : decode cX5_readsHead 101 = .ok (.getfield 28, 3) := by decide +kernel
theorem dX5_readsHead_104 : decode cX5_readsHead 104 = .ok (.iconst 3, 1) := by decide +kernel
theorem dX5_readsHead_105 : decode cX5_readsHead 105 = .ok (.aload_n 0, 1) := by decide +kernel
theorem dX5_readsHead_106 : decode cX5_readsHead 106 = .ok (.iload_n 1, 1) := by decide +kernel
theorem dX5_readsHead_107 : decode cX5_readsHead 107 = .ok (.iconst 0, 1) := by decide +kernel
theorem dX5_readsHead_108 : decode cX5_readsHead 108 = .ok (.bipush 7, 2) := by decide +kernel
theorem dX5_readsHead_110 : decode cX5_readsHead 110 = .ok (.invokevirtual 113, 3) := by decide +kernel
theorem dX5_readsHead_113 : decode cX5_readsHead 113 = .ok (.iastore, 1) := by decide +kernel
theorem dX5_readsHead_114 : decode cX5_readsHead 114 = .ok (.aload_n 0, 1) := by decide +kernel
theorem dX5_readsHead_115 : decode cX5_readsHead 115 = .ok (.getfield 28, 3) := by decide +kernel
theorem dX5_readsHead_118 : decode cX5_readsHead 118 = .ok (.iconst 4, 1) := by decide +kernel
theorem dX5_readsHead_119 : decode cX5_readsHead 119 = .ok (.aload_n 0, 1) := by decide +kernel
theorem dX5_readsHead_120 : decode cX5_readsHead 120 = .ok (.iload_n 1, 1) := by decide +kernel
theorem dX5_readsHead_121 : decode cX5_readsHead 121 = .ok (.iconst 0, 1) := by decide +kernel
theorem dX5_readsHead_122 : decode cX5_readsHead 122 = .ok (.bipush 7, 2) := by decide +kernel
theorem dX5_readsHead_124 : decode cX5_readsHead 124 = .ok (.invokevirtual 113, 3) := by decide +kernel
theorem dX5_readsHead_127 : decode cX5_readsHead 127 = .ok (.iastore, 1) := by decide +kernel
theorem dX5_readsHead_128 : decode cX5_readsHead 128 = .ok (.aload_n 0, 1) := by decide +kernel
theorem dX5_readsHead_129 : decode cX5_readsHead 129 = .ok (.getfield 28, 3) := by decide +kernel
theorem dX5_readsHead_132 : decode cX5_readsHead 132 = .ok (.iconst 5, 1) := by decide +kernel
theorem dX5_readsHead_133 : decode cX5_readsHead 133 = .ok (.aload_n 0, 1) := by decide +kernel
theorem dX5_readsHead_134 : decode cX5_readsHead 134 = .ok (.getfield 28, 3) := by decide +kernel
theorem dX5_readsHead_137 : decode cX5_readsHead 137 = .ok (.iconst 1, 1) := by decide +kernel
theorem dX5_readsHead_138 : decode cX5_readsHead 138 = .ok (.iaload, 1) := by decide +kernel
theorem dX5_readsHead_139 : decode cX5_readsHead 139 = .ok (.iastore, 1) := by decide +kernel
theorem dX5_readsHead_140 : decode cX5_readsHead 140 = .ok (.aload_n 0, 1) := by decide +kernel
theorem dX5_readsHead_141 : decode cX5_readsHead 141 = .ok (.getfield 28, 3) := by decide +kernel
theorem dX5_readsHead_144 : decode cX5_readsHead 144 = .ok (.bipush 6, 2) := by decide +kernel
theorem dX5_readsHead_146 : decode cX5_readsHead 146 = .ok (.aload_n 0, 1) := by decide +kernel
theorem dX5_readsHead_147 : decode cX5_readsHead 147 = .ok (.getfield 28, 3) := by decide +kernel
theorem dX5_readsHead_150 : decode cX5_readsHead 150 = .ok (.iconst 2, 1) := by decide +kernel
theorem dX5_readsHead_151 : decode cX5_readsHead 151 = .ok (.iaload, 1) := by decide +kernel
theorem dX5_readsHead_152 : decode cX5_readsHead 152 = .ok (.iastore, 1) := by decide +kernel
theorem dX5_readsHead_153 : decode cX5_readsHead 153 = .ok (.aload_n 0, 1) := by decide +kernel
theorem dX5_readsHead_154 : decode cX5_readsHead 154 = .ok (.iload_n 1, 1) := by decide +kernel
theorem dX5_readsHead_155 : decode cX5_readsHead 155 = .ok (.invokevirtual 109, 3) := by decide +kernel
theorem dX5_readsHead_158 : decode cX5_readsHead 158 = .ok (.return_, 1) := by decide +kernel
theorem dX5_readsOne_0 : decode cX5_readsOne 0 = .ok (.aload_n 0, 1) := by decide +kernel
theorem dX5_readsOne_1 : decode cX5_readsOne 1 = .ok (.iload_n 1, 1) := by decide +kernel
theorem dX5_readsOne_2 : decode cX5_readsOne 2 = .ok (.invokevirtual 106, 3) := by decide +kernel
theorem dX5_readsOne_5 : decode cX5_readsOne 5 = .ok (.invokestatic 117, 3) := by decide +kernel
theorem dX5_readsOne_8 : decode cX5_readsOne 8 = .ok (.istore_n 2, 1) := by decide +kernel
theorem dX5_readsOne_9 : decode cX5_readsOne 9 = .ok (.aload_n 0, 1) := by decide +kernel
theorem dX5_readsOne_10 : decode cX5_readsOne 10 = .ok (.aload_n 0, 1) := by decide +kernel
theorem dX5_readsOne_11 : decode cX5_readsOne 11 = .ok (.getfield 102, 3) := by decide +kernel
theorem dX5_readsOne_14 : decode cX5_readsOne 14 = .ok (.ifCond .eq 25, 3) := by decide +kernel
theorem dX5_readsOne_17 : decode cX5_readsOne 17 = .ok (.iload_n 2, 1) := by decide +kernel
theorem dX5_readsOne_18 : decode cX5_readsOne 18 = .ok (.bipush (-9), 2) := by decide +kernel
theorem dX5_readsOne_20 : decode cX5_readsOne 20 = .ok (.if_icmp .eq 19, 3) := by decide +kernel
theorem dX5_readsOne_23 : decode cX5_readsOne 23 = .ok (.aload_n 0, 1) := by decide +kernel
theorem dX5_readsOne_24 : decode cX5_readsOne 24 = .ok (.getfield 28, 3) := by decide +kernel
theorem dX5_readsOne_27 : decode cX5_readsOne 27 = .ok (.bipush 7, 2) := by decide +kernel
theorem dX5_readsOne_29 : decode cX5_readsOne 29 = .ok (.iaload, 1) := by decide +kernel
theorem dX5_readsOne_30 : decode cX5_readsOne 30 = .ok (.bipush 6, 2) := by decide +kernel
theorem dX5_readsOne_32 : decode cX5_readsOne 32 = .ok (.if_icmp .ge 7, 3) := by decide +kernel
theorem dX5_readsOne_35 : decode cX5_readsOne 35 = .ok (.iconst 1, 1) := by decide +kernel
theorem dX5_readsOne_36 : decode cX5_readsOne 36 = .ok (.goto 4, 3) := by decide +kernel
theorem dX5_readsOne_39 : decode cX5_readsOne 39 = .ok (.iconst 0, 1) := by decide +kernel
theorem dX5_readsOne_40 : decode cX5_readsOne 40 = .ok (.putfield 102, 3) := by decide +kernel
theorem dX5_readsOne_43 : decode cX5_readsOne 43 = .ok (.aload_n 0, 1) := by decide +kernel
theorem dX5_readsOne_44 : decode cX5_readsOne 44 = .ok (.dup, 1) := by decide +kernel
theorem dX5_readsOne_45 : decode cX5_readsOne 45 = .ok (.getfield 99, 3) := by decide +kernel
theorem dX5_readsOne_48 : decode cX5_readsOne 48 = .ok (.aload_n 0, 1) := by decide +kernel
theorem dX5_readsOne_49 : decode cX5_readsOne 49 = .ok (.getfield 102, 3) := by decide +kernel
theorem dX5_readsOne_52 : decode cX5_readsOne 52 = .ok (.ifCond .eq 7, 3) := by decide +kernel
theorem dX5_readsOne_55 : decode cX5_readsOne 55 = .ok (.iconst 1, 1) := by decide +kernel
theorem dX5_readsOne_56 : decode cX5_readsOne 56 = .ok (.goto 4, 3) := by decide +kernel
theorem dX5_readsOne_59 : decode cX5_readsOne 59 = .ok (.iconst 0, 1) := by decide +kernel
theorem dX5_readsOne_60 : decode cX5_readsOne 60 = .ok (.iadd, 1) := by decide +kernel
theorem dX5_readsOne_61 : decode cX5_readsOne 61 = .ok (.putfield 99, 3) := by decide +kernel
theorem dX5_readsOne_64 : decode cX5_readsOne 64 = .ok (.aload_n 0, 1) := by decide +kernel
theorem dX5_readsOne_65 : decode cX5_readsOne 65 = .ok (.iload_n 1, 1) := by decide +kernel
theorem dX5_readsOne_66 : decode cX5_readsOne 66 = .ok (.iconst 0, 1) := by decide +kernel
theorem dX5_readsOne_67 : decode cX5_readsOne 67 = .ok (.aload_n 0, 1) := by decide +kernel
theorem dX5_readsOne_68 : decode cX5_readsOne 68 = .ok (.getfield 28, 3) := by decide +kernel
theorem dX5_readsOne_71 : decode cX5_readsOne 71 = .ok (.iconst 0, 1) := by decide +kernel
theorem dX5_readsOne_72 : decode cX5_readsOne 72 = .ok (.iaload, 1) := by decide +kernel
theorem dX5_readsOne_73 : decode cX5_readsOne 73 = .ok (.iconst 1, 1) := by decide +kernel
theorem dX5_readsOne_74 : decode cX5_readsOne 74 = .ok (.isub, 1) := by decide +kernel
theorem dX5_readsOne_75 : decode cX5_readsOne 75 = .ok (.invokevirtual 113, 3) := by decide +kernel
theorem dX5_readsOne_78 : decode cX5_readsOne 78 = .ok (.istore_n 3, 1) := by decide +kernel
theorem dX5_readsOne_79 : decode cX5_readsOne 79 = .ok (.aload_n 0, 1) := by decide +kernel
theorem dX5_readsOne_80 : decode cX5_readsOne 80 = .ok (.iload_n 1, 1) := by decide +kernel
theorem dX5_readsOne_81 : decode cX5_readsOne 81 = .ok (.iconst 0, 1) := by decide +kernel
theorem dX5_readsOne_82 : decode cX5_readsOne 82 = .ok (.bipush 9, 2) := by decide +kernel
theorem dX5_readsOne_84 : decode cX5_readsOne 84 = .ok (.invokevirtual 113, 3) := by decide +kernel
theorem dX5_readsOne_87 : decode cX5_readsOne 87 = .ok (.istore 4, 2) := by decide +kernel
theorem dX5_readsOne_89 : decode cX5_readsOne 89 = .ok (.aload_n 0, 1) := by decide +kernel
theorem dX5_readsOne_90 : decode cX5_readsOne 90 = .ok (.iload_n 1, 1) := by decide +kernel
theorem dX5_readsOne_91 : decode cX5_readsOne 91 = .ok (.iconst 0, 1) := by decide +kernel
theorem dX5_readsOne_92 : decode cX5_readsOne 92 = .ok (.bipush 7, 2) := by decide +kernel
theorem dX5_readsOne_94 : decode cX5_readsOne 94 = .ok (.invokevirtual 113, 3) := by decide +kernel
theorem dX5_readsOne_97 : decode cX5_readsOne 97 = .ok (.istore 5, 2) := by decide +kernel
theorem dX5_readsOne_99 : decode cX5_readsOne 99 = .ok (.aload_n 0, 1) := by decide +kernel
theorem dX5_readsOne_100 : decode cX5_readsOne 100 = .ok (.getfield 102, 3) := by decide +kernel
theorem dX5_readsOne_103 : decode cX5_readsOne 103 = .ok (.ifCond .eq 78, 3) := by decide +kernel
theorem dX5_readsOne_106 : decode cX5_readsOne 106 = .ok (.bipush 10, 2) := by decide +kernel
theorem dX5_readsOne_108 : decode cX5_readsOne 108 = .ok (.iconst 5, 1) := by decide +kernel
theorem dX5_readsOne_109 : decode cX5_readsOne 109 = .ok (.aload_n 0, 1) := by decide +kernel
theorem dX5_readsOne_110 : decode cX5_readsOne 110 = .ok (.getfield 28, 3) := by decide +kernel
theorem dX5_readsOne_113 : decode cX5_readsOne 113 = .ok (.bipush 7, 2) := by decide +kernel
theorem dX5_readsOne_115 : decode cX5_readsOne 115 = .ok (.iaload, 1) := by decide +kernel
theorem dX5_readsOne_116 : decode cX5_readsOne 116 = .ok (.imul, 1) := by decide +kernel
theorem dX5_readsOne_117 : decode cX5_readsOne 117 = .ok (.iadd, 1) := by decide +kernel
theorem dX5_readsOne_118 : decode cX5_readsOne 118 = .ok (.istore 6, 2) := by decide +kernel
theorem dX5_readsOne_120 : decode cX5_readsOne 120 = .ok (.aload_n 0, 1) := by decide +kernel
theorem dX5_readsOne_121 : decode cX5_readsOne 121 = .ok (.getfield 28, 3) := by decide +kernel
theorem dX5_readsOne_124 : decode cX5_readsOne 124 = .ok (.iload 6, 2) := by decide +kernel
theorem dX5_readsOne_126 : decode cX5_readsOne 126 = .ok (.iload_n 2, 1) := by decide +kernel
theorem dX5_readsOne_127 : decode cX5_readsOne 127 = .ok (.iastore, 1) := by decide +kernel
theorem dX5_readsOne_128 : decode cX5_readsOne 128 = .ok (.aload_n 0, 1) := by decide +kernel
theorem dX5_readsOne_129 : decode cX5_readsOne 129 = .ok (.getfield 28, 3) := by decide +kernel
theorem dX5_readsOne_132 : decode cX5_readsOne 132 = .ok (.iload 6, 2) := by decide +kernel
theorem dX5_readsOne_134 : decode cX5_readsOne 134 = .ok (.iconst 1, 1) := by decide +kernel
theorem dX5_readsOne_135 : decode cX5_readsOne 135 = .ok (.iadd, 1) := by decide +kernel
theorem dX5_readsOne_136 : decode cX5_readsOne 136 = .ok (.iload_n 3, 1) := by decide +kernel
theorem dX5_readsOne_137 : decode cX5_readsOne 137 = .ok (.iastore, 1) := by decide +kernel
theorem dX5_readsOne_138 : decode cX5_readsOne 138 = .ok (.aload_n 0, 1) := by decide +kernel
theorem dX5_readsOne_139 : decode cX5_readsOne 139 = .ok (.getfield 28, 3) := by decide +kernel
theorem dX5_readsOne_142 : decode cX5_readsOne 142 = .ok (.iload 6, 2) := by decide +kernel
theorem dX5_readsOne_144 : decode cX5_readsOne 144 = .ok (.iconst 2, 1) := by decide +kernel
theorem dX5_readsOne_145 : decode cX5_readsOne 145 = .ok (.iadd, 1) := by decide +kernel
theorem dX5_readsOne_146 : decode cX5_readsOne 146 = .ok (.iload_n 3, 1) := by decide +kernel
theorem dX5_readsOne_147 : decode cX5_readsOne 147 = .ok (.iastore, 1) := by decide +kernel
theorem dX5_readsOne_148 : decode cX5_readsOne 148 = .ok (.aload_n 0, 1) := by decide +kernel
theorem dX5_readsOne_149 : decode cX5_readsOne 149 = .ok (.getfield 28, 3) := by decide +kernel
theorem dX5_readsOne_152 : decode cX5_readsOne 152 = .ok (.iload 6, 2) := by decide +kernel
theorem dX5_readsOne_154 : decode cX5_readsOne 154 = .ok (.iconst 3, 1) := by decide +kernel
theorem dX5_readsOne_155 : decode cX5_readsOne 155 = .ok (.iadd, 1) := by decide +kernel
theorem dX5_readsOne_156 : decode cX5_readsOne 156 = .ok (.iload 4, 2) := by decide +kernel
theorem dX5_readsOne_158 : decode cX5_readsOne 158 = .ok (.iastore, 1) := by decide +kernel
theorem dX5_readsOne_159 : decode cX5_readsOne 159 = .ok (.aload_n 0, 1) := by decide +kernel
theorem dX5_readsOne_160 : decode cX5_readsOne 160 = .ok (.getfield 28, 3) := by decide +kernel
theorem dX5_readsOne_163 : decode cX5_readsOne 163 = .ok (.iload 6, 2) := by decide +kernel
theorem dX5_readsOne_165 : decode cX5_readsOne 165 = .ok (.iconst 4, 1) := by decide +kernel
theorem dX5_readsOne_166 : decode cX5_readsOne 166 = .ok (.iadd, 1) := by decide +kernel
theorem dX5_readsOne_167 : decode cX5_readsOne 167 = .ok (.iload 5, 2) := by decide +kernel
theorem dX5_readsOne_169 : decode cX5_readsOne 169 = .ok (.iastore, 1) := by decide +kernel
theorem dX5_readsOne_170 : decode cX5_readsOne 170 = .ok (.aload_n 0, 1) := by decide +kernel
theorem dX5_readsOne_171 : decode cX5_readsOne 171 = .ok (.getfield 28, 3) := by decide +kernel
theorem dX5_readsOne_174 : decode cX5_readsOne 174 = .ok (.bipush 7, 2) := by decide +kernel
theorem dX5_readsOne_176 : decode cX5_readsOne 176 = .ok (.dup2, 1) := by decide +kernel
theorem dX5_readsOne_177 : decode cX5_readsOne 177 = .ok (.iaload, 1) := by decide +kernel
theorem dX5_readsOne_178 : decode cX5_readsOne 178 = .ok (.iconst 1, 1) := by decide +kernel
theorem dX5_readsOne_179 : decode cX5_readsOne 179 = .ok (.iadd, 1) := by decide +kernel
theorem dX5_readsOne_180 : decode cX5_readsOne 180 = .ok (.iastore, 1) := by decide +kernel
theorem dX5_readsOne_181 : decode cX5_readsOne 181 = .ok (.aload_n 0, 1) := by decide +kernel
theorem dX5_readsOne_182 : decode cX5_readsOne 182 = .ok (.iload_n 1, 1) := by decide +kernel
theorem dX5_readsOne_183 : decode cX5_readsOne 183 = .ok (.invokevirtual 109, 3) := by decide +kernel
theorem dX5_readsOne_186 : decode cX5_readsOne 186 = .ok (.return_, 1) := by decide +kernel
theorem dX5_reads_0 : decode cX5_reads 0 = .ok (.iconst 0, 1) := by decide +kernel
theorem dX5_reads_1 : decode cX5_reads 1 = .ok (.istore_n 2, 1) := by decide +kernel
theorem dX5_reads_2 : decode cX5_reads 2 = .ok (.iload_n 2, 1) := by decide +kernel
theorem dX5_reads_3 : decode cX5_reads 3 = .ok (.sipush 400, 3) := by decide +kernel
theorem dX5_reads_6 : decode cX5_reads 6 = .ok (.if_icmp .ge 16, 3) := by decide +kernel
theorem dX5_reads_9 : decode cX5_reads 9 = .ok (.aload_n 0, 1) := by decide +kernel
theorem dX5_reads_10 : decode cX5_reads 10 = .ok (.getfield 28, 3) := by decide +kernel
theorem dX5_reads_13 : decode cX5_reads 13 = .ok (.iload_n 2, 1) := by decide +kernel
theorem dX5_reads_14 : decode cX5_reads 14 = .ok (.iconst 0, 1) := by decide +kernel
theorem dX5_reads_15 : decode cX5_reads 15 = .ok (.iastore, 1) := by decide +kernel
theorem dX5_reads_16 : decode cX5_reads 16 = .ok (.iinc 2 1, 3) := by decide +kernel
theorem dX5_reads_19 : decode cX5_reads 19 = .ok (.goto (-17), 3) := by decide +kernel
theorem dX5_reads_22 : decode cX5_reads 22 = .ok (.aload_n 0, 1) := by decide +kernel
theorem dX5_reads_23 : decode cX5_reads 23 = .ok (.iconst 0, 1) := by decide +kernel
theorem dX5_reads_24 : decode cX5_reads 24 = .ok (.putfield 99, 3) := by decide +kernel
theorem dX5_reads_27 : decode cX5_reads 27 = .ok (.aload_n 0, 1) := by decide +kernel
theorem dX5_reads_28 : decode cX5_reads 28 = .ok (.iconst 1, 1) := by decide +kernel
theorem dX5_reads_29 : decode cX5_reads 29 = .ok (.putfield 102, 3) := by decide +kernel
theorem dX5_reads_32 : decode cX5_reads 32 = .ok (.aload_n 0, 1) := by decide +kernel
theorem dX5_reads_33 : decode cX5_reads 33 = .ok (.iload_n 1, 1) := by decide +kernel
theorem dX5_reads_34 : decode cX5_reads 34 = .ok (.invokevirtual 120, 3) := by decide +kernel
theorem dX5_reads_37 : decode cX5_reads 37 = .ok (.aload_n 0, 1) := by decide +kernel
theorem dX5_reads_38 : decode cX5_reads 38 = .ok (.getfield 102, 3) := by decide +kernel
theorem dX5_reads_41 : decode cX5_reads 41 = .ok (.ifCond .eq 8, 3) := by decide +kernel
theorem dX5_reads_44 : decode cX5_reads 44 = .ok (.aload_n 0, 1) := by decide +kernel
theorem dX5_reads_45 : decode cX5_reads 45 = .ok (.iload_n 1, 1) := by decide +kernel
theorem dX5_reads_46 : decode cX5_reads 46 = .ok (.invokevirtual 123, 3) := by decide +kernel
theorem dX5_reads_49 : decode cX5_reads 49 = .ok (.aload_n 0, 1) := by decide +kernel
theorem dX5_reads_50 : decode cX5_reads 50 = .ok (.getfield 102, 3) := by decide +kernel
theorem dX5_reads_53 : decode cX5_reads 53 = .ok (.ifCond .eq 24, 3) := by decide +kernel
theorem dX5_reads_56 : decode cX5_reads 56 = .ok (.aload_n 0, 1) := by decide +kernel
theorem dX5_reads_57 : decode cX5_reads 57 = .ok (.getfield 99, 3) := by decide +kernel
theorem dX5_reads_60 : decode cX5_reads 60 = .ok (.aload_n 0, 1) := by decide +kernel
theorem dX5_reads_61 : decode cX5_reads 61 = .ok (.getfield 19, 3) := by decide +kernel
theorem dX5_reads_64 : decode cX5_reads 64 = .ok (.iload_n 1, 1) := by decide +kernel
theorem dX5_reads_65 : decode cX5_reads 65 = .ok (.iaload, 1) := by decide +kernel
theorem dX5_reads_66 : decode cX5_reads 66 = .ok (.if_icmp .ge 11, 3) := by decide +kernel
theorem dX5_reads_69 : decode cX5_reads 69 = .ok (.aload_n 0, 1) := by decide +kernel
theorem dX5_reads_70 : decode cX5_reads 70 = .ok (.iload_n 1, 1) := by decide +kernel
theorem dX5_reads_71 : decode cX5_reads 71 = .ok (.invokevirtual 123, 3) := by decide +kernel
theorem dX5_reads_74 : decode cX5_reads 74 = .ok (.goto (-25), 3) := by decide +kernel
theorem dX5_reads_77 : decode cX5_reads 77 = .ok (.aload_n 0, 1) := by decide +kernel
theorem dX5_reads_78 : decode cX5_reads 78 = .ok (.getfield 102, 3) := by decide +kernel
theorem dX5_reads_81 : decode cX5_reads 81 = .ok (.ifCond .eq 8, 3) := by decide +kernel
theorem dX5_reads_84 : decode cX5_reads 84 = .ok (.bipush (-9), 2) := by decide +kernel
theorem dX5_reads_86 : decode cX5_reads 86 = .ok (.goto 7, 3) := by decide +kernel
theorem dX5_reads_89 : decode cX5_reads 89 = .ok (.aload_n 0, 1) := by decide +kernel
theorem dX5_reads_90 : decode cX5_reads 90 = .ok (.getfield 99, 3) := by decide +kernel
theorem dX5_reads_93 : decode cX5_reads 93 = .ok (.ireturn, 1) := by decide +kernel
theorem dX5_fault_0 : decode cX5_fault 0 = .ok (.iload_n 1, 1) := by decide +kernel
theorem dX5_fault_1 : decode cX5_fault 1 = .ok (.invokestatic 96, 3) := by decide +kernel
theorem dX5_fault_4 : decode cX5_fault 4 = .ok (.ifCond .ne 5, 3) := by decide +kernel
theorem dX5_fault_7 : decode cX5_fault 7 = .ok (.iconst (-1), 1) := by decide +kernel
theorem dX5_fault_8 : decode cX5_fault 8 = .ok (.ireturn, 1) := by decide +kernel
theorem dX5_fault_9 : decode cX5_fault 9 = .ok (.aload_n 0, 1) := by decide +kernel
theorem dX5_fault_10 : decode cX5_fault 10 = .ok (.getfield 19, 3) := by decide +kernel
theorem dX5_fault_13 : decode cX5_fault 13 = .ok (.iload_n 1, 1) := by decide +kernel
theorem dX5_fault_14 : decode cX5_fault 14 = .ok (.iaload, 1) := by decide +kernel
theorem dX5_fault_15 : decode cX5_fault 15 = .ok (.ifCond .ge 11, 3) := by decide +kernel
theorem dX5_fault_18 : decode cX5_fault 18 = .ok (.aload_n 0, 1) := by decide +kernel
theorem dX5_fault_19 : decode cX5_fault 19 = .ok (.iconst 1, 1) := by decide +kernel
theorem dX5_fault_20 : decode cX5_fault 20 = .ok (.invokevirtual 81, 3) := by decide +kernel
theorem dX5_fault_23 : decode cX5_fault 23 = .ok (.goto 8, 3) := by decide +kernel
theorem dX5_fault_26 : decode cX5_fault 26 = .ok (.aload_n 0, 1) := by decide +kernel
theorem dX5_fault_27 : decode cX5_fault 27 = .ok (.iload_n 1, 1) := by decide +kernel
theorem dX5_fault_28 : decode cX5_fault 28 = .ok (.invokevirtual 126, 3) := by decide +kernel
theorem dX5_fault_31 : decode cX5_fault 31 = .ok (.ireturn, 1) := by decide +kernel
theorem dX5_copies_0 : decode cX5_copies 0 = .ok (.iconst 0, 1) := by decide +kernel
theorem dX5_copies_1 : decode cX5_copies 1 = .ok (.istore 4, 2) := by decide +kernel
theorem dX5_copies_3 : decode cX5_copies 3 = .ok (.iload 4, 2) := by decide +kernel
theorem dX5_copies_5 : decode cX5_copies 5 = .ok (.sipush 400, 3) := by decide +kernel
theorem dX5_copies_8 : decode cX5_copies 8 = .ok (.if_icmp .ge 21, 3) := by decide +kernel
theorem dX5_copies_11 : decode cX5_copies 11 = .ok (.aload_n 2, 1) := by decide +kernel
theorem dX5_copies_12 : decode cX5_copies 12 = .ok (.iload_n 3, 1) := by decide +kernel
theorem dX5_copies_13 : decode cX5_copies 13 = .ok (.iload 4, 2) := by decide +kernel
theorem dX5_copies_15 : decode cX5_copies 15 = .ok (.iadd, 1) := by decide +kernel
theorem dX5_copies_16 : decode cX5_copies 16 = .ok (.aload_n 0, 1) := by decide +kernel
theorem dX5_copies_17 : decode cX5_copies 17 = .ok (.iload_n 1, 1) := by decide +kernel
theorem dX5_copies_18 : decode cX5_copies 18 = .ok (.iload 4, 2) := by decide +kernel
theorem dX5_copies_20 : decode cX5_copies 20 = .ok (.iadd, 1) := by decide +kernel
theorem dX5_copies_21 : decode cX5_copies 21 = .ok (.iaload, 1) := by decide +kernel
theorem dX5_copies_22 : decode cX5_copies 22 = .ok (.iastore, 1) := by decide +kernel
theorem dX5_copies_23 : decode cX5_copies 23 = .ok (.iinc 4 1, 3) := by decide +kernel
theorem dX5_copies_26 : decode cX5_copies 26 = .ok (.goto (-23), 3) := by decide +kernel
theorem dX5_copies_29 : decode cX5_copies 29 = .ok (.return_, 1) := by decide +kernel
theorem dX5_land_0 : decode cX5_land 0 = .ok (.iload_n 1, 1) := by decide +kernel
theorem dX5_land_1 : decode cX5_land 1 = .ok (.invokestatic 96, 3) := by decide +kernel
theorem dX5_land_4 : decode cX5_land 4 = .ok (.ifCond .ne 5, 3) := by decide +kernel
theorem dX5_land_7 : decode cX5_land 7 = .ok (.iconst (-1), 1) := by decide +kernel
theorem dX5_land_8 : decode cX5_land 8 = .ok (.ireturn, 1) := by decide +kernel
theorem dX5_land_9 : decode cX5_land 9 = .ok (.aload_n 0, 1) := by decide +kernel
theorem dX5_land_10 : decode cX5_land 10 = .ok (.getfield 19, 3) := by decide +kernel
theorem dX5_land_13 : decode cX5_land 13 = .ok (.iload_n 1, 1) := by decide +kernel
theorem dX5_land_14 : decode cX5_land 14 = .ok (.iaload, 1) := by decide +kernel
theorem dX5_land_15 : decode cX5_land 15 = .ok (.ifCond .ge 9, 3) := by decide +kernel
theorem dX5_land_18 : decode cX5_land 18 = .ok (.aload_n 0, 1) := by decide +kernel
theorem dX5_land_19 : decode cX5_land 19 = .ok (.iconst 1, 1) := by decide +kernel
theorem dX5_land_20 : decode cX5_land 20 = .ok (.invokevirtual 81, 3) := by decide +kernel
theorem dX5_land_23 : decode cX5_land 23 = .ok (.ireturn, 1) := by decide +kernel
theorem dX5_land_24 : decode cX5_land 24 = .ok (.aload_n 0, 1) := by decide +kernel
theorem dX5_land_25 : decode cX5_land 25 = .ok (.iload_n 1, 1) := by decide +kernel
theorem dX5_land_26 : decode cX5_land 26 = .ok (.invokevirtual 126, 3) := by decide +kernel
theorem dX5_land_29 : decode cX5_land 29 = .ok (.bipush (-9), 2) := by decide +kernel
theorem dX5_land_31 : decode cX5_land 31 = .ok (.if_icmp .eq 6, 3) := by decide +kernel
theorem dX5_land_34 : decode cX5_land 34 = .ok (.bipush (-4), 2) := by decide +kernel
theorem dX5_land_36 : decode cX5_land 36 = .ok (.ireturn, 1) := by decide +kernel
theorem dX5_land_37 : decode cX5_land 37 = .ok (.aload_n 0, 1) := by decide +kernel
theorem dX5_land_38 : decode cX5_land 38 = .ok (.getfield 28, 3) := by decide +kernel
theorem dX5_land_41 : decode cX5_land 41 = .ok (.iconst 0, 1) := by decide +kernel
theorem dX5_land_42 : decode cX5_land 42 = .ok (.aload_n 0, 1) := by decide +kernel
theorem dX5_land_43 : decode cX5_land 43 = .ok (.getfield 25, 3) := by decide +kernel
theorem dX5_land_46 : decode cX5_land 46 = .ok (.iconst 0, 1) := by decide +kernel
theorem dX5_land_47 : decode cX5_land 47 = .ok (.invokestatic 129, 3) := by decide +kernel
theorem dX5_land_50 : decode cX5_land 50 = .ok (.iconst 0, 1) := by decide +kernel
theorem dX5_land_51 : decode cX5_land 51 = .ok (.istore_n 2, 1) := by decide +kernel
theorem dX5_land_52 : decode cX5_land 52 = .ok (.iload_n 2, 1) := by decide +kernel
theorem dX5_land_53 : decode cX5_land 53 = .ok (.iconst 3, 1) := by decide +kernel
theorem dX5_land_54 : decode cX5_land 54 = .ok (.if_icmp .ge 16, 3) := by decide +kernel
theorem dX5_land_57 : decode cX5_land 57 = .ok (.aload_n 0, 1) := by decide +kernel
theorem dX5_land_58 : decode cX5_land 58 = .ok (.getfield 34, 3) := by decide +kernel
theorem dX5_land_61 : decode cX5_land 61 = .ok (.iload_n 2, 1) := by decide +kernel
theorem dX5_land_62 : decode cX5_land 62 = .ok (.iconst 0, 1) := by decide +kernel
theorem dX5_land_63 : decode cX5_land 63 = .ok (.bastore, 1) := by decide +kernel
theorem dX5_land_64 : decode cX5_land 64 = .ok (.iinc 2 1, 3) := by decide +kernel
theorem dX5_land_67 : decode cX5_land 67 = .ok (.goto (-15), 3) := by decide +kernel
theorem dX5_land_70 : decode cX5_land 70 = .ok (.aload_n 0, 1) := by decide +kernel
theorem dX5_land_71 : decode cX5_land 71 = .ok (.getfield 25, 3) := by decide +kernel
theorem dX5_land_74 : decode cX5_land 74 = .ok (.bipush 7, 2) := by decide +kernel
theorem dX5_land_76 : decode cX5_land 76 = .ok (.iaload, 1) := by decide +kernel
theorem dX5_land_77 : decode cX5_land 77 = .ok (.ireturn, 1) := by decide +kernel
theorem dX5_isOne_0 : decode cX5_isOne 0 = .ok (.iload_n 1, 1) := by decide +kernel
theorem dX5_isOne_1 : decode cX5_isOne 1 = .ok (.iconst 0, 1) := by decide +kernel
theorem dX5_isOne_2 : decode cX5_isOne 2 = .ok (.aload_n 0, 1) := by decide +kernel
theorem dX5_isOne_3 : decode cX5_isOne 3 = .ok (.getfield 25, 3) := by decide +kernel
theorem dX5_isOne_6 : decode cX5_isOne 6 = .ok (.bipush 7, 2) := by decide +kernel
theorem dX5_isOne_8 : decode cX5_isOne 8 = .ok (.iaload, 1) := by decide +kernel
theorem dX5_isOne_9 : decode cX5_isOne 9 = .ok (.iconst 1, 1) := by decide +kernel
theorem dX5_isOne_10 : decode cX5_isOne 10 = .ok (.isub, 1) := by decide +kernel
theorem dX5_isOne_11 : decode cX5_isOne 11 = .ok (.invokestatic 73, 3) := by decide +kernel
theorem dX5_isOne_14 : decode cX5_isOne 14 = .ok (.ireturn, 1) := by decide +kernel
theorem dX5_are_0 : decode cX5_are 0 = .ok (.aload_n 0, 1) := by decide +kernel
theorem dX5_are_1 : decode cX5_are 1 = .ok (.getfield 25, 3) := by decide +kernel
theorem dX5_are_4 : decode cX5_are 4 = .ok (.iconst 0, 1) := by decide +kernel
theorem dX5_are_5 : decode cX5_are 5 = .ok (.iaload, 1) := by decide +kernel
theorem dX5_are_6 : decode cX5_are 6 = .ok (.ifCond .le 7, 3) := by decide +kernel
theorem dX5_are_9 : decode cX5_are 9 = .ok (.iconst 1, 1) := by decide +kernel
theorem dX5_are_10 : decode cX5_are 10 = .ok (.goto 4, 3) := by decide +kernel
theorem dX5_are_13 : decode cX5_are 13 = .ok (.iconst 0, 1) := by decide +kernel
theorem dX5_are_14 : decode cX5_are 14 = .ok (.ireturn, 1) := by decide +kernel
theorem dX5_isCell_0 : decode cX5_isCell 0 = .ok (.iload_n 1, 1) := by decide +kernel
theorem dX5_isCell_1 : decode cX5_isCell 1 = .ok (.iconst 0, 1) := by decide +kernel
theorem dX5_isCell_2 : decode cX5_isCell 2 = .ok (.aload_n 0, 1) := by decide +kernel
theorem dX5_isCell_3 : decode cX5_isCell 3 = .ok (.getfield 25, 3) := by decide +kernel
theorem dX5_isCell_6 : decode cX5_isCell 6 = .ok (.iconst 0, 1) := by decide +kernel
theorem dX5_isCell_7 : decode cX5_isCell 7 = .ok (.iaload, 1) := by decide +kernel
theorem dX5_isCell_8 : decode cX5_isCell 8 = .ok (.iconst 1, 1) := by decide +kernel
theorem dX5_isCell_9 : decode cX5_isCell 9 = .ok (.isub, 1) := by decide +kernel
theorem dX5_isCell_10 : decode cX5_isCell 10 = .ok (.invokestatic 73, 3) := by decide +kernel
theorem dX5_isCell_13 : decode cX5_isCell 13 = .ok (.ireturn, 1) := by decide +kernel
theorem dX5_areCoasts_0 : decode cX5_areCoasts 0 = .ok (.iload_n 1, 1) := by decide +kernel
theorem dX5_areCoasts_1 : decode cX5_areCoasts 1 = .ok (.iconst 0, 1) := by decide +kernel
theorem dX5_areCoasts_2 : decode cX5_areCoasts 2 = .ok (.aload_n 0, 1) := by decide +kernel
theorem dX5_areCoasts_3 : decode cX5_areCoasts 3 = .ok (.getfield 25, 3) := by decide +kernel
theorem dX5_areCoasts_6 : decode cX5_areCoasts 6 = .ok (.iconst 0, 1) := by decide +kernel
theorem dX5_areCoasts_7 : decode cX5_areCoasts 7 = .ok (.iaload, 1) := by decide +kernel
theorem dX5_areCoasts_8 : decode cX5_areCoasts 8 = .ok (.invokestatic 73, 3) := by decide +kernel
theorem dX5_areCoasts_11 : decode cX5_areCoasts 11 = .ok (.ifCond .eq 21, 3) := by decide +kernel
theorem dX5_areCoasts_14 : decode cX5_areCoasts 14 = .ok (.iload_n 2, 1) := by decide +kernel
theorem dX5_areCoasts_15 : decode cX5_areCoasts 15 = .ok (.iload_n 1, 1) := by decide +kernel
theorem dX5_areCoasts_16 : decode cX5_areCoasts 16 = .ok (.aload_n 0, 1) := by decide +kernel
theorem dX5_areCoasts_17 : decode cX5_areCoasts 17 = .ok (.getfield 25, 3) := by decide +kernel
theorem dX5_areCoasts_20 : decode cX5_areCoasts 20 = .ok (.iconst 0, 1) := by decide +kernel
theorem dX5_areCoasts_21 : decode cX5_areCoasts 21 = .ok (.iaload, 1) := by decide +kernel
theorem dX5_areCoasts_22 : decode cX5_areCoasts 22 = .ok (.invokestatic 73, 3) := by decide +kernel
theorem dX5_areCoasts_25 : decode cX5_areCoasts 25 = .ok (.ifCond .eq 7, 3) := by decide +kernel
theorem dX5_areCoasts_28 : decode cX5_areCoasts 28 = .ok (.iconst 1, 1) := by decide +kernel
theorem dX5_areCoasts_29 : decode cX5_areCoasts 29 = .ok (.goto 4, 3) := by decide +kernel
theorem dX5_areCoasts_32 : decode cX5_areCoasts 32 = .ok (.iconst 0, 1) := by decide +kernel
theorem dX5_areCoasts_33 : decode cX5_areCoasts 33 = .ok (.ireturn, 1) := by decide +kernel
theorem dX5_isOf_0 : decode cX5_isOf 0 = .ok (.iload_n 0, 1) := by decide +kernel
theorem dX5_isOf_1 : decode cX5_isOf 1 = .ok (.iload_n 1, 1) := by decide +kernel
theorem dX5_isOf_2 : decode cX5_isOf 2 = .ok (.if_icmp .eq 23, 3) := by decide +kernel
theorem dX5_isOf_5 : decode cX5_isOf 5 = .ok (.iload_n 0, 1) := by decide +kernel
theorem dX5_isOf_6 : decode cX5_isOf 6 = .ok (.iconst 4, 1) := by decide +kernel
theorem dX5_isOf_7 : decode cX5_isOf 7 = .ok (.if_icmp .ne 8, 3) := by decide +kernel
theorem dX5_isOf_10 : decode cX5_isOf 10 = .ok (.iload_n 1, 1) := by decide +kernel
theorem dX5_isOf_11 : decode cX5_isOf 11 = .ok (.iconst 1, 1) := by decide +kernel
theorem dX5_isOf_12 : decode cX5_isOf 12 = .ok (.if_icmp .eq 13, 3) := by decide +kernel
theorem dX5_isOf_15 : decode cX5_isOf 15 = .ok (.iload_n 0, 1) := by decide +kernel
theorem dX5_isOf_16 : decode cX5_isOf 16 = .ok (.iconst 5, 1) := by decide +kernel
theorem dX5_isOf_17 : decode cX5_isOf 17 = .ok (.if_icmp .ne 12, 3) := by decide +kernel
theorem dX5_isOf_20 : decode cX5_isOf 20 = .ok (.iload_n 1, 1) := by decide +kernel
theorem dX5_isOf_21 : decode cX5_isOf 21 = .ok (.iconst 2, 1) := by decide +kernel
theorem dX5_isOf_22 : decode cX5_isOf 22 = .ok (.if_icmp .ne 7, 3) := by decide +kernel
theorem dX5_isOf_25 : decode cX5_isOf 25 = .ok (.iconst 1, 1) := by decide +kernel
theorem dX5_isOf_26 : decode cX5_isOf 26 = .ok (.goto 4, 3) := by decide +kernel
theorem dX5_isOf_29 : decode cX5_isOf 29 = .ok (.iconst 0, 1) := by decide +kernel
theorem dX5_isOf_30 : decode cX5_isOf 30 = .ok (.ireturn, 1) := by decide +kernel
theorem dX5_belongsBy_0 : decode cX5_belongsBy 0 = .ok (.iload_n 2, 1) := by decide +kernel
theorem dX5_belongsBy_1 : decode cX5_belongsBy 1 = .ok (.iload 4, 2) := by decide +kernel
theorem dX5_belongsBy_3 : decode cX5_belongsBy 3 = .ok (.iload 5, 2) := by decide +kernel
theorem dX5_belongsBy_5 : decode cX5_belongsBy 5 = .ok (.iconst 1, 1) := by decide +kernel
theorem dX5_belongsBy_6 : decode cX5_belongsBy 6 = .ok (.isub, 1) := by decide +kernel
theorem dX5_belongsBy_7 : decode cX5_belongsBy 7 = .ok (.invokestatic 73, 3) := by decide +kernel
theorem dX5_belongsBy_10 : decode cX5_belongsBy 10 = .ok (.istore 6, 2) := by decide +kernel
theorem dX5_belongsBy_12 : decode cX5_belongsBy 12 = .ok (.iload_n 3, 1) := by decide +kernel
theorem dX5_belongsBy_13 : decode cX5_belongsBy 13 = .ok (.aload_n 0, 1) := by decide +kernel
theorem dX5_belongsBy_14 : decode cX5_belongsBy 14 = .ok (.getfield 25, 3) := by decide +kernel
theorem dX5_belongsBy_17 : decode cX5_belongsBy 17 = .ok (.iconst 5, 1) := by decide +kernel
theorem dX5_belongsBy_18 : decode cX5_belongsBy 18 = .ok (.iaload, 1) := by decide +kernel
theorem dX5_belongsBy_19 : decode cX5_belongsBy 19 = .ok (.aload_n 0, 1) := by decide +kernel
theorem dX5_belongsBy_20 : decode cX5_belongsBy 20 = .ok (.getfield 25, 3) := by decide +kernel
theorem dX5_belongsBy_23 : decode cX5_belongsBy 23 = .ok (.bipush 6, 2) := by decide +kernel
theorem dX5_belongsBy_25 : decode cX5_belongsBy 25 = .ok (.iaload, 1) := by decide +kernel
theorem dX5_belongsBy_26 : decode cX5_belongsBy 26 = .ok (.iconst 1, 1) := by decide +kernel
theorem dX5_belongsBy_27 : decode cX5_belongsBy 27 = .ok (.isub, 1) := by decide +kernel
theorem dX5_belongsBy_28 : decode cX5_belongsBy 28 = .ok (.invokestatic 73, 3) := by decide +kernel
theorem dX5_belongsBy_31 : decode cX5_belongsBy 31 = .ok (.istore 7, 2) := by decide +kernel
theorem dX5_belongsBy_33 : decode cX5_belongsBy 33 = .ok (.iload_n 2, 1) := by decide +kernel
theorem dX5_belongsBy_34 : decode cX5_belongsBy 34 = .ok (.iload 4, 2) := by decide +kernel
theorem dX5_belongsBy_36 : decode cX5_belongsBy 36 = .ok (.iconst 1, 1) := by decide +kernel
theorem dX5_belongsBy_37 : decode cX5_belongsBy 37 = .ok (.isub, 1) := by decide +kernel
theorem dX5_belongsBy_38 : decode cX5_belongsBy 38 = .ok (.iload 5, 2) := by decide +kernel
theorem dX5_belongsBy_40 : decode cX5_belongsBy 40 = .ok (.invokestatic 73, 3) := by decide +kernel
theorem dX5_belongsBy_43 : decode cX5_belongsBy 43 = .ok (.istore 8, 2) := by decide +kernel
theorem dX5_belongsBy_45 : decode cX5_belongsBy 45 = .ok (.iload_n 1, 1) := by decide +kernel
theorem dX5_belongsBy_46 : decode cX5_belongsBy 46 = .ok (.tableswitch 99 1 5 #[34, 54, 79, 37, 57], 34) := by decide +kernel
theorem dX5_belongsBy_80 : decode cX5_belongsBy 80 = .ok (.iload 7, 2) := by decide +kernel
theorem dX5_belongsBy_82 : decode cX5_belongsBy 82 = .ok (.ireturn, 1) := by decide +kernel
theorem dX5_belongsBy_83 : decode cX5_belongsBy 83 = .ok (.iload 7, 2) := by decide +kernel
theorem dX5_belongsBy_85 : decode cX5_belongsBy 85 = .ok (.ifCond .eq 13, 3) := by decide +kernel
theorem dX5_belongsBy_88 : decode cX5_belongsBy 88 = .ok (.iload_n 2, 1) := by decide +kernel
theorem dX5_belongsBy_89 : decode cX5_belongsBy 89 = .ok (.iload 4, 2) := by decide +kernel
theorem dX5_belongsBy_91 : decode cX5_belongsBy 91 = .ok (.if_icmp .lt 7, 3) := by decide +kernel
theorem dX5_belongsBy_94 : decode cX5_belongsBy 94 = .ok (.iconst 1, 1) := by decide +kernel
theorem dX5_belongsBy_95 : decode cX5_belongsBy 95 = .ok (.goto 4, 3) := by decide +kernel
theorem dX5_belongsBy_98 : decode cX5_belongsBy 98 = .ok (.iconst 0, 1) := by decide +kernel
theorem dX5_belongsBy_99 : decode cX5_belongsBy 99 = .ok (.ireturn, 1) := by decide +kernel
theorem dX5_belongsBy_100 : decode cX5_belongsBy 100 = .ok (.iload 8, 2) := by decide +kernel
theorem dX5_belongsBy_102 : decode cX5_belongsBy 102 = .ok (.ireturn, 1) := by decide +kernel
theorem dX5_belongsBy_103 : decode cX5_belongsBy 103 = .ok (.iload 8, 2) := by decide +kernel
theorem dX5_belongsBy_105 : decode cX5_belongsBy 105 = .ok (.ifCond .eq 18, 3) := by decide +kernel
theorem dX5_belongsBy_108 : decode cX5_belongsBy 108 = .ok (.iload_n 2, 1) := by decide +kernel
theorem dX5_belongsBy_109 : decode cX5_belongsBy 109 = .ok (.iload 4, 2) := by decide +kernel
theorem dX5_belongsBy_111 : decode cX5_belongsBy 111 = .ok (.iload 5, 2) := by decide +kernel
theorem dX5_belongsBy_113 : decode cX5_belongsBy 113 = .ok (.iadd, 1) := by decide +kernel
theorem dX5_belongsBy_114 : decode cX5_belongsBy 114 = .ok (.iconst 2, 1) := by decide +kernel
theorem dX5_belongsBy_115 : decode cX5_belongsBy 115 = .ok (.idiv, 1) := by decide +kernel
theorem dX5_belongsBy_116 : decode cX5_belongsBy 116 = .ok (.if_icmp .ne 7, 3) := by decide +kernel
theorem dX5_belongsBy_119 : decode cX5_belongsBy 119 = .ok (.iconst 1, 1) := by decide +kernel
theorem dX5_belongsBy_120 : decode cX5_belongsBy 120 = .ok (.goto 4, 3) := by decide +kernel
theorem dX5_belongsBy_123 : decode cX5_belongsBy 123 = .ok (.iconst 0, 1) := by decide +kernel
theorem dX5_belongsBy_124 : decode cX5_belongsBy 124 = .ok (.ireturn, 1) := by decide +kernel
theorem dX5_belongsBy_125 : decode cX5_belongsBy 125 = .ok (.iload 6, 2) := by decide +kernel
theorem dX5_belongsBy_127 : decode cX5_belongsBy 127 = .ok (.ifCond .eq 16, 3) := by decide +kernel
theorem dX5_belongsBy_130 : decode cX5_belongsBy 130 = .ok (.iload 5, 2) := by decide +kernel
theorem dX5_belongsBy_132 : decode cX5_belongsBy 132 = .ok (.iload 4, 2) := by decide +kernel
theorem dX5_belongsBy_134 : decode cX5_belongsBy 134 = .ok (.isub, 1) := by decide +kernel
theorem dX5_belongsBy_135 : decode cX5_belongsBy 135 = .ok (.iconst 2, 1) := by decide +kernel
theorem dX5_belongsBy_136 : decode cX5_belongsBy 136 = .ok (.if_icmp .le 7, 3) := by decide +kernel
theorem dX5_belongsBy_139 : decode cX5_belongsBy 139 = .ok (.iconst 1, 1) := by decide +kernel
theorem dX5_belongsBy_140 : decode cX5_belongsBy 140 = .ok (.goto 4, 3) := by decide +kernel
theorem dX5_belongsBy_143 : decode cX5_belongsBy 143 = .ok (.iconst 0, 1) := by decide +kernel
theorem dX5_belongsBy_144 : decode cX5_belongsBy 144 = .ok (.ireturn, 1) := by decide +kernel
theorem dX5_belongsBy_145 : decode cX5_belongsBy 145 = .ok (.iload 6, 2) := by decide +kernel
theorem dX5_belongsBy_147 : decode cX5_belongsBy 147 = .ok (.ireturn, 1) := by decide +kernel
theorem dX5_belongs_0 : decode cX5_belongs 0 = .ok (.bipush 10, 2) := by decide +kernel
theorem dX5_belongs_2 : decode cX5_belongs 2 = .ok (.iconst 5, 1) := by decide +kernel
theorem dX5_belongs_3 : decode cX5_belongs 3 = .ok (.iload_n 1, 1) := by decide +kernel
theorem dX5_belongs_4 : decode cX5_belongs 4 = .ok (.imul, 1) := by decide +kernel
theorem dX5_belongs_5 : decode cX5_belongs 5 = .ok (.iadd, 1) := by decide +kernel
theorem dX5_belongs_6 : decode cX5_belongs 6 = .ok (.istore 4, 2) := by decide +kernel
theorem dX5_belongs_8 : decode cX5_belongs 8 = .ok (.aload_n 0, 1) := by decide +kernel
theorem dX5_belongs_9 : decode cX5_belongs 9 = .ok (.aload_n 0, 1) := by decide +kernel
theorem dX5_belongs_10 : decode cX5_belongs 10 = .ok (.getfield 25, 3) := by decide +kernel
theorem dX5_belongs_13 : decode cX5_belongs 13 = .ok (.iload 4, 2) := by decide +kernel
theorem dX5_belongs_15 : decode cX5_belongs 15 = .ok (.iaload, 1) := by decide +kernel
theorem dX5_belongs_16 : decode cX5_belongs 16 = .ok (.aload_n 0, 1) := by decide +kernel
theorem dX5_belongs_17 : decode cX5_belongs 17 = .ok (.getfield 25, 3) := by decide +kernel
theorem dX5_belongs_20 : decode cX5_belongs 20 = .ok (.iload 4, 2) := by decide +kernel
theorem dX5_belongs_22 : decode cX5_belongs 22 = .ok (.iconst 1, 1) := by decide +kernel
theorem dX5_belongs_23 : decode cX5_belongs 23 = .ok (.iadd, 1) := by decide +kernel
theorem dX5_belongs_24 : decode cX5_belongs 24 = .ok (.iaload, 1) := by decide +kernel
theorem dX5_belongs_25 : decode cX5_belongs 25 = .ok (.aload_n 0, 1) := by decide +kernel
theorem dX5_belongs_26 : decode cX5_belongs 26 = .ok (.getfield 25, 3) := by decide +kernel
theorem dX5_belongs_29 : decode cX5_belongs 29 = .ok (.iload 4, 2) := by decide +kernel
theorem dX5_belongs_31 : decode cX5_belongs 31 = .ok (.iconst 2, 1) := by decide +kernel
theorem dX5_belongs_32 : decode cX5_belongs 32 = .ok (.iadd, 1) := by decide +kernel
theorem dX5_belongs_33 : decode cX5_belongs 33 = .ok (.iaload, 1) := by decide +kernel
theorem dX5_belongs_34 : decode cX5_belongs 34 = .ok (.iload_n 2, 1) := by decide +kernel
theorem dX5_belongs_35 : decode cX5_belongs 35 = .ok (.iload_n 3, 1) := by decide +kernel
theorem dX5_belongs_36 : decode cX5_belongs 36 = .ok (.invokevirtual 133, 3) := by decide +kernel
theorem dX5_belongs_39 : decode cX5_belongs 39 = .ok (.ireturn, 1) := by decide +kernel
theorem dX5_votesOf_0 : decode cX5_votesOf 0 = .ok (.aload_n 0, 1) := by decide +kernel
theorem dX5_votesOf_1 : decode cX5_votesOf 1 = .ok (.getfield 25, 3) := by decide +kernel
theorem dX5_votesOf_4 : decode cX5_votesOf 4 = .ok (.bipush 10, 2) := by decide +kernel
theorem dX5_votesOf_6 : decode cX5_votesOf 6 = .ok (.iconst 5, 1) := by decide +kernel
theorem dX5_votesOf_7 : decode cX5_votesOf 7 = .ok (.iload_n 1, 1) := by decide +kernel
theorem dX5_votesOf_8 : decode cX5_votesOf 8 = .ok (.imul, 1) := by decide +kernel
theorem dX5_votesOf_9 : decode cX5_votesOf 9 = .ok (.iadd, 1) := by decide +kernel
theorem dX5_votesOf_10 : decode cX5_votesOf 10 = .ok (.iconst 3, 1) := by decide +kernel
theorem dX5_votesOf_11 : decode cX5_votesOf 11 = .ok (.iadd, 1) := by decide +kernel
theorem dX5_votesOf_12 : decode cX5_votesOf 12 = .ok (.iaload, 1) := by decide +kernel
theorem dX5_votesOf_13 : decode cX5_votesOf 13 = .ok (.istore_n 2, 1) := by decide +kernel
theorem dX5_votesOf_14 : decode cX5_votesOf 14 = .ok (.aload_n 0, 1) := by decide +kernel
theorem dX5_votesOf_15 : decode cX5_votesOf 15 = .ok (.getfield 25, 3) := by decide +kernel
theorem dX5_votesOf_18 : decode cX5_votesOf 18 = .ok (.bipush 10, 2) := by decide +kernel
theorem dX5_votesOf_20 : decode cX5_votesOf 20 = .ok (.iconst 5, 1) := by decide +kernel
theorem dX5_votesOf_21 : decode cX5_votesOf 21 = .ok (.iload_n 1, 1) := by decide +kernel
theorem dX5_votesOf_22 : decode cX5_votesOf 22 = .ok (.imul, 1) := by decide +kernel
theorem dX5_votesOf_23 : decode cX5_votesOf 23 = .ok (.iadd, 1) := by decide +kernel
theorem dX5_votesOf_24 : decode cX5_votesOf 24 = .ok (.iaload, 1) := by decide +kernel
theorem dX5_votesOf_25 : decode cX5_votesOf 25 = .ok (.tableswitch 47 2 5 #[31, 45, 41, 35], 31) := by decide +kernel
theorem dX5_votesOf_56 : decode cX5_votesOf 56 = .ok (.iload_n 2, 1) := by decide +kernel
theorem dX5_votesOf_57 : decode cX5_votesOf 57 = .ok (.iconst 2, 1) := by decide +kernel
theorem dX5_votesOf_58 : decode cX5_votesOf 58 = .ok (.idiv, 1) := by decide +kernel
theorem dX5_votesOf_59 : decode cX5_votesOf 59 = .ok (.ireturn, 1) := by decide +kernel
theorem dX5_votesOf_60 : decode cX5_votesOf 60 = .ok (.iload_n 2, 1) := by decide +kernel
theorem dX5_votesOf_61 : decode cX5_votesOf 61 = .ok (.iconst 2, 1) := by decide +kernel
theorem dX5_votesOf_62 : decode cX5_votesOf 62 = .ok (.idiv, 1) := by decide +kernel
theorem dX5_votesOf_63 : decode cX5_votesOf 63 = .ok (.iconst 1, 1) := by decide +kernel
theorem dX5_votesOf_64 : decode cX5_votesOf 64 = .ok (.iadd, 1) := by decide +kernel
theorem dX5_votesOf_65 : decode cX5_votesOf 65 = .ok (.ireturn, 1) := by decide +kernel
theorem dX5_votesOf_66 : decode cX5_votesOf 66 = .ok (.iconst 2, 1) := by decide +kernel
theorem dX5_votesOf_67 : decode cX5_votesOf 67 = .ok (.iload_n 2, 1) := by decide +kernel
theorem dX5_votesOf_68 : decode cX5_votesOf 68 = .ok (.imul, 1) := by decide +kernel
theorem dX5_votesOf_69 : decode cX5_votesOf 69 = .ok (.ireturn, 1) := by decide +kernel
theorem dX5_votesOf_70 : decode cX5_votesOf 70 = .ok (.iconst 1, 1) := by decide +kernel
theorem dX5_votesOf_71 : decode cX5_votesOf 71 = .ok (.ireturn, 1) := by decide +kernel
theorem dX5_votesOf_72 : decode cX5_votesOf 72 = .ok (.iload_n 2, 1) := by decide +kernel
theorem dX5_votesOf_73 : decode cX5_votesOf 73 = .ok (.ireturn, 1) := by decide +kernel
theorem dX5_belongers_0 : decode cX5_belongers 0 = .ok (.iconst 0, 1) := by decide +kernel
theorem dX5_belongers_1 : decode cX5_belongers 1 = .ok (.istore_n 3, 1) := by decide +kernel
theorem dX5_belongers_2 : decode cX5_belongers 2 = .ok (.iconst 0, 1) := by decide +kernel
theorem dX5_belongers_3 : decode cX5_belongers 3 = .ok (.istore 4, 2) := by decide +kernel
theorem dX5_belongers_5 : decode cX5_belongers 5 = .ok (.iload 4, 2) := by decide +kernel
theorem dX5_belongers_7 : decode cX5_belongers 7 = .ok (.aload_n 0, 1) := by decide +kernel
theorem dX5_belongers_8 : decode cX5_belongers 8 = .ok (.getfield 25, 3) := by decide +kernel
theorem dX5_belongers_11 : decode cX5_belongers 11 = .ok (.bipush 7, 2) := by decide +kernel
theorem dX5_belongers_13 : decode cX5_belongers 13 = .ok (.iaload, 1) := by decide +kernel
theorem dX5_belongers_14 : decode cX5_belongers 14 = .ok (.if_icmp .ge 31, 3) := by decide +kernel
theorem dX5_belongers_17 : decode cX5_belongers 17 = .ok (.iload_n 3, 1) := by decide +kernel
theorem dX5_belongers_18 : decode cX5_belongers 18 = .ok (.aload_n 0, 1) := by decide +kernel
theorem dX5_belongers_19 : decode cX5_belongers 19 = .ok (.iload 4, 2) := by decide +kernel
theorem dX5_belongers_21 : decode cX5_belongers 21 = .ok (.iload_n 1, 1) := by decide +kernel
theorem dX5_belongers_22 : decode cX5_belongers 22 = .ok (.iload_n 2, 1) := by decide +kernel
theorem dX5_belongers_23 : decode cX5_belongers 23 = .ok (.invokevirtual 137, 3) := by decide +kernel
theorem dX5_belongers_26 : decode cX5_belongers 26 = .ok (.ifCond .eq 10, 3) := by decide +kernel
theorem dX5_belongers_29 : decode cX5_belongers 29 = .ok (.iconst 1, 1) := by decide +kernel
theorem dX5_belongers_30 : decode cX5_belongers 30 = .ok (.iload 4, 2) := by decide +kernel
theorem dX5_belongers_32 : decode cX5_belongers 32 = .ok (.ishl, 1) := by decide +kernel
theorem dX5_belongers_33 : decode cX5_belongers 33 = .ok (.goto 4, 3) := by decide +kernel
theorem dX5_belongers_36 : decode cX5_belongers 36 = .ok (.iconst 0, 1) := by decide +kernel
theorem dX5_belongers_37 : decode cX5_belongers 37 = .ok (.ior, 1) := by decide +kernel
theorem dX5_belongers_38 : decode cX5_belongers 38 = .ok (.istore_n 3, 1) := by decide +kernel
theorem dX5_belongers_39 : decode cX5_belongers 39 = .ok (.iinc 4 1, 3) := by decide +kernel
theorem dX5_belongers_42 : decode cX5_belongers 42 = .ok (.goto (-37), 3) := by decide +kernel
theorem dX5_belongers_45 : decode cX5_belongers 45 = .ok (.iload_n 3, 1) := by decide +kernel
theorem dX5_belongers_46 : decode cX5_belongers 46 = .ok (.ireturn, 1) := by decide +kernel
theorem dX5_belongersNow_0 : decode cX5_belongersNow 0 = .ok (.aload_n 0, 1) := by decide +kernel
theorem dX5_belongersNow_1 : decode cX5_belongersNow 1 = .ok (.aload_n 0, 1) := by decide +kernel
theorem dX5_belongersNow_2 : decode cX5_belongersNow 2 = .ok (.getfield 25, 3) := by decide +kernel
theorem dX5_belongersNow_5 : decode cX5_belongersNow 5 = .ok (.iconst 1, 1) := by decide +kernel
theorem dX5_belongersNow_6 : decode cX5_belongersNow 6 = .ok (.iaload, 1) := by decide +kernel
theorem dX5_belongersNow_7 : decode cX5_belongersNow 7 = .ok (.aload_n 0, 1) := by decide +kernel
theorem dX5_belongersNow_8 : decode cX5_belongersNow 8 = .ok (.getfield 25, 3) := by decide +kernel
theorem dX5_belongersNow_11 : decode cX5_belongersNow 11 = .ok (.iconst 2, 1) := by decide +kernel
theorem dX5_belongersNow_12 : decode cX5_belongersNow 12 = .ok (.iaload, 1) := by decide +kernel
theorem dX5_belongersNow_13 : decode cX5_belongersNow 13 = .ok (.invokevirtual 140, 3) := by decide +kernel
theorem dX5_belongersNow_16 : decode cX5_belongersNow 16 = .ok (.ireturn, 1) := by decide +kernel
theorem dX5_votesIn_0 : decode cX5_votesIn 0 = .ok (.iconst 0, 1) := by decide +kernel
theorem dX5_votesIn_1 : decode cX5_votesIn 1 = .ok (.istore_n 2, 1) := by decide +kernel
theorem dX5_votesIn_2 : decode cX5_votesIn 2 = .ok (.iconst 0, 1) := by decide +kernel
theorem dX5_votesIn_3 : decode cX5_votesIn 3 = .ok (.istore_n 3, 1) := by decide +kernel
theorem dX5_votesIn_4 : decode cX5_votesIn 4 = .ok (.iload_n 3, 1) := by decide +kernel
theorem dX5_votesIn_5 : decode cX5_votesIn 5 = .ok (.aload_n 0, 1) := by decide +kernel
theorem dX5_votesIn_6 : decode cX5_votesIn 6 = .ok (.getfield 25, 3) := by decide +kernel
theorem dX5_votesIn_9 : decode cX5_votesIn 9 = .ok (.bipush 7, 2) := by decide +kernel
theorem dX5_votesIn_11 : decode cX5_votesIn 11 = .ok (.iaload, 1) := by decide +kernel
theorem dX5_votesIn_12 : decode cX5_votesIn 12 = .ok (.if_icmp .ge 29, 3) := by decide +kernel
theorem dX5_votesIn_15 : decode cX5_votesIn 15 = .ok (.iload_n 2, 1) := by decide +kernel
theorem dX5_votesIn_16 : decode cX5_votesIn 16 = .ok (.iload_n 1, 1) := by decide +kernel
theorem dX5_votesIn_17 : decode cX5_votesIn 17 = .ok (.iload_n 3, 1) := by decide +kernel
theorem dX5_votesIn_18 : decode cX5_votesIn 18 = .ok (.invokestatic 143, 3) := by decide +kernel
theorem dX5_votesIn_21 : decode cX5_votesIn 21 = .ok (.ifCond .eq 11, 3) := by decide +kernel
theorem dX5_votesIn_24 : decode cX5_votesIn 24 = .ok (.aload_n 0, 1) := by decide +kernel
theorem dX5_votesIn_25 : decode cX5_votesIn 25 = .ok (.iload_n 3, 1) := by decide +kernel
theorem dX5_votesIn_26 : decode cX5_votesIn 26 = .ok (.invokevirtual 147, 3) := by decide +kernel
theorem dX5_votesIn_29 : decode cX5_votesIn 29 = .ok (.goto 4, 3) := by decide +kernel
theorem dX5_votesIn_32 : decode cX5_votesIn 32 = .ok (.iconst 0, 1) := by decide +kernel
theorem dX5_votesIn_33 : decode cX5_votesIn 33 = .ok (.iadd, 1) := by decide +kernel
theorem dX5_votesIn_34 : decode cX5_votesIn 34 = .ok (.istore_n 2, 1) := by decide +kernel
theorem dX5_votesIn_35 : decode cX5_votesIn 35 = .ok (.iinc 3 1, 3) := by decide +kernel
theorem dX5_votesIn_38 : decode cX5_votesIn 38 = .ok (.goto (-34), 3) := by decide +kernel
theorem dX5_votesIn_41 : decode cX5_votesIn 41 = .ok (.iload_n 2, 1) := by decide +kernel
theorem dX5_votesIn_42 : decode cX5_votesIn 42 = .ok (.ireturn, 1) := by decide +kernel
theorem dX5_votesOut_0 : decode cX5_votesOut 0 = .ok (.iconst 0, 1) := by decide +kernel
theorem dX5_votesOut_1 : decode cX5_votesOut 1 = .ok (.istore 5, 2) := by decide +kernel
theorem dX5_votesOut_3 : decode cX5_votesOut 3 = .ok (.iconst 0, 1) := by decide +kernel
theorem dX5_votesOut_4 : decode cX5_votesOut 4 = .ok (.istore 6, 2) := by decide +kernel
theorem dX5_votesOut_6 : decode cX5_votesOut 6 = .ok (.iload 6, 2) := by decide +kernel
theorem dX5_votesOut_8 : decode cX5_votesOut 8 = .ok (.aload_n 0, 1) := by decide +kernel
theorem dX5_votesOut_9 : decode cX5_votesOut 9 = .ok (.getfield 25, 3) := by decide +kernel
theorem dX5_votesOut_12 : decode cX5_votesOut 12 = .ok (.bipush 7, 2) := by decide +kernel
theorem dX5_votesOut_14 : decode cX5_votesOut 14 = .ok (.iaload, 1) := by decide +kernel
theorem dX5_votesOut_15 : decode cX5_votesOut 15 = .ok (.if_icmp .ge 58, 3) := by decide +kernel
theorem dX5_votesOut_18 : decode cX5_votesOut 18 = .ok (.iload 5, 2) := by decide +kernel
theorem dX5_votesOut_20 : decode cX5_votesOut 20 = .ok (.aload_n 0, 1) := by decide +kernel
theorem dX5_votesOut_21 : decode cX5_votesOut 21 = .ok (.getfield 25, 3) := by decide +kernel
theorem dX5_votesOut_24 : decode cX5_votesOut 24 = .ok (.bipush 10, 2) := by decide +kernel
theorem dX5_votesOut_26 : decode cX5_votesOut 26 = .ok (.iconst 5, 1) := by decide +kernel
theorem dX5_votesOut_27 : decode cX5_votesOut 27 = .ok (.iload 6, 2) := by decide +kernel
theorem dX5_votesOut_29 : decode cX5_votesOut 29 = .ok (.imul, 1) := by decide +kernel
theorem dX5_votesOut_30 : decode cX5_votesOut 30 = .ok (.iadd, 1) := by decide +kernel
theorem dX5_votesOut_31 : decode cX5_votesOut 31 = .ok (.iconst 1, 1) := by decide +kernel
theorem dX5_votesOut_32 : decode cX5_votesOut 32 = .ok (.iadd, 1) := by decide +kernel
theorem dX5_votesOut_33 : decode cX5_votesOut 33 = .ok (.iaload, 1) := by decide +kernel
theorem dX5_votesOut_34 : decode cX5_votesOut 34 = .ok (.iload_n 1, 1) := by decide +kernel
theorem dX5_votesOut_35 : decode cX5_votesOut 35 = .ok (.iload_n 2, 1) := by decide +kernel
theorem dX5_votesOut_36 : decode cX5_votesOut 36 = .ok (.invokestatic 73, 3) := by decide +kernel
theorem dX5_votesOut_39 : decode cX5_votesOut 39 = .ok (.ifCond .eq 24, 3) := by decide +kernel
theorem dX5_votesOut_42 : decode cX5_votesOut 42 = .ok (.aload_n 0, 1) := by decide +kernel
theorem dX5_votesOut_43 : decode cX5_votesOut 43 = .ok (.iload 6, 2) := by decide +kernel
theorem dX5_votesOut_45 : decode cX5_votesOut 45 = .ok (.iload_n 3, 1) := by decide +kernel
theorem dX5_votesOut_46 : decode cX5_votesOut 46 = .ok (.iload 4, 2) := by decide +kernel
theorem dX5_votesOut_48 : decode cX5_votesOut 48 = .ok (.invokevirtual 137, 3) := by decide +kernel
theorem dX5_votesOut_51 : decode cX5_votesOut 51 = .ok (.ifCond .ne 12, 3) := by decide +kernel
theorem dX5_votesOut_54 : decode cX5_votesOut 54 = .ok (.aload_n 0, 1) := by decide +kernel
theorem dX5_votesOut_55 : decode cX5_votesOut 55 = .ok (.iload 6, 2) := by decide +kernel
theorem dX5_votesOut_57 : decode cX5_votesOut 57 = .ok (.invokevirtual 147, 3) := by decide +kernel
theorem dX5_votesOut_60 : decode cX5_votesOut 60 = .ok (.goto 4, 3) := by decide +kernel
theorem dX5_votesOut_63 : decode cX5_votesOut 63 = .ok (.iconst 0, 1) := by decide +kernel
theorem dX5_votesOut_64 : decode cX5_votesOut 64 = .ok (.iadd, 1) := by decide +kernel
theorem dX5_votesOut_65 : decode cX5_votesOut 65 = .ok (.istore 5, 2) := by decide +kernel
theorem dX5_votesOut_67 : decode cX5_votesOut 67 = .ok (.iinc 6 1, 3) := by decide +kernel
theorem dX5_votesOut_70 : decode cX5_votesOut 70 = .ok (.goto (-64), 3) := by decide +kernel
theorem dX5_votesOut_73 : decode cX5_votesOut 73 = .ok (.iload 5, 2) := by decide +kernel
theorem dX5_votesOut_75 : decode cX5_votesOut 75 = .ok (.ireturn, 1) := by decide +kernel
theorem dX5_oneHas_0 : decode cX5_oneHas 0 = .ok (.bipush 10, 2) := by decide +kernel
theorem dX5_oneHas_2 : decode cX5_oneHas 2 = .ok (.iconst 5, 1) := by decide +kernel
theorem dX5_oneHas_3 : decode cX5_oneHas 3 = .ok (.iload_n 1, 1) := by decide +kernel
theorem dX5_oneHas_4 : decode cX5_oneHas 4 = .ok (.imul, 1) := by decide +kernel
theorem dX5_oneHas_5 : decode cX5_oneHas 5 = .ok (.iadd, 1) := by decide +kernel
theorem dX5_oneHas_6 : decode cX5_oneHas 6 = .ok (.istore_n 3, 1) := by decide +kernel
theorem dX5_oneHas_7 : decode cX5_oneHas 7 = .ok (.iload_n 2, 1) := by decide +kernel
theorem dX5_oneHas_8 : decode cX5_oneHas 8 = .ok (.tableswitch 69 3 5 #[28, 34, 43], 28) := by decide +kernel
theorem dX5_oneHas_36 : decode cX5_oneHas 36 = .ok (.aload_n 0, 1) := by decide +kernel
theorem dX5_oneHas_37 : decode cX5_oneHas 37 = .ok (.iload_n 1, 1) := by decide +kernel
theorem dX5_oneHas_38 : decode cX5_oneHas 38 = .ok (.invokevirtual 147, 3) := by decide +kernel
theorem dX5_oneHas_41 : decode cX5_oneHas 41 = .ok (.ireturn, 1) := by decide +kernel
theorem dX5_oneHas_42 : decode cX5_oneHas 42 = .ok (.aload_n 0, 1) := by decide +kernel
theorem dX5_oneHas_43 : decode cX5_oneHas 43 = .ok (.getfield 25, 3) := by decide +kernel
theorem dX5_oneHas_46 : decode cX5_oneHas 46 = .ok (.iload_n 3, 1) := by decide +kernel
theorem dX5_oneHas_47 : decode cX5_oneHas 47 = .ok (.iconst 4, 1) := by decide +kernel
theorem dX5_oneHas_48 : decode cX5_oneHas 48 = .ok (.iadd, 1) := by decide +kernel
theorem dX5_oneHas_49 : decode cX5_oneHas 49 = .ok (.iaload, 1) := by decide +kernel
theorem dX5_oneHas_50 : decode cX5_oneHas 50 = .ok (.ireturn, 1) := by decide +kernel
theorem dX5_oneHas_51 : decode cX5_oneHas 51 = .ok (.aload_n 0, 1) := by decide +kernel
theorem dX5_oneHas_52 : decode cX5_oneHas 52 = .ok (.iload_n 1, 1) := by decide +kernel
theorem dX5_oneHas_53 : decode cX5_oneHas 53 = .ok (.aload_n 0, 1) := by decide +kernel
theorem dX5_oneHas_54 : decode cX5_oneHas 54 = .ok (.getfield 25, 3) := by decide +kernel
theorem dX5_oneHas_57 : decode cX5_oneHas 57 = .ok (.iconst 1, 1) := by decide +kernel
theorem dX5_oneHas_58 : decode cX5_oneHas 58 = .ok (.iaload, 1) := by decide +kernel
theorem dX5_oneHas_59 : decode cX5_oneHas 59 = .ok (.aload_n 0, 1) := by decide +kernel
theorem dX5_oneHas_60 : decode cX5_oneHas 60 = .ok (.getfield 25, 3) := by decide +kernel
theorem dX5_oneHas_63 : decode cX5_oneHas 63 = .ok (.iconst 2, 1) := by decide +kernel
theorem dX5_oneHas_64 : decode cX5_oneHas 64 = .ok (.iaload, 1) := by decide +kernel
theorem dX5_oneHas_65 : decode cX5_oneHas 65 = .ok (.invokevirtual 137, 3) := by decide +kernel
theorem dX5_oneHas_68 : decode cX5_oneHas 68 = .ok (.ifCond .eq 7, 3) := by decide +kernel
theorem dX5_oneHas_71 : decode cX5_oneHas 71 = .ok (.iconst 1, 1) := by decide +kernel
theorem dX5_oneHas_72 : decode cX5_oneHas 72 = .ok (.goto 4, 3) := by decide +kernel
theorem dX5_oneHas_75 : decode cX5_oneHas 75 = .ok (.iconst 0, 1) := by decide +kernel
theorem dX5_oneHas_76 : decode cX5_oneHas 76 = .ok (.ireturn, 1) := by decide +kernel
theorem dX5_oneHas_77 : decode cX5_oneHas 77 = .ok (.aload_n 0, 1) := by decide +kernel
theorem dX5_oneHas_78 : decode cX5_oneHas 78 = .ok (.getfield 25, 3) := by decide +kernel
theorem dX5_oneHas_81 : decode cX5_oneHas 81 = .ok (.iload_n 3, 1) := by decide +kernel
theorem dX5_oneHas_82 : decode cX5_oneHas 82 = .ok (.iload_n 2, 1) := by decide +kernel
theorem dX5_oneHas_83 : decode cX5_oneHas 83 = .ok (.iadd, 1) := by decide +kernel
theorem dX5_oneHas_84 : decode cX5_oneHas 84 = .ok (.iaload, 1) := by decide +kernel
theorem dX5_oneHas_85 : decode cX5_oneHas 85 = .ok (.ireturn, 1) := by decide +kernel
theorem dX5_one_0 : decode cX5_one 0 = .ok (.aload_n 0, 1) := by decide +kernel
theorem dX5_one_1 : decode cX5_one 1 = .ok (.iload_n 1, 1) := by decide +kernel
theorem dX5_one_2 : decode cX5_one 2 = .ok (.invokevirtual 150, 3) := by decide +kernel
theorem dX5_one_5 : decode cX5_one 5 = .ok (.ifCond .eq 26, 3) := by decide +kernel
theorem dX5_one_8 : decode cX5_one 8 = .ok (.iload_n 2, 1) := by decide +kernel
theorem dX5_one_9 : decode cX5_one 9 = .ok (.iconst 0, 1) := by decide +kernel
theorem dX5_one_10 : decode cX5_one 10 = .ok (.iconst 5, 1) := by decide +kernel
theorem dX5_one_11 : decode cX5_one 11 = .ok (.invokestatic 73, 3) := by decide +kernel
theorem dX5_one_14 : decode cX5_one 14 = .ok (.ifCond .eq 17, 3) := by decide +kernel
theorem dX5_one_17 : decode cX5_one 17 = .ok (.aload_n 0, 1) := by decide +kernel
theorem dX5_one_18 : decode cX5_one 18 = .ok (.iconst 1, 1) := by decide +kernel
theorem dX5_one_19 : decode cX5_one 19 = .ok (.aload_n 0, 1) := by decide +kernel
theorem dX5_one_20 : decode cX5_one 20 = .ok (.iload_n 1, 1) := by decide +kernel
theorem dX5_one_21 : decode cX5_one 21 = .ok (.iload_n 2, 1) := by decide +kernel
theorem dX5_one_22 : decode cX5_one 22 = .ok (.invokevirtual 153, 3) := by decide +kernel
theorem dX5_one_25 : decode cX5_one 25 = .ok (.invokevirtual 93, 3) := by decide +kernel
theorem dX5_one_28 : decode cX5_one 28 = .ok (.goto 4, 3) := by decide +kernel
theorem dX5_one_31 : decode cX5_one 31 = .ok (.iconst (-1), 1) := by decide +kernel
theorem dX5_one_32 : decode cX5_one 32 = .ok (.ireturn, 1) := by decide +kernel
theorem dX5_distance_0 : decode cX5_distance 0 = .ok (.aload_n 0, 1) := by decide +kernel
theorem dX5_distance_1 : decode cX5_distance 1 = .ok (.getfield 25, 3) := by decide +kernel
theorem dX5_distance_4 : decode cX5_distance 4 = .ok (.iconst 1, 1) := by decide +kernel
theorem dX5_distance_5 : decode cX5_distance 5 = .ok (.iaload, 1) := by decide +kernel
theorem dX5_distance_6 : decode cX5_distance 6 = .ok (.istore_n 2, 1) := by decide +kernel
theorem dX5_distance_7 : decode cX5_distance 7 = .ok (.aload_n 0, 1) := by decide +kernel
theorem dX5_distance_8 : decode cX5_distance 8 = .ok (.getfield 25, 3) := by decide +kernel
theorem dX5_distance_11 : decode cX5_distance 11 = .ok (.iconst 2, 1) := by decide +kernel
theorem dX5_distance_12 : decode cX5_distance 12 = .ok (.iaload, 1) := by decide +kernel
theorem dX5_distance_13 : decode cX5_distance 13 = .ok (.istore_n 3, 1) := by decide +kernel
theorem dX5_distance_14 : decode cX5_distance 14 = .ok (.iload_n 2, 1) := by decide +kernel
theorem dX5_distance_15 : decode cX5_distance 15 = .ok (.iload_n 3, 1) := by decide +kernel
theorem dX5_distance_16 : decode cX5_distance 16 = .ok (.if_icmp .ne 9, 3) := by decide +kernel
theorem dX5_distance_19 : decode cX5_distance 19 = .ok (.iload_n 1, 1) := by decide +kernel
theorem dX5_distance_20 : decode cX5_distance 20 = .ok (.iload_n 2, 1) := by decide +kernel
theorem dX5_distance_21 : decode cX5_distance 21 = .ok (.invokestatic 156, 3) := by decide +kernel
theorem dX5_distance_24 : decode cX5_distance 24 = .ok (.ireturn, 1) := by decide +kernel
theorem dX5_distance_25 : decode cX5_distance 25 = .ok (.iload_n 1, 1) := by decide +kernel
theorem dX5_distance_26 : decode cX5_distance 26 = .ok (.iload_n 2, 1) := by decide +kernel
theorem dX5_distance_27 : decode cX5_distance 27 = .ok (.if_icmp .ge 9, 3) := by decide +kernel
theorem dX5_distance_30 : decode cX5_distance 30 = .ok (.iload_n 2, 1) := by decide +kernel
theorem dX5_distance_31 : decode cX5_distance 31 = .ok (.iload_n 1, 1) := by decide +kernel
theorem dX5_distance_32 : decode cX5_distance 32 = .ok (.isub, 1) := by decide +kernel
theorem dX5_distance_33 : decode cX5_distance 33 = .ok (.goto 17, 3) := by decide +kernel
theorem dX5_distance_36 : decode cX5_distance 36 = .ok (.iload_n 1, 1) := by decide +kernel
theorem dX5_distance_37 : decode cX5_distance 37 = .ok (.iload_n 3, 1) := by decide +kernel
theorem dX5_distance_38 : decode cX5_distance 38 = .ok (.if_icmp .lt 11, 3) := by decide +kernel
theorem dX5_distance_41 : decode cX5_distance 41 = .ok (.iload_n 1, 1) := by decide +kernel
theorem dX5_distance_42 : decode cX5_distance 42 = .ok (.iload_n 3, 1) := by decide +kernel
theorem dX5_distance_43 : decode cX5_distance 43 = .ok (.isub, 1) := by decide +kernel
theorem dX5_distance_44 : decode cX5_distance 44 = .ok (.iconst 1, 1) := by decide +kernel
theorem dX5_distance_45 : decode cX5_distance 45 = .ok (.iadd, 1) := by decide +kernel
theorem dX5_distance_46 : decode cX5_distance 46 = .ok (.goto 4, 3) := by decide +kernel
theorem dX5_distance_49 : decode cX5_distance 49 = .ok (.iconst 0, 1) := by decide +kernel
theorem dX5_distance_50 : decode cX5_distance 50 = .ok (.ireturn, 1) := by decide +kernel
theorem dX5_mark_0 : decode cX5_mark 0 = .ok (.aload_n 0, 1) := by decide +kernel
theorem dX5_mark_1 : decode cX5_mark 1 = .ok (.iload_n 1, 1) := by decide +kernel
theorem dX5_mark_2 : decode cX5_mark 2 = .ok (.invokevirtual 150, 3) := by decide +kernel
theorem dX5_mark_5 : decode cX5_mark 5 = .ok (.ifCond .eq 12, 3) := by decide +kernel
theorem dX5_mark_8 : decode cX5_mark 8 = .ok (.iload_n 2, 1) := by decide +kernel
theorem dX5_mark_9 : decode cX5_mark 9 = .ok (.iconst 1, 1) := by decide +kernel
theorem dX5_mark_10 : decode cX5_mark 10 = .ok (.iconst 5, 1) := by decide +kernel
theorem dX5_mark_11 : decode cX5_mark 11 = .ok (.invokestatic 73, 3) := by decide +kernel
theorem dX5_mark_14 : decode cX5_mark 14 = .ok (.ifCond .ne 5, 3) := by decide +kernel
theorem dX5_mark_17 : decode cX5_mark 17 = .ok (.iconst (-1), 1) := by decide +kernel
theorem dX5_mark_18 : decode cX5_mark 18 = .ok (.ireturn, 1) := by decide +kernel
theorem dX5_mark_19 : decode cX5_mark 19 = .ok (.bipush 10, 2) := by decide +kernel
theorem dX5_mark_21 : decode cX5_mark 21 = .ok (.iconst 5, 1) := by decide +kernel
theorem dX5_mark_22 : decode cX5_mark 22 = .ok (.iload_n 1, 1) := by decide +kernel
theorem dX5_mark_23 : decode cX5_mark 23 = .ok (.imul, 1) := by decide +kernel
theorem dX5_mark_24 : decode cX5_mark 24 = .ok (.iadd, 1) := by decide +kernel
theorem dX5_mark_25 : decode cX5_mark 25 = .ok (.istore_n 3, 1) := by decide +kernel
theorem dX5_mark_26 : decode cX5_mark 26 = .ok (.aload_n 0, 1) := by decide +kernel
theorem dX5_mark_27 : decode cX5_mark 27 = .ok (.getfield 25, 3) := by decide +kernel
theorem dX5_mark_30 : decode cX5_mark 30 = .ok (.iload_n 3, 1) := by decide +kernel
theorem dX5_mark_31 : decode cX5_mark 31 = .ok (.iaload, 1) := by decide +kernel
theorem dX5_mark_32 : decode cX5_mark 32 = .ok (.iload_n 2, 1) := by decide +kernel
theorem dX5_mark_33 : decode cX5_mark 33 = .ok (.invokestatic 159, 3) := by decide +kernel
theorem dX5_mark_36 : decode cX5_mark 36 = .ok (.ifCond .ne 9, 3) := by decide +kernel
theorem dX5_mark_39 : decode cX5_mark 39 = .ok (.aload_n 0, 1) := by decide +kernel
theorem dX5_mark_40 : decode cX5_mark 40 = .ok (.iconst 3, 1) := by decide +kernel
theorem dX5_mark_41 : decode cX5_mark 41 = .ok (.invokevirtual 81, 3) := by decide +kernel
theorem dX5_mark_44 : decode cX5_mark 44 = .ok (.ireturn, 1) := by decide +kernel
theorem dX5_mark_45 : decode cX5_mark 45 = .ok (.iconst 0, 1) := by decide +kernel
theorem dX5_mark_46 : decode cX5_mark 46 = .ok (.istore 4, 2) := by decide +kernel
theorem dX5_mark_48 : decode cX5_mark 48 = .ok (.aload_n 0, 1) := by decide +kernel
theorem dX5_mark_49 : decode cX5_mark 49 = .ok (.getfield 25, 3) := by decide +kernel
theorem dX5_mark_52 : decode cX5_mark 52 = .ok (.iconst 2, 1) := by decide +kernel
theorem dX5_mark_53 : decode cX5_mark 53 = .ok (.iaload, 1) := by decide +kernel
theorem dX5_mark_54 : decode cX5_mark 54 = .ok (.aload_n 0, 1) := by decide +kernel
theorem dX5_mark_55 : decode cX5_mark 55 = .ok (.getfield 25, 3) := by decide +kernel
theorem dX5_mark_58 : decode cX5_mark 58 = .ok (.iconst 1, 1) := by decide +kernel
theorem dX5_mark_59 : decode cX5_mark 59 = .ok (.iaload, 1) := by decide +kernel
theorem dX5_mark_60 : decode cX5_mark 60 = .ok (.isub, 1) := by decide +kernel
theorem dX5_mark_61 : decode cX5_mark 61 = .ok (.istore 5, 2) := by decide +kernel
theorem dX5_mark_63 : decode cX5_mark 63 = .ok (.iload_n 2, 1) := by decide +kernel
theorem dX5_mark_64 : decode cX5_mark 64 = .ok (.tableswitch 150 1 4 #[32, 57, 70, 85], 32) := by decide +kernel
theorem dX5_mark_96 : decode cX5_mark 96 = .ok (.aload_n 0, 1) := by decide +kernel
theorem dX5_mark_97 : decode cX5_mark 97 = .ok (.getfield 25, 3) := by decide +kernel
theorem dX5_mark_100 : decode cX5_mark 100 = .ok (.iload_n 3, 1) := by decide +kernel
theorem dX5_mark_101 : decode cX5_mark 101 = .ok (.iconst 1, 1) := by decide +kernel
theorem dX5_mark_102 : decode cX5_mark 102 = .ok (.iadd, 1) := by decide +kernel
theorem dX5_mark_103 : decode cX5_mark 103 = .ok (.iaload, 1) := by decide +kernel
theorem dX5_mark_104 : decode cX5_mark 104 = .ok (.aload_n 0, 1) := by decide +kernel
theorem dX5_mark_105 : decode cX5_mark 105 = .ok (.getfield 25, 3) := by decide +kernel
theorem dX5_mark_108 : decode cX5_mark 108 = .ok (.iload_n 3, 1) := by decide +kernel
theorem dX5_mark_109 : decode cX5_mark 109 = .ok (.iconst 2, 1) := by decide +kernel
theorem dX5_mark_110 : decode cX5_mark 110 = .ok (.iadd, 1) := by decide +kernel
theorem dX5_mark_111 : decode cX5_mark 111 = .ok (.iaload, 1) := by decide +kernel
theorem dX5_mark_112 : decode cX5_mark 112 = .ok (.if_icmp .ne 7, 3) := by decide +kernel
theorem dX5_mark_115 : decode cX5_mark 115 = .ok (.iconst 0, 1) := by decide +kernel
theorem dX5_mark_116 : decode cX5_mark 116 = .ok (.goto 4, 3) := by decide +kernel
theorem dX5_mark_119 : decode cX5_mark 119 = .ok (.iconst 1, 1) := by decide +kernel
theorem dX5_mark_120 : decode cX5_mark 120 = .ok (.ireturn, 1) := by decide +kernel
theorem dX5_mark_121 : decode cX5_mark 121 = .ok (.aload_n 0, 1) := by decide +kernel
theorem dX5_mark_122 : decode cX5_mark 122 = .ok (.aload_n 0, 1) := by decide +kernel
theorem dX5_mark_123 : decode cX5_mark 123 = .ok (.getfield 25, 3) := by decide +kernel
theorem dX5_mark_126 : decode cX5_mark 126 = .ok (.iload_n 3, 1) := by decide +kernel
theorem dX5_mark_127 : decode cX5_mark 127 = .ok (.iconst 1, 1) := by decide +kernel
theorem dX5_mark_128 : decode cX5_mark 128 = .ok (.iadd, 1) := by decide +kernel
theorem dX5_mark_129 : decode cX5_mark 129 = .ok (.iaload, 1) := by decide +kernel
theorem dX5_mark_130 : decode cX5_mark 130 = .ok (.invokevirtual 162, 3) := by decide +kernel
theorem dX5_mark_133 : decode cX5_mark 133 = .ok (.ireturn, 1) := by decide +kernel
theorem dX5_mark_134 : decode cX5_mark 134 = .ok (.iload 5, 2) := by decide +kernel
theorem dX5_mark_136 : decode cX5_mark 136 = .ok (.iconst 3, 1) := by decide +kernel
theorem dX5_mark_137 : decode cX5_mark 137 = .ok (.if_icmp .ge 10, 3) := by decide +kernel
theorem dX5_mark_140 : decode cX5_mark 140 = .ok (.iconst 3, 1) := by decide +kernel
theorem dX5_mark_141 : decode cX5_mark 141 = .ok (.iload 5, 2) := by decide +kernel
theorem dX5_mark_143 : decode cX5_mark 143 = .ok (.isub, 1) := by decide +kernel
theorem dX5_mark_144 : decode cX5_mark 144 = .ok (.goto 4, 3) := by decide +kernel
theorem dX5_mark_147 : decode cX5_mark 147 = .ok (.iconst 0, 1) := by decide +kernel
theorem dX5_mark_148 : decode cX5_mark 148 = .ok (.ireturn, 1) := by decide +kernel
theorem dX5_mark_149 : decode cX5_mark 149 = .ok (.iconst 0, 1) := by decide +kernel
theorem dX5_mark_150 : decode cX5_mark 150 = .ok (.istore 6, 2) := by decide +kernel
theorem dX5_mark_152 : decode cX5_mark 152 = .ok (.iload 6, 2) := by decide +kernel
theorem dX5_mark_154 : decode cX5_mark 154 = .ok (.aload_n 0, 1) := by decide +kernel
theorem dX5_mark_155 : decode cX5_mark 155 = .ok (.getfield 25, 3) := by decide +kernel
theorem dX5_mark_158 : decode cX5_mark 158 = .ok (.bipush 7, 2) := by decide +kernel
theorem dX5_mark_160 : decode cX5_mark 160 = .ok (.iaload, 1) := by decide +kernel
theorem dX5_mark_161 : decode cX5_mark 161 = .ok (.if_icmp .ge 50, 3) := by decide +kernel
theorem dX5_mark_164 : decode cX5_mark 164 = .ok (.iload 4, 2) := by decide +kernel
theorem dX5_mark_166 : decode cX5_mark 166 = .ok (.iload 6, 2) := by decide +kernel
theorem dX5_mark_168 : decode cX5_mark 168 = .ok (.iload_n 1, 1) := by decide +kernel
theorem dX5_mark_169 : decode cX5_mark 169 = .ok (.if_icmp .eq 32, 3) := by decide +kernel
theorem dX5_mark_172 : decode cX5_mark 172 = .ok (.aload_n 0, 1) := by decide +kernel
theorem dX5_mark_173 : decode cX5_mark 173 = .ok (.getfield 25, 3) := by decide +kernel
theorem dX5_mark_176 : decode cX5_mark 176 = .ok (.bipush 10, 2) := by decide +kernel
theorem dX5_mark_178 : decode cX5_mark 178 = .ok (.iconst 5, 1) := by decide +kernel
theorem dX5_mark_179 : decode cX5_mark 179 = .ok (.iload 6, 2) := by decide +kernel
theorem dX5_mark_181 : decode cX5_mark 181 = .ok (.imul, 1) := by decide +kernel
theorem dX5_mark_182 : decode cX5_mark 182 = .ok (.iadd, 1) := by decide +kernel
theorem dX5_mark_183 : decode cX5_mark 183 = .ok (.iconst 1, 1) := by decide +kernel
theorem dX5_mark_184 : decode cX5_mark 184 = .ok (.iadd, 1) := by decide +kernel
theorem dX5_mark_185 : decode cX5_mark 185 = .ok (.iaload, 1) := by decide +kernel
theorem dX5_mark_186 : decode cX5_mark 186 = .ok (.aload_n 0, 1) := by decide +kernel
theorem dX5_mark_187 : decode cX5_mark 187 = .ok (.getfield 25, 3) := by decide +kernel
theorem dX5_mark_190 : decode cX5_mark 190 = .ok (.iload_n 3, 1) := by decide +kernel
theorem dX5_mark_191 : decode cX5_mark 191 = .ok (.iconst 1, 1) := by decide +kernel
theorem dX5_mark_192 : decode cX5_mark 192 = .ok (.iadd, 1) := by decide +kernel
theorem dX5_mark_193 : decode cX5_mark 193 = .ok (.iaload, 1) := by decide +kernel
theorem dX5_mark_194 : decode cX5_mark 194 = .ok (.if_icmp .ne 7, 3) := by decide +kernel
theorem dX5_mark_197 : decode cX5_mark 197 = .ok (.iconst 1, 1) := by decide +kernel
theorem dX5_mark_198 : decode cX5_mark 198 = .ok (.goto 4, 3) := by decide +kernel
theorem dX5_mark_201 : decode cX5_mark 201 = .ok (.iconst 0, 1) := by decide +kernel
theorem dX5_mark_202 : decode cX5_mark 202 = .ok (.iadd, 1) := by decide +kernel
theorem dX5_mark_203 : decode cX5_mark 203 = .ok (.istore 4, 2) := by decide +kernel
theorem dX5_mark_205 : decode cX5_mark 205 = .ok (.iinc 6 1, 3) := by decide +kernel
theorem dX5_mark_208 : decode cX5_mark 208 = .ok (.goto (-56), 3) := by decide +kernel
theorem dX5_mark_211 : decode cX5_mark 211 = .ok (.iload 4, 2) := by decide +kernel
theorem dX5_mark_213 : decode cX5_mark 213 = .ok (.ireturn, 1) := by decide +kernel
theorem dX5_mark_214 : decode cX5_mark 214 = .ok (.aload_n 0, 1) := by decide +kernel
theorem dX5_mark_215 : decode cX5_mark 215 = .ok (.getfield 25, 3) := by decide +kernel
theorem dX5_mark_218 : decode cX5_mark 218 = .ok (.iload_n 3, 1) := by decide +kernel
theorem dX5_mark_219 : decode cX5_mark 219 = .ok (.iconst 1, 1) := by decide +kernel
theorem dX5_mark_220 : decode cX5_mark 220 = .ok (.iadd, 1) := by decide +kernel
theorem dX5_mark_221 : decode cX5_mark 221 = .ok (.iaload, 1) := by decide +kernel
theorem dX5_mark_222 : decode cX5_mark 222 = .ok (.aload_n 0, 1) := by decide +kernel
theorem dX5_mark_223 : decode cX5_mark 223 = .ok (.getfield 25, 3) := by decide +kernel
theorem dX5_mark_226 : decode cX5_mark 226 = .ok (.iconst 1, 1) := by decide +kernel
theorem dX5_mark_227 : decode cX5_mark 227 = .ok (.iaload, 1) := by decide +kernel
theorem dX5_mark_228 : decode cX5_mark 228 = .ok (.aload_n 0, 1) := by decide +kernel
theorem dX5_mark_229 : decode cX5_mark 229 = .ok (.getfield 25, 3) := by decide +kernel
theorem dX5_mark_232 : decode cX5_mark 232 = .ok (.iconst 2, 1) := by decide +kernel
theorem dX5_mark_233 : decode cX5_mark 233 = .ok (.iaload, 1) := by decide +kernel
theorem dX5_mark_234 : decode cX5_mark 234 = .ok (.iadd, 1) := by decide +kernel
theorem dX5_mark_235 : decode cX5_mark 235 = .ok (.iconst 2, 1) := by decide +kernel
theorem dX5_mark_236 : decode cX5_mark 236 = .ok (.idiv, 1) := by decide +kernel
theorem dX5_mark_237 : decode cX5_mark 237 = .ok (.invokestatic 156, 3) := by decide +kernel
theorem dX5_mark_240 : decode cX5_mark 240 = .ok (.ireturn, 1) := by decide +kernel
theorem dX5_coastHas_0 : decode cX5_coastHas 0 = .ok (.aload_n 0, 1) := by decide +kernel
theorem dX5_coastHas_1 : decode cX5_coastHas 1 = .ok (.getfield 25, 3) := by decide +kernel
theorem dX5_coastHas_4 : decode cX5_coastHas 4 = .ok (.iconst 1, 1) := by decide +kernel
theorem dX5_coastHas_5 : decode cX5_coastHas 5 = .ok (.iaload, 1) := by decide +kernel
theorem dX5_coastHas_6 : decode cX5_coastHas 6 = .ok (.istore_n 2, 1) := by decide +kernel
theorem dX5_coastHas_7 : decode cX5_coastHas 7 = .ok (.aload_n 0, 1) := by decide +kernel
theorem dX5_coastHas_8 : decode cX5_coastHas 8 = .ok (.getfield 25, 3) := by decide +kernel
theorem dX5_coastHas_11 : decode cX5_coastHas 11 = .ok (.iconst 2, 1) := by decide +kernel
theorem dX5_coastHas_12 : decode cX5_coastHas 12 = .ok (.iaload, 1) := by decide +kernel
theorem dX5_coastHas_13 : decode cX5_coastHas 13 = .ok (.istore_n 3, 1) := by decide +kernel
theorem dX5_coastHas_14 : decode cX5_coastHas 14 = .ok (.iload_n 1, 1) := by decide +kernel
theorem dX5_coastHas_15 : decode cX5_coastHas 15 = .ok (.tableswitch 61 0 4 #[33, 35, 37, 41, 50], 33) := by decide +kernel
theorem dX5_coastHas_48 : decode cX5_coastHas 48 = .ok (.iload_n 2, 1) := by decide +kernel
theorem dX5_coastHas_49 : decode cX5_coastHas 49 = .ok (.ireturn, 1) := by decide +kernel
theorem dX5_coastHas_50 : decode cX5_coastHas 50 = .ok (.iload_n 3, 1) := by decide +kernel
theorem dX5_coastHas_51 : decode cX5_coastHas 51 = .ok (.ireturn, 1) := by decide +kernel
theorem dX5_coastHas_52 : decode cX5_coastHas 52 = .ok (.iload_n 3, 1) := by decide +kernel
theorem dX5_coastHas_53 : decode cX5_coastHas 53 = .ok (.iload_n 2, 1) := by decide +kernel
theorem dX5_coastHas_54 : decode cX5_coastHas 54 = .ok (.isub, 1) := by decide +kernel
theorem dX5_coastHas_55 : decode cX5_coastHas 55 = .ok (.ireturn, 1) := by decide +kernel
theorem dX5_coastHas_56 : decode cX5_coastHas 56 = .ok (.aload_n 0, 1) := by decide +kernel
theorem dX5_coastHas_57 : decode cX5_coastHas 57 = .ok (.aload_n 0, 1) := by decide +kernel
theorem dX5_coastHas_58 : decode cX5_coastHas 58 = .ok (.invokevirtual 165, 3) := by decide +kernel
theorem dX5_coastHas_61 : decode cX5_coastHas 61 = .ok (.invokevirtual 169, 3) := by decide +kernel
theorem dX5_coastHas_64 : decode cX5_coastHas 64 = .ok (.ireturn, 1) := by decide +kernel
theorem dX5_coastHas_65 : decode cX5_coastHas 65 = .ok (.aload_n 0, 1) := by decide +kernel
theorem dX5_coastHas_66 : decode cX5_coastHas 66 = .ok (.iconst 0, 1) := by decide +kernel
theorem dX5_coastHas_67 : decode cX5_coastHas 67 = .ok (.iload_n 2, 1) := by decide +kernel
theorem dX5_coastHas_68 : decode cX5_coastHas 68 = .ok (.iconst 1, 1) := by decide +kernel
theorem dX5_coastHas_69 : decode cX5_coastHas 69 = .ok (.isub, 1) := by decide +kernel
theorem dX5_coastHas_70 : decode cX5_coastHas 70 = .ok (.iload_n 2, 1) := by decide +kernel
theorem dX5_coastHas_71 : decode cX5_coastHas 71 = .ok (.iload_n 3, 1) := by decide +kernel
theorem dX5_coastHas_72 : decode cX5_coastHas 72 = .ok (.invokevirtual 172, 3) := by decide +kernel
theorem dX5_coastHas_75 : decode cX5_coastHas 75 = .ok (.ireturn, 1) := by decide +kernel
theorem dX5_coastHas_76 : decode cX5_coastHas 76 = .ok (.aload_n 0, 1) := by decide +kernel
theorem dX5_coastHas_77 : decode cX5_coastHas 77 = .ok (.iload_n 3, 1) := by decide +kernel
theorem dX5_coastHas_78 : decode cX5_coastHas 78 = .ok (.aload_n 0, 1) := by decide +kernel
theorem dX5_coastHas_79 : decode cX5_coastHas 79 = .ok (.getfield 25, 3) := by decide +kernel
theorem dX5_coastHas_82 : decode cX5_coastHas 82 = .ok (.iconst 0, 1) := by decide +kernel
theorem dX5_coastHas_83 : decode cX5_coastHas 83 = .ok (.iaload, 1) := by decide +kernel
theorem dX5_coastHas_84 : decode cX5_coastHas 84 = .ok (.iconst 1, 1) := by decide +kernel
theorem dX5_coastHas_85 : decode cX5_coastHas 85 = .ok (.isub, 1) := by decide +kernel
theorem dX5_coastHas_86 : decode cX5_coastHas 86 = .ok (.iload_n 2, 1) := by decide +kernel
theorem dX5_coastHas_87 : decode cX5_coastHas 87 = .ok (.iload_n 3, 1) := by decide +kernel
theorem dX5_coastHas_88 : decode cX5_coastHas 88 = .ok (.invokevirtual 172, 3) := by decide +kernel
theorem dX5_coastHas_91 : decode cX5_coastHas 91 = .ok (.ireturn, 1) := by decide +kernel
theorem dX5_coast_0 : decode cX5_coast 0 = .ok (.iload_n 1, 1) := by decide +kernel
theorem dX5_coast_1 : decode cX5_coast 1 = .ok (.iconst 0, 1) := by decide +kernel
theorem dX5_coast_2 : decode cX5_coast 2 = .ok (.iconst 5, 1) := by decide +kernel
theorem dX5_coast_3 : decode cX5_coast 3 = .ok (.invokestatic 73, 3) := by decide +kernel
theorem dX5_coast_6 : decode cX5_coast 6 = .ok (.ifCond .ne 5, 3) := by decide +kernel
theorem dX5_coast_9 : decode cX5_coast 9 = .ok (.iconst (-1), 1) := by decide +kernel
theorem dX5_coast_10 : decode cX5_coast 10 = .ok (.ireturn, 1) := by decide +kernel
theorem dX5_coast_11 : decode cX5_coast 11 = .ok (.aload_n 0, 1) := by decide +kernel
theorem dX5_coast_12 : decode cX5_coast 12 = .ok (.invokevirtual 176, 3) := by decide +kernel
theorem dX5_coast_15 : decode cX5_coast 15 = .ok (.ifCond .eq 11, 3) := by decide +kernel
theorem dX5_coast_18 : decode cX5_coast 18 = .ok (.aload_n 0, 1) := by decide +kernel
theorem dX5_coast_19 : decode cX5_coast 19 = .ok (.iload_n 1, 1) := by decide +kernel
theorem dX5_coast_20 : decode cX5_coast 20 = .ok (.invokevirtual 180, 3) := by decide +kernel
theorem dX5_coast_23 : decode cX5_coast 23 = .ok (.goto 5, 3) := by decide +kernel
theorem dX5_coast_26 : decode cX5_coast 26 = .ok (.bipush (-4), 2) := by decide +kernel
theorem dX5_coast_28 : decode cX5_coast 28 = .ok (.ireturn, 1) := by decide +kernel
theorem dX5_notes_0 : decode cX5_notes 0 = .ok (.bipush 40, 2) := by decide +kernel
theorem dX5_notes_2 : decode cX5_notes 2 = .ok (.bipush 9, 2) := by decide +kernel
theorem dX5_notes_4 : decode cX5_notes 4 = .ok (.aload_n 0, 1) := by decide +kernel
theorem dX5_notes_5 : decode cX5_notes 5 = .ok (.getfield 25, 3) := by decide +kernel
theorem dX5_notes_8 : decode cX5_notes 8 = .ok (.bipush 9, 2) := by decide +kernel
theorem dX5_notes_10 : decode cX5_notes 10 = .ok (.iaload, 1) := by decide +kernel
theorem dX5_notes_11 : decode cX5_notes 11 = .ok (.imul, 1) := by decide +kernel
theorem dX5_notes_12 : decode cX5_notes 12 = .ok (.iadd, 1) := by decide +kernel
theorem dX5_notes_13 : decode cX5_notes 13 = .ok (.istore_n 1, 1) := by decide +kernel
theorem dX5_notes_14 : decode cX5_notes 14 = .ok (.aload_n 0, 1) := by decide +kernel
theorem dX5_notes_15 : decode cX5_notes 15 = .ok (.getfield 25, 3) := by decide +kernel
theorem dX5_notes_18 : decode cX5_notes 18 = .ok (.iload_n 1, 1) := by decide +kernel
theorem dX5_notes_19 : decode cX5_notes 19 = .ok (.aload_n 0, 1) := by decide +kernel
theorem dX5_notes_20 : decode cX5_notes 20 = .ok (.getfield 25, 3) := by decide +kernel
theorem dX5_notes_23 : decode cX5_notes 23 = .ok (.iconst 1, 1) := by decide +kernel
theorem dX5_notes_24 : decode cX5_notes 24 = .ok (.iaload, 1) := by decide +kernel
theorem dX5_notes_25 : decode cX5_notes 25 = .ok (.iastore, 1) := by decide +kernel
theorem dX5_notes_26 : decode cX5_notes 26 = .ok (.aload_n 0, 1) := by decide +kernel
theorem dX5_notes_27 : decode cX5_notes 27 = .ok (.getfield 25, 3) := by decide +kernel
theorem dX5_notes_30 : decode cX5_notes 30 = .ok (.iload_n 1, 1) := by decide +kernel
theorem dX5_notes_31 : decode cX5_notes 31 = .ok (.iconst 1, 1) := by decide +kernel
theorem dX5_notes_32 : decode cX5_notes 32 = .ok (.iadd, 1) := by decide +kernel
theorem dX5_notes_33 : decode cX5_notes 33 = .ok (.aload_n 0, 1) := by decide +kernel
theorem dX5_notes_34 : decode cX5_notes 34 = .ok (.getfield 25, 3) := by decide +kernel
theorem dX5_notes_37 : decode cX5_notes 37 = .ok (.iconst 2, 1) := by decide +kernel
theorem dX5_notes_38 : decode cX5_notes 38 = .ok (.iaload, 1) := by decide +kernel
theorem dX5_notes_39 : decode cX5_notes 39 = .ok (.iastore, 1) := by decide +kernel
theorem dX5_notes_40 : decode cX5_notes 40 = .ok (.aload_n 0, 1) := by decide +kernel
theorem dX5_notes_41 : decode cX5_notes 41 = .ok (.getfield 25, 3) := by decide +kernel
theorem dX5_notes_44 : decode cX5_notes 44 = .ok (.iload_n 1, 1) := by decide +kernel
theorem dX5_notes_45 : decode cX5_notes 45 = .ok (.iconst 2, 1) := by decide +kernel
theorem dX5_notes_46 : decode cX5_notes 46 = .ok (.iadd, 1) := by decide +kernel
theorem dX5_notes_47 : decode cX5_notes 47 = .ok (.aload_n 0, 1) := by decide +kernel
theorem dX5_notes_48 : decode cX5_notes 48 = .ok (.getfield 25, 3) := by decide +kernel
theorem dX5_notes_51 : decode cX5_notes 51 = .ok (.bipush 8, 2) := by decide +kernel
theorem dX5_notes_53 : decode cX5_notes 53 = .ok (.iaload, 1) := by decide +kernel
theorem dX5_notes_54 : decode cX5_notes 54 = .ok (.iastore, 1) := by decide +kernel
theorem dX5_notes_55 : decode cX5_notes 55 = .ok (.iconst 0, 1) := by decide +kernel
theorem dX5_notes_56 : decode cX5_notes 56 = .ok (.istore_n 2, 1) := by decide +kernel
theorem dX5_notes_57 : decode cX5_notes 57 = .ok (.iload_n 2, 1) := by decide +kernel
theorem dX5_notes_58 : decode cX5_notes 58 = .ok (.bipush 6, 2) := by decide +kernel
theorem dX5_notes_60 : decode cX5_notes 60 = .ok (.if_icmp .ge 32, 3) := by decide +kernel
theorem dX5_notes_63 : decode cX5_notes 63 = .ok (.aload_n 0, 1) := by decide +kernel
theorem dX5_notes_64 : decode cX5_notes 64 = .ok (.getfield 25, 3) := by decide +kernel
theorem dX5_notes_67 : decode cX5_notes 67 = .ok (.iload_n 1, 1) := by decide +kernel
theorem dX5_notes_68 : decode cX5_notes 68 = .ok (.iconst 3, 1) := by decide +kernel
theorem dX5_notes_69 : decode cX5_notes 69 = .ok (.iadd, 1) := by decide +kernel
theorem dX5_notes_70 : decode cX5_notes 70 = .ok (.iload_n 2, 1) := by decide +kernel
theorem dX5_notes_71 : decode cX5_notes 71 = .ok (.iadd, 1) := by decide +kernel
theorem dX5_notes_72 : decode cX5_notes 72 = .ok (.aload_n 0, 1) := by decide +kernel
theorem dX5_notes_73 : decode cX5_notes 73 = .ok (.getfield 25, 3) := by decide +kernel
theorem dX5_notes_76 : decode cX5_notes 76 = .ok (.bipush 10, 2) := by decide +kernel
theorem dX5_notes_78 : decode cX5_notes 78 = .ok (.iconst 5, 1) := by decide +kernel
theorem dX5_notes_79 : decode cX5_notes 79 = .ok (.iload_n 2, 1) := by decide +kernel
theorem dX5_notes_80 : decode cX5_notes 80 = .ok (.imul, 1) := by decide +kernel
theorem dX5_notes_81 : decode cX5_notes 81 = .ok (.iadd, 1) := by decide +kernel
theorem dX5_notes_82 : decode cX5_notes 82 = .ok (.iconst 1, 1) := by decide +kernel
theorem dX5_notes_83 : decode cX5_notes 83 = .ok (.iadd, 1) := by decide +kernel
theorem dX5_notes_84 : decode cX5_notes 84 = .ok (.iaload, 1) := by decide +kernel
theorem dX5_notes_85 : decode cX5_notes 85 = .ok (.iastore, 1) := by decide +kernel
theorem dX5_notes_86 : decode cX5_notes 86 = .ok (.iinc 2 1, 3) := by decide +kernel
theorem dX5_notes_89 : decode cX5_notes 89 = .ok (.goto (-32), 3) := by decide +kernel
theorem dX5_notes_92 : decode cX5_notes 92 = .ok (.aload_n 0, 1) := by decide +kernel
theorem dX5_notes_93 : decode cX5_notes 93 = .ok (.getfield 25, 3) := by decide +kernel
theorem dX5_notes_96 : decode cX5_notes 96 = .ok (.bipush 9, 2) := by decide +kernel
theorem dX5_notes_98 : decode cX5_notes 98 = .ok (.dup2, 1) := by decide +kernel
theorem dX5_notes_99 : decode cX5_notes 99 = .ok (.iaload, 1) := by decide +kernel
theorem dX5_notes_100 : decode cX5_notes 100 = .ok (.iconst 1, 1) := by decide +kernel
theorem dX5_notes_101 : decode cX5_notes 101 = .ok (.iadd, 1) := by decide +kernel
theorem dX5_notes_102 : decode cX5_notes 102 = .ok (.iastore, 1) := by decide +kernel
theorem dX5_notes_103 : decode cX5_notes 103 = .ok (.return_, 1) := by decide +kernel
theorem dX5_later_0 : decode cX5_later 0 = .ok (.aload_n 0, 1) := by decide +kernel
theorem dX5_later_1 : decode cX5_later 1 = .ok (.aload_n 0, 1) := by decide +kernel
theorem dX5_later_2 : decode cX5_later 2 = .ok (.iload_n 1, 1) := by decide +kernel
theorem dX5_later_3 : decode cX5_later 3 = .ok (.iload_n 2, 1) := by decide +kernel
theorem dX5_later_4 : decode cX5_later 4 = .ok (.invokevirtual 140, 3) := by decide +kernel
theorem dX5_later_7 : decode cX5_later 7 = .ok (.invokevirtual 169, 3) := by decide +kernel
theorem dX5_later_10 : decode cX5_later 10 = .ok (.istore_n 3, 1) := by decide +kernel
theorem dX5_later_11 : decode cX5_later 11 = .ok (.iload_n 3, 1) := by decide +kernel
theorem dX5_later_12 : decode cX5_later 12 = .ok (.aload_n 0, 1) := by decide +kernel
theorem dX5_later_13 : decode cX5_later 13 = .ok (.iconst 0, 1) := by decide +kernel
theorem dX5_later_14 : decode cX5_later 14 = .ok (.iload_n 1, 1) := by decide +kernel
theorem dX5_later_15 : decode cX5_later 15 = .ok (.iconst 1, 1) := by decide +kernel
theorem dX5_later_16 : decode cX5_later 16 = .ok (.isub, 1) := by decide +kernel
theorem dX5_later_17 : decode cX5_later 17 = .ok (.iload_n 1, 1) := by decide +kernel
theorem dX5_later_18 : decode cX5_later 18 = .ok (.iload_n 2, 1) := by decide +kernel
theorem dX5_later_19 : decode cX5_later 19 = .ok (.invokevirtual 172, 3) := by decide +kernel
theorem dX5_later_22 : decode cX5_later 22 = .ok (.if_icmp .le 7, 3) := by decide +kernel
theorem dX5_later_25 : decode cX5_later 25 = .ok (.iconst 1, 1) := by decide +kernel
theorem dX5_later_26 : decode cX5_later 26 = .ok (.goto 4, 3) := by decide +kernel
theorem dX5_later_29 : decode cX5_later 29 = .ok (.iconst 0, 1) := by decide +kernel
theorem dX5_later_30 : decode cX5_later 30 = .ok (.istore 4, 2) := by decide +kernel
theorem dX5_later_32 : decode cX5_later 32 = .ok (.iload_n 3, 1) := by decide +kernel
theorem dX5_later_33 : decode cX5_later 33 = .ok (.aload_n 0, 1) := by decide +kernel
theorem dX5_later_34 : decode cX5_later 34 = .ok (.iload_n 2, 1) := by decide +kernel
theorem dX5_later_35 : decode cX5_later 35 = .ok (.aload_n 0, 1) := by decide +kernel
theorem dX5_later_36 : decode cX5_later 36 = .ok (.getfield 25, 3) := by decide +kernel
theorem dX5_later_39 : decode cX5_later 39 = .ok (.iconst 0, 1) := by decide +kernel
theorem dX5_later_40 : decode cX5_later 40 = .ok (.iaload, 1) := by decide +kernel
theorem dX5_later_41 : decode cX5_later 41 = .ok (.iconst 1, 1) := by decide +kernel
theorem dX5_later_42 : decode cX5_later 42 = .ok (.isub, 1) := by decide +kernel
theorem dX5_later_43 : decode cX5_later 43 = .ok (.iload_n 1, 1) := by decide +kernel
theorem dX5_later_44 : decode cX5_later 44 = .ok (.iload_n 2, 1) := by decide +kernel
theorem dX5_later_45 : decode cX5_later 45 = .ok (.invokevirtual 172, 3) := by decide +kernel
theorem dX5_later_48 : decode cX5_later 48 = .ok (.if_icmp .le 7, 3) := by decide +kernel
theorem dX5_later_51 : decode cX5_later 51 = .ok (.iconst 1, 1) := by decide +kernel
theorem dX5_later_52 : decode cX5_later 52 = .ok (.goto 4, 3) := by decide +kernel
theorem dX5_later_55 : decode cX5_later 55 = .ok (.iconst 0, 1) := by decide +kernel
theorem dX5_later_56 : decode cX5_later 56 = .ok (.istore 5, 2) := by decide +kernel
theorem dX5_later_58 : decode cX5_later 58 = .ok (.iload_n 2, 1) := by decide +kernel
theorem dX5_later_59 : decode cX5_later 59 = .ok (.iload_n 1, 1) := by decide +kernel
theorem dX5_later_60 : decode cX5_later 60 = .ok (.isub, 1) := by decide +kernel
theorem dX5_later_61 : decode cX5_later 61 = .ok (.istore 6, 2) := by decide +kernel
theorem dX5_later_63 : decode cX5_later 63 = .ok (.iload 4, 2) := by decide +kernel
theorem dX5_later_65 : decode cX5_later 65 = .ok (.ifCond .eq 17, 3) := by decide +kernel
theorem dX5_later_68 : decode cX5_later 68 = .ok (.iload_n 1, 1) := by decide +kernel
theorem dX5_later_69 : decode cX5_later 69 = .ok (.ifCond .le 9, 3) := by decide +kernel
theorem dX5_later_72 : decode cX5_later 72 = .ok (.iload_n 1, 1) := by decide +kernel
theorem dX5_later_73 : decode cX5_later 73 = .ok (.iconst 1, 1) := by decide +kernel
theorem dX5_later_74 : decode cX5_later 74 = .ok (.isub, 1) := by decide +kernel
theorem dX5_later_75 : decode cX5_later 75 = .ok (.goto 19, 3) := by decide +kernel
theorem dX5_later_78 : decode cX5_later 78 = .ok (.iload_n 1, 1) := by decide +kernel
theorem dX5_later_79 : decode cX5_later 79 = .ok (.goto 15, 3) := by decide +kernel
theorem dX5_later_82 : decode cX5_later 82 = .ok (.iload 6, 2) := by decide +kernel
theorem dX5_later_84 : decode cX5_later 84 = .ok (.ifCond .le 9, 3) := by decide +kernel
theorem dX5_later_87 : decode cX5_later 87 = .ok (.iload_n 1, 1) := by decide +kernel
theorem dX5_later_88 : decode cX5_later 88 = .ok (.iconst 1, 1) := by decide +kernel
theorem dX5_later_89 : decode cX5_later 89 = .ok (.iadd, 1) := by decide +kernel
theorem dX5_later_90 : decode cX5_later 90 = .ok (.goto 4, 3) := by decide +kernel
theorem dX5_later_93 : decode cX5_later 93 = .ok (.iload_n 1, 1) := by decide +kernel
theorem dX5_later_94 : decode cX5_later 94 = .ok (.istore 7, 2) := by decide +kernel
theorem dX5_later_96 : decode cX5_later 96 = .ok (.iload 5, 2) := by decide +kernel
theorem dX5_later_98 : decode cX5_later 98 = .ok (.ifCond .eq 23, 3) := by decide +kernel
theorem dX5_later_101 : decode cX5_later 101 = .ok (.iload_n 2, 1) := by decide +kernel
theorem dX5_later_102 : decode cX5_later 102 = .ok (.aload_n 0, 1) := by decide +kernel
theorem dX5_later_103 : decode cX5_later 103 = .ok (.getfield 25, 3) := by decide +kernel
theorem dX5_later_106 : decode cX5_later 106 = .ok (.iconst 0, 1) := by decide +kernel
theorem dX5_later_107 : decode cX5_later 107 = .ok (.iaload, 1) := by decide +kernel
theorem dX5_later_108 : decode cX5_later 108 = .ok (.if_icmp .ge 9, 3) := by decide +kernel
theorem dX5_later_111 : decode cX5_later 111 = .ok (.iload_n 2, 1) := by decide +kernel
theorem dX5_later_112 : decode cX5_later 112 = .ok (.iconst 1, 1) := by decide +kernel
theorem dX5_later_113 : decode cX5_later 113 = .ok (.iadd, 1) := by decide +kernel
theorem dX5_later_114 : decode cX5_later 114 = .ok (.goto 19, 3) := by decide +kernel
theorem dX5_later_117 : decode cX5_later 117 = .ok (.iload_n 2, 1) := by decide +kernel
theorem dX5_later_118 : decode cX5_later 118 = .ok (.goto 15, 3) := by decide +kernel
theorem dX5_later_121 : decode cX5_later 121 = .ok (.iload 6, 2) := by decide +kernel
theorem dX5_later_123 : decode cX5_later 123 = .ok (.ifCond .le 9, 3) := by decide +kernel
theorem dX5_later_126 : decode cX5_later 126 = .ok (.iload_n 2, 1) := by decide +kernel
theorem dX5_later_127 : decode cX5_later 127 = .ok (.iconst 1, 1) := by decide +kernel
theorem dX5_later_128 : decode cX5_later 128 = .ok (.isub, 1) := by decide +kernel
theorem dX5_later_129 : decode cX5_later 129 = .ok (.goto 4, 3) := by decide +kernel
theorem dX5_later_132 : decode cX5_later 132 = .ok (.iload_n 2, 1) := by decide +kernel
theorem dX5_later_133 : decode cX5_later 133 = .ok (.istore 8, 2) := by decide +kernel
theorem dX5_later_135 : decode cX5_later 135 = .ok (.iload 6, 2) := by decide +kernel
theorem dX5_later_137 : decode cX5_later 137 = .ok (.iconst 1, 1) := by decide +kernel
theorem dX5_later_138 : decode cX5_later 138 = .ok (.if_icmp .ne 17, 3) := by decide +kernel
theorem dX5_later_141 : decode cX5_later 141 = .ok (.iload 4, 2) := by decide +kernel
theorem dX5_later_143 : decode cX5_later 143 = .ok (.ifCond .ne 12, 3) := by decide +kernel
theorem dX5_later_146 : decode cX5_later 146 = .ok (.iload 5, 2) := by decide +kernel
theorem dX5_later_148 : decode cX5_later 148 = .ok (.ifCond .ne 7, 3) := by decide +kernel
theorem dX5_later_151 : decode cX5_later 151 = .ok (.iload_n 2, 1) := by decide +kernel
theorem dX5_later_152 : decode cX5_later 152 = .ok (.goto 5, 3) := by decide +kernel
theorem dX5_later_155 : decode cX5_later 155 = .ok (.iload 8, 2) := by decide +kernel
theorem dX5_later_157 : decode cX5_later 157 = .ok (.istore 8, 2) := by decide +kernel
theorem dX5_later_159 : decode cX5_later 159 = .ok (.bipush 10, 2) := by decide +kernel
theorem dX5_later_161 : decode cX5_later 161 = .ok (.iload 7, 2) := by decide +kernel
theorem dX5_later_163 : decode cX5_later 163 = .ok (.imul, 1) := by decide +kernel
theorem dX5_later_164 : decode cX5_later 164 = .ok (.iload 8, 2) := by decide +kernel
theorem dX5_later_166 : decode cX5_later 166 = .ok (.iadd, 1) := by decide +kernel
theorem dX5_later_167 : decode cX5_later 167 = .ok (.ireturn, 1) := by decide +kernel
theorem dX5_ages_0 : decode cX5_ages 0 = .ok (.aload_n 0, 1) := by decide +kernel
theorem dX5_ages_1 : decode cX5_ages 1 = .ok (.aload_n 0, 1) := by decide +kernel
theorem dX5_ages_2 : decode cX5_ages 2 = .ok (.getfield 25, 3) := by decide +kernel
theorem dX5_ages_5 : decode cX5_ages 5 = .ok (.iconst 1, 1) := by decide +kernel
theorem dX5_ages_6 : decode cX5_ages 6 = .ok (.iaload, 1) := by decide +kernel
theorem dX5_ages_7 : decode cX5_ages 7 = .ok (.aload_n 0, 1) := by decide +kernel
theorem dX5_ages_8 : decode cX5_ages 8 = .ok (.getfield 25, 3) := by decide +kernel
theorem dX5_ages_11 : decode cX5_ages 11 = .ok (.iconst 2, 1) := by decide +kernel
end
section
theorem dX5_ages_12 : decode cX5_ages 12 = .ok (.iaload, 1) := by decide +kernel
theorem dX5_ages_13 : decode cX5_ages 13 = .ok (.invokevirtual 183, 3) := by decide +kernel
theorem dX5_ages_16 : decode cX5_ages 16 = .ok (.istore_n 1, 1) := by decide +kernel
theorem dX5_ages_17 : decode cX5_ages 17 = .ok (.aload_n 0, 1) := by decide +kernel
theorem dX5_ages_18 : decode cX5_ages 18 = .ok (.getfield 25, 3) := by decide +kernel
theorem dX5_ages_21 : decode cX5_ages 21 = .ok (.iconst 1, 1) := by decide +kernel
theorem dX5_ages_22 : decode cX5_ages 22 = .ok (.iload_n 1, 1) := by decide +kernel
theorem dX5_ages_23 : decode cX5_ages 23 = .ok (.bipush 10, 2) := by decide +kernel
theorem dX5_ages_25 : decode cX5_ages 25 = .ok (.idiv, 1) := by decide +kernel
theorem dX5_ages_26 : decode cX5_ages 26 = .ok (.iastore, 1) := by decide +kernel
theorem dX5_ages_27 : decode cX5_ages 27 = .ok (.aload_n 0, 1) := by decide +kernel
theorem dX5_ages_28 : decode cX5_ages 28 = .ok (.getfield 25, 3) := by decide +kernel
theorem dX5_ages_31 : decode cX5_ages 31 = .ok (.iconst 2, 1) := by decide +kernel
theorem dX5_ages_32 : decode cX5_ages 32 = .ok (.iload_n 1, 1) := by decide +kernel
theorem dX5_ages_33 : decode cX5_ages 33 = .ok (.bipush 10, 2) := by decide +kernel
theorem dX5_ages_35 : decode cX5_ages 35 = .ok (.irem, 1) := by decide +kernel
theorem dX5_ages_36 : decode cX5_ages 36 = .ok (.iastore, 1) := by decide +kernel
theorem dX5_ages_37 : decode cX5_ages 37 = .ok (.aload_n 0, 1) := by decide +kernel
theorem dX5_ages_38 : decode cX5_ages 38 = .ok (.getfield 25, 3) := by decide +kernel
theorem dX5_ages_41 : decode cX5_ages 41 = .ok (.bipush 8, 2) := by decide +kernel
theorem dX5_ages_43 : decode cX5_ages 43 = .ok (.dup2, 1) := by decide +kernel
theorem dX5_ages_44 : decode cX5_ages 44 = .ok (.iaload, 1) := by decide +kernel
theorem dX5_ages_45 : decode cX5_ages 45 = .ok (.iconst 1, 1) := by decide +kernel
theorem dX5_ages_46 : decode cX5_ages 46 = .ok (.iadd, 1) := by decide +kernel
theorem dX5_ages_47 : decode cX5_ages 47 = .ok (.iastore, 1) := by decide +kernel
theorem dX5_ages_48 : decode cX5_ages 48 = .ok (.return_, 1) := by decide +kernel
theorem dX5_year_0 : decode cX5_year 0 = .ok (.aload_n 0, 1) := by decide +kernel
theorem dX5_year_1 : decode cX5_year 1 = .ok (.invokevirtual 176, 3) := by decide +kernel
theorem dX5_year_4 : decode cX5_year 4 = .ok (.ifCond .ne 6, 3) := by decide +kernel
theorem dX5_year_7 : decode cX5_year 7 = .ok (.bipush (-4), 2) := by decide +kernel
theorem dX5_year_9 : decode cX5_year 9 = .ok (.ireturn, 1) := by decide +kernel
theorem dX5_year_10 : decode cX5_year 10 = .ok (.aload_n 0, 1) := by decide +kernel
theorem dX5_year_11 : decode cX5_year 11 = .ok (.getfield 25, 3) := by decide +kernel
theorem dX5_year_14 : decode cX5_year 14 = .ok (.bipush 9, 2) := by decide +kernel
theorem dX5_year_16 : decode cX5_year 16 = .ok (.iaload, 1) := by decide +kernel
theorem dX5_year_17 : decode cX5_year 17 = .ok (.bipush 40, 2) := by decide +kernel
theorem dX5_year_19 : decode cX5_year 19 = .ok (.if_icmp .ne 6, 3) := by decide +kernel
theorem dX5_year_22 : decode cX5_year 22 = .ok (.bipush (-2), 2) := by decide +kernel
theorem dX5_year_24 : decode cX5_year 24 = .ok (.ireturn, 1) := by decide +kernel
theorem dX5_year_25 : decode cX5_year 25 = .ok (.aload_n 0, 1) := by decide +kernel
theorem dX5_year_26 : decode cX5_year 26 = .ok (.invokevirtual 186, 3) := by decide +kernel
theorem dX5_year_29 : decode cX5_year 29 = .ok (.aload_n 0, 1) := by decide +kernel
theorem dX5_year_30 : decode cX5_year 30 = .ok (.invokevirtual 189, 3) := by decide +kernel
theorem dX5_year_33 : decode cX5_year 33 = .ok (.aload_n 0, 1) := by decide +kernel
theorem dX5_year_34 : decode cX5_year 34 = .ok (.getfield 25, 3) := by decide +kernel
theorem dX5_year_37 : decode cX5_year 37 = .ok (.iconst 2, 1) := by decide +kernel
theorem dX5_year_38 : decode cX5_year 38 = .ok (.iaload, 1) := by decide +kernel
theorem dX5_year_39 : decode cX5_year 39 = .ok (.aload_n 0, 1) := by decide +kernel
theorem dX5_year_40 : decode cX5_year 40 = .ok (.getfield 25, 3) := by decide +kernel
theorem dX5_year_43 : decode cX5_year 43 = .ok (.iconst 1, 1) := by decide +kernel
theorem dX5_year_44 : decode cX5_year 44 = .ok (.iaload, 1) := by decide +kernel
theorem dX5_year_45 : decode cX5_year 45 = .ok (.isub, 1) := by decide +kernel
theorem dX5_year_46 : decode cX5_year 46 = .ok (.ireturn, 1) := by decide +kernel
theorem dX5_step_0 : decode cX5_step 0 = .ok (.iload_n 1, 1) := by decide +kernel
theorem dX5_step_1 : decode cX5_step 1 = .ok (.iconst 0, 1) := by decide +kernel
theorem dX5_step_2 : decode cX5_step 2 = .ok (.iconst 1, 1) := by decide +kernel
theorem dX5_step_3 : decode cX5_step 3 = .ok (.invokestatic 73, 3) := by decide +kernel
theorem dX5_step_6 : decode cX5_step 6 = .ok (.ifCond .eq 13, 3) := by decide +kernel
theorem dX5_step_9 : decode cX5_step 9 = .ok (.iload_n 2, 1) := by decide +kernel
theorem dX5_step_10 : decode cX5_step 10 = .ok (.iconst 1, 1) := by decide +kernel
theorem dX5_step_11 : decode cX5_step 11 = .ok (.if_icmp .eq 10, 3) := by decide +kernel
theorem dX5_step_14 : decode cX5_step 14 = .ok (.iload_n 2, 1) := by decide +kernel
theorem dX5_step_15 : decode cX5_step 15 = .ok (.iconst (-1), 1) := by decide +kernel
theorem dX5_step_16 : decode cX5_step 16 = .ok (.if_icmp .eq 5, 3) := by decide +kernel
theorem dX5_step_19 : decode cX5_step 19 = .ok (.iconst (-1), 1) := by decide +kernel
theorem dX5_step_20 : decode cX5_step 20 = .ok (.ireturn, 1) := by decide +kernel
theorem dX5_step_21 : decode cX5_step 21 = .ok (.aload_n 0, 1) := by decide +kernel
theorem dX5_step_22 : decode cX5_step 22 = .ok (.getfield 25, 3) := by decide +kernel
theorem dX5_step_25 : decode cX5_step 25 = .ok (.iconst 1, 1) := by decide +kernel
theorem dX5_step_26 : decode cX5_step 26 = .ok (.iaload, 1) := by decide +kernel
theorem dX5_step_27 : decode cX5_step 27 = .ok (.iload_n 1, 1) := by decide +kernel
theorem dX5_step_28 : decode cX5_step 28 = .ok (.ifCond .ne 7, 3) := by decide +kernel
theorem dX5_step_31 : decode cX5_step 31 = .ok (.iload_n 2, 1) := by decide +kernel
theorem dX5_step_32 : decode cX5_step 32 = .ok (.goto 4, 3) := by decide +kernel
theorem dX5_step_35 : decode cX5_step 35 = .ok (.iconst 0, 1) := by decide +kernel
theorem dX5_step_36 : decode cX5_step 36 = .ok (.isub, 1) := by decide +kernel
theorem dX5_step_37 : decode cX5_step 37 = .ok (.istore_n 3, 1) := by decide +kernel
theorem dX5_step_38 : decode cX5_step 38 = .ok (.aload_n 0, 1) := by decide +kernel
theorem dX5_step_39 : decode cX5_step 39 = .ok (.getfield 25, 3) := by decide +kernel
theorem dX5_step_42 : decode cX5_step 42 = .ok (.iconst 2, 1) := by decide +kernel
theorem dX5_step_43 : decode cX5_step 43 = .ok (.iaload, 1) := by decide +kernel
theorem dX5_step_44 : decode cX5_step 44 = .ok (.iload_n 1, 1) := by decide +kernel
theorem dX5_step_45 : decode cX5_step 45 = .ok (.iconst 1, 1) := by decide +kernel
theorem dX5_step_46 : decode cX5_step 46 = .ok (.if_icmp .ne 7, 3) := by decide +kernel
theorem dX5_step_49 : decode cX5_step 49 = .ok (.iload_n 2, 1) := by decide +kernel
theorem dX5_step_50 : decode cX5_step 50 = .ok (.goto 4, 3) := by decide +kernel
theorem dX5_step_53 : decode cX5_step 53 = .ok (.iconst 0, 1) := by decide +kernel
theorem dX5_step_54 : decode cX5_step 54 = .ok (.iadd, 1) := by decide +kernel
theorem dX5_step_55 : decode cX5_step 55 = .ok (.istore 4, 2) := by decide +kernel
theorem dX5_step_57 : decode cX5_step 57 = .ok (.aload_n 0, 1) := by decide +kernel
theorem dX5_step_58 : decode cX5_step 58 = .ok (.invokevirtual 176, 3) := by decide +kernel
theorem dX5_step_61 : decode cX5_step 61 = .ok (.ifCond .eq 13, 3) := by decide +kernel
theorem dX5_step_64 : decode cX5_step 64 = .ok (.aload_n 0, 1) := by decide +kernel
theorem dX5_step_65 : decode cX5_step 65 = .ok (.iload_n 3, 1) := by decide +kernel
theorem dX5_step_66 : decode cX5_step 66 = .ok (.iload 4, 2) := by decide +kernel
theorem dX5_step_68 : decode cX5_step 68 = .ok (.invokevirtual 192, 3) := by decide +kernel
theorem dX5_step_71 : decode cX5_step 71 = .ok (.ifCond .ne 6, 3) := by decide +kernel
theorem dX5_step_74 : decode cX5_step 74 = .ok (.bipush (-4), 2) := by decide +kernel
theorem dX5_step_76 : decode cX5_step 76 = .ok (.ireturn, 1) := by decide +kernel
theorem dX5_step_77 : decode cX5_step 77 = .ok (.aload_n 0, 1) := by decide +kernel
theorem dX5_step_78 : decode cX5_step 78 = .ok (.getfield 25, 3) := by decide +kernel
theorem dX5_step_81 : decode cX5_step 81 = .ok (.bipush 9, 2) := by decide +kernel
theorem dX5_step_83 : decode cX5_step 83 = .ok (.iaload, 1) := by decide +kernel
theorem dX5_step_84 : decode cX5_step 84 = .ok (.bipush 40, 2) := by decide +kernel
theorem dX5_step_86 : decode cX5_step 86 = .ok (.if_icmp .ne 6, 3) := by decide +kernel
theorem dX5_step_89 : decode cX5_step 89 = .ok (.bipush (-2), 2) := by decide +kernel
theorem dX5_step_91 : decode cX5_step 91 = .ok (.ireturn, 1) := by decide +kernel
theorem dX5_step_92 : decode cX5_step 92 = .ok (.aload_n 0, 1) := by decide +kernel
theorem dX5_step_93 : decode cX5_step 93 = .ok (.invokevirtual 186, 3) := by decide +kernel
theorem dX5_step_96 : decode cX5_step 96 = .ok (.aload_n 0, 1) := by decide +kernel
theorem dX5_step_97 : decode cX5_step 97 = .ok (.getfield 25, 3) := by decide +kernel
theorem dX5_step_100 : decode cX5_step 100 = .ok (.iconst 1, 1) := by decide +kernel
theorem dX5_step_101 : decode cX5_step 101 = .ok (.iload_n 3, 1) := by decide +kernel
theorem dX5_step_102 : decode cX5_step 102 = .ok (.iastore, 1) := by decide +kernel
theorem dX5_step_103 : decode cX5_step 103 = .ok (.aload_n 0, 1) := by decide +kernel
theorem dX5_step_104 : decode cX5_step 104 = .ok (.getfield 25, 3) := by decide +kernel
theorem dX5_step_107 : decode cX5_step 107 = .ok (.iconst 2, 1) := by decide +kernel
theorem dX5_step_108 : decode cX5_step 108 = .ok (.iload 4, 2) := by decide +kernel
theorem dX5_step_110 : decode cX5_step 110 = .ok (.iastore, 1) := by decide +kernel
theorem dX5_step_111 : decode cX5_step 111 = .ok (.iload 4, 2) := by decide +kernel
theorem dX5_step_113 : decode cX5_step 113 = .ok (.iload_n 3, 1) := by decide +kernel
theorem dX5_step_114 : decode cX5_step 114 = .ok (.isub, 1) := by decide +kernel
theorem dX5_step_115 : decode cX5_step 115 = .ok (.ireturn, 1) := by decide +kernel
theorem dX5_walk_0 : decode cX5_walk 0 = .ok (.aload_n 0, 1) := by decide +kernel
theorem dX5_walk_1 : decode cX5_walk 1 = .ok (.iload_n 1, 1) := by decide +kernel
theorem dX5_walk_2 : decode cX5_walk 2 = .ok (.invokevirtual 150, 3) := by decide +kernel
theorem dX5_walk_5 : decode cX5_walk 5 = .ok (.ifCond .eq 11, 3) := by decide +kernel
theorem dX5_walk_8 : decode cX5_walk 8 = .ok (.aload_n 0, 1) := by decide +kernel
theorem dX5_walk_9 : decode cX5_walk 9 = .ok (.iload_n 2, 1) := by decide +kernel
theorem dX5_walk_10 : decode cX5_walk 10 = .ok (.invokevirtual 195, 3) := by decide +kernel
theorem dX5_walk_13 : decode cX5_walk 13 = .ok (.ifCond .ne 5, 3) := by decide +kernel
theorem dX5_walk_16 : decode cX5_walk 16 = .ok (.iconst (-1), 1) := by decide +kernel
theorem dX5_walk_17 : decode cX5_walk 17 = .ok (.ireturn, 1) := by decide +kernel
theorem dX5_walk_18 : decode cX5_walk 18 = .ok (.aload_n 0, 1) := by decide +kernel
theorem dX5_walk_19 : decode cX5_walk 19 = .ok (.getfield 25, 3) := by decide +kernel
theorem dX5_walk_22 : decode cX5_walk 22 = .ok (.bipush 10, 2) := by decide +kernel
theorem dX5_walk_24 : decode cX5_walk 24 = .ok (.iconst 5, 1) := by decide +kernel
theorem dX5_walk_25 : decode cX5_walk 25 = .ok (.iload_n 1, 1) := by decide +kernel
theorem dX5_walk_26 : decode cX5_walk 26 = .ok (.imul, 1) := by decide +kernel
theorem dX5_walk_27 : decode cX5_walk 27 = .ok (.iadd, 1) := by decide +kernel
theorem dX5_walk_28 : decode cX5_walk 28 = .ok (.iconst 1, 1) := by decide +kernel
theorem dX5_walk_29 : decode cX5_walk 29 = .ok (.iadd, 1) := by decide +kernel
theorem dX5_walk_30 : decode cX5_walk 30 = .ok (.iaload, 1) := by decide +kernel
theorem dX5_walk_31 : decode cX5_walk 31 = .ok (.iload_n 2, 1) := by decide +kernel
theorem dX5_walk_32 : decode cX5_walk 32 = .ok (.invokestatic 156, 3) := by decide +kernel
theorem dX5_walk_35 : decode cX5_walk 35 = .ok (.iconst 1, 1) := by decide +kernel
theorem dX5_walk_36 : decode cX5_walk 36 = .ok (.if_icmp .eq 6, 3) := by decide +kernel
theorem dX5_walk_39 : decode cX5_walk 39 = .ok (.bipush (-4), 2) := by decide +kernel
theorem dX5_walk_41 : decode cX5_walk 41 = .ok (.ireturn, 1) := by decide +kernel
theorem dX5_walk_42 : decode cX5_walk 42 = .ok (.aload_n 0, 1) := by decide +kernel
theorem dX5_walk_43 : decode cX5_walk 43 = .ok (.getfield 25, 3) := by decide +kernel
theorem dX5_walk_46 : decode cX5_walk 46 = .ok (.bipush 9, 2) := by decide +kernel
theorem dX5_walk_48 : decode cX5_walk 48 = .ok (.iaload, 1) := by decide +kernel
theorem dX5_walk_49 : decode cX5_walk 49 = .ok (.bipush 40, 2) := by decide +kernel
theorem dX5_walk_51 : decode cX5_walk 51 = .ok (.if_icmp .ne 6, 3) := by decide +kernel
theorem dX5_walk_54 : decode cX5_walk 54 = .ok (.bipush (-2), 2) := by decide +kernel
theorem dX5_walk_56 : decode cX5_walk 56 = .ok (.ireturn, 1) := by decide +kernel
theorem dX5_walk_57 : decode cX5_walk 57 = .ok (.aload_n 0, 1) := by decide +kernel
theorem dX5_walk_58 : decode cX5_walk 58 = .ok (.invokevirtual 186, 3) := by decide +kernel
theorem dX5_walk_61 : decode cX5_walk 61 = .ok (.aload_n 0, 1) := by decide +kernel
theorem dX5_walk_62 : decode cX5_walk 62 = .ok (.getfield 25, 3) := by decide +kernel
theorem dX5_walk_65 : decode cX5_walk 65 = .ok (.bipush 10, 2) := by decide +kernel
theorem dX5_walk_67 : decode cX5_walk 67 = .ok (.iconst 5, 1) := by decide +kernel
theorem dX5_walk_68 : decode cX5_walk 68 = .ok (.iload_n 1, 1) := by decide +kernel
theorem dX5_walk_69 : decode cX5_walk 69 = .ok (.imul, 1) := by decide +kernel
theorem dX5_walk_70 : decode cX5_walk 70 = .ok (.iadd, 1) := by decide +kernel
theorem dX5_walk_71 : decode cX5_walk 71 = .ok (.iconst 1, 1) := by decide +kernel
theorem dX5_walk_72 : decode cX5_walk 72 = .ok (.iadd, 1) := by decide +kernel
theorem dX5_walk_73 : decode cX5_walk 73 = .ok (.iload_n 2, 1) := by decide +kernel
theorem dX5_walk_74 : decode cX5_walk 74 = .ok (.iastore, 1) := by decide +kernel
theorem dX5_walk_75 : decode cX5_walk 75 = .ok (.aload_n 0, 1) := by decide +kernel
theorem dX5_walk_76 : decode cX5_walk 76 = .ok (.iload_n 1, 1) := by decide +kernel
theorem dX5_walk_77 : decode cX5_walk 77 = .ok (.iconst 5, 1) := by decide +kernel
theorem dX5_walk_78 : decode cX5_walk 78 = .ok (.invokevirtual 153, 3) := by decide +kernel
theorem dX5_walk_81 : decode cX5_walk 81 = .ok (.ireturn, 1) := by decide +kernel
theorem dX5_undo_0 : decode cX5_undo 0 = .ok (.iload_n 1, 1) := by decide +kernel
theorem dX5_undo_1 : decode cX5_undo 1 = .ok (.iconst 0, 1) := by decide +kernel
theorem dX5_undo_2 : decode cX5_undo 2 = .ok (.aload_n 0, 1) := by decide +kernel
theorem dX5_undo_3 : decode cX5_undo 3 = .ok (.getfield 25, 3) := by decide +kernel
theorem dX5_undo_6 : decode cX5_undo 6 = .ok (.bipush 9, 2) := by decide +kernel
theorem dX5_undo_8 : decode cX5_undo 8 = .ok (.iaload, 1) := by decide +kernel
theorem dX5_undo_9 : decode cX5_undo 9 = .ok (.invokestatic 73, 3) := by decide +kernel
theorem dX5_undo_12 : decode cX5_undo 12 = .ok (.ifCond .ne 5, 3) := by decide +kernel
theorem dX5_undo_15 : decode cX5_undo 15 = .ok (.iconst (-1), 1) := by decide +kernel
theorem dX5_undo_16 : decode cX5_undo 16 = .ok (.ireturn, 1) := by decide +kernel
theorem dX5_undo_17 : decode cX5_undo 17 = .ok (.aload_n 0, 1) := by decide +kernel
theorem dX5_undo_18 : decode cX5_undo 18 = .ok (.getfield 25, 3) := by decide +kernel
theorem dX5_undo_21 : decode cX5_undo 21 = .ok (.bipush 9, 2) := by decide +kernel
theorem dX5_undo_23 : decode cX5_undo 23 = .ok (.iaload, 1) := by decide +kernel
theorem dX5_undo_24 : decode cX5_undo 24 = .ok (.iload_n 1, 1) := by decide +kernel
theorem dX5_undo_25 : decode cX5_undo 25 = .ok (.isub, 1) := by decide +kernel
theorem dX5_undo_26 : decode cX5_undo 26 = .ok (.istore_n 2, 1) := by decide +kernel
theorem dX5_undo_27 : decode cX5_undo 27 = .ok (.iload_n 2, 1) := by decide +kernel
theorem dX5_undo_28 : decode cX5_undo 28 = .ok (.ifCond .le 101, 3) := by decide +kernel
theorem dX5_undo_31 : decode cX5_undo 31 = .ok (.bipush 40, 2) := by decide +kernel
theorem dX5_undo_33 : decode cX5_undo 33 = .ok (.bipush 9, 2) := by decide +kernel
theorem dX5_undo_35 : decode cX5_undo 35 = .ok (.iload_n 1, 1) := by decide +kernel
theorem dX5_undo_36 : decode cX5_undo 36 = .ok (.imul, 1) := by decide +kernel
theorem dX5_undo_37 : decode cX5_undo 37 = .ok (.iadd, 1) := by decide +kernel
theorem dX5_undo_38 : decode cX5_undo 38 = .ok (.istore_n 3, 1) := by decide +kernel
theorem dX5_undo_39 : decode cX5_undo 39 = .ok (.aload_n 0, 1) := by decide +kernel
theorem dX5_undo_40 : decode cX5_undo 40 = .ok (.getfield 25, 3) := by decide +kernel
theorem dX5_undo_43 : decode cX5_undo 43 = .ok (.iconst 1, 1) := by decide +kernel
theorem dX5_undo_44 : decode cX5_undo 44 = .ok (.aload_n 0, 1) := by decide +kernel
theorem dX5_undo_45 : decode cX5_undo 45 = .ok (.getfield 25, 3) := by decide +kernel
theorem dX5_undo_48 : decode cX5_undo 48 = .ok (.iload_n 3, 1) := by decide +kernel
theorem dX5_undo_49 : decode cX5_undo 49 = .ok (.iaload, 1) := by decide +kernel
theorem dX5_undo_50 : decode cX5_undo 50 = .ok (.iastore, 1) := by decide +kernel
theorem dX5_undo_51 : decode cX5_undo 51 = .ok (.aload_n 0, 1) := by decide +kernel
theorem dX5_undo_52 : decode cX5_undo 52 = .ok (.getfield 25, 3) := by decide +kernel
theorem dX5_undo_55 : decode cX5_undo 55 = .ok (.iconst 2, 1) := by decide +kernel
theorem dX5_undo_56 : decode cX5_undo 56 = .ok (.aload_n 0, 1) := by decide +kernel
theorem dX5_undo_57 : decode cX5_undo 57 = .ok (.getfield 25, 3) := by decide +kernel
theorem dX5_undo_60 : decode cX5_undo 60 = .ok (.iload_n 3, 1) := by decide +kernel
theorem dX5_undo_61 : decode cX5_undo 61 = .ok (.iconst 1, 1) := by decide +kernel
theorem dX5_undo_62 : decode cX5_undo 62 = .ok (.iadd, 1) := by decide +kernel
theorem dX5_undo_63 : decode cX5_undo 63 = .ok (.iaload, 1) := by decide +kernel
theorem dX5_undo_64 : decode cX5_undo 64 = .ok (.iastore, 1) := by decide +kernel
theorem dX5_undo_65 : decode cX5_undo 65 = .ok (.aload_n 0, 1) := by decide +kernel
theorem dX5_undo_66 : decode cX5_undo 66 = .ok (.getfield 25, 3) := by decide +kernel
theorem dX5_undo_69 : decode cX5_undo 69 = .ok (.bipush 8, 2) := by decide +kernel
theorem dX5_undo_71 : decode cX5_undo 71 = .ok (.aload_n 0, 1) := by decide +kernel
theorem dX5_undo_72 : decode cX5_undo 72 = .ok (.getfield 25, 3) := by decide +kernel
theorem dX5_undo_75 : decode cX5_undo 75 = .ok (.iload_n 3, 1) := by decide +kernel
theorem dX5_undo_76 : decode cX5_undo 76 = .ok (.iconst 2, 1) := by decide +kernel
theorem dX5_undo_77 : decode cX5_undo 77 = .ok (.iadd, 1) := by decide +kernel
theorem dX5_undo_78 : decode cX5_undo 78 = .ok (.iaload, 1) := by decide +kernel
theorem dX5_undo_79 : decode cX5_undo 79 = .ok (.iastore, 1) := by decide +kernel
theorem dX5_undo_80 : decode cX5_undo 80 = .ok (.iconst 0, 1) := by decide +kernel
theorem dX5_undo_81 : decode cX5_undo 81 = .ok (.istore 4, 2) := by decide +kernel
theorem dX5_undo_83 : decode cX5_undo 83 = .ok (.iload 4, 2) := by decide +kernel
theorem dX5_undo_85 : decode cX5_undo 85 = .ok (.bipush 6, 2) := by decide +kernel
theorem dX5_undo_87 : decode cX5_undo 87 = .ok (.if_icmp .ge 34, 3) := by decide +kernel
theorem dX5_undo_90 : decode cX5_undo 90 = .ok (.aload_n 0, 1) := by decide +kernel
theorem dX5_undo_91 : decode cX5_undo 91 = .ok (.getfield 25, 3) := by decide +kernel
theorem dX5_undo_94 : decode cX5_undo 94 = .ok (.bipush 10, 2) := by decide +kernel
theorem dX5_undo_96 : decode cX5_undo 96 = .ok (.iconst 5, 1) := by decide +kernel
theorem dX5_undo_97 : decode cX5_undo 97 = .ok (.iload 4, 2) := by decide +kernel
theorem dX5_undo_99 : decode cX5_undo 99 = .ok (.imul, 1) := by decide +kernel
theorem dX5_undo_100 : decode cX5_undo 100 = .ok (.iadd, 1) := by decide +kernel
theorem dX5_undo_101 : decode cX5_undo 101 = .ok (.iconst 1, 1) := by decide +kernel
theorem dX5_undo_102 : decode cX5_undo 102 = .ok (.iadd, 1) := by decide +kernel
theorem dX5_undo_103 : decode cX5_undo 103 = .ok (.aload_n 0, 1) := by decide +kernel
theorem dX5_undo_104 : decode cX5_undo 104 = .ok (.getfield 25, 3) := by decide +kernel
theorem dX5_undo_107 : decode cX5_undo 107 = .ok (.iload_n 3, 1) := by decide +kernel
theorem dX5_undo_108 : decode cX5_undo 108 = .ok (.iconst 3, 1) := by decide +kernel
theorem dX5_undo_109 : decode cX5_undo 109 = .ok (.iadd, 1) := by decide +kernel
theorem dX5_undo_110 : decode cX5_undo 110 = .ok (.iload 4, 2) := by decide +kernel
theorem dX5_undo_112 : decode cX5_undo 112 = .ok (.iadd, 1) := by decide +kernel
theorem dX5_undo_113 : decode cX5_undo 113 = .ok (.iaload, 1) := by decide +kernel
theorem dX5_undo_114 : decode cX5_undo 114 = .ok (.iastore, 1) := by decide +kernel
theorem dX5_undo_115 : decode cX5_undo 115 = .ok (.iinc 4 1, 3) := by decide +kernel
theorem dX5_undo_118 : decode cX5_undo 118 = .ok (.goto (-35), 3) := by decide +kernel
theorem dX5_undo_121 : decode cX5_undo 121 = .ok (.aload_n 0, 1) := by decide +kernel
theorem dX5_undo_122 : decode cX5_undo 122 = .ok (.getfield 25, 3) := by decide +kernel
theorem dX5_undo_125 : decode cX5_undo 125 = .ok (.bipush 9, 2) := by decide +kernel
theorem dX5_undo_127 : decode cX5_undo 127 = .ok (.iload_n 1, 1) := by decide +kernel
theorem dX5_undo_128 : decode cX5_undo 128 = .ok (.iastore, 1) := by decide +kernel
theorem dX5_undo_129 : decode cX5_undo 129 = .ok (.iload_n 2, 1) := by decide +kernel
theorem dX5_undo_130 : decode cX5_undo 130 = .ok (.ireturn, 1) := by decide +kernel
theorem dX5_keep_0 : decode cX5_keep 0 = .ok (.iload_n 1, 1) := by decide +kernel
theorem dX5_keep_1 : decode cX5_keep 1 = .ok (.iconst 0, 1) := by decide +kernel
theorem dX5_keep_2 : decode cX5_keep 2 = .ok (.iconst 2, 1) := by decide +kernel
theorem dX5_keep_3 : decode cX5_keep 3 = .ok (.invokestatic 73, 3) := by decide +kernel
theorem dX5_keep_6 : decode cX5_keep 6 = .ok (.ifCond .ne 5, 3) := by decide +kernel
theorem dX5_keep_9 : decode cX5_keep 9 = .ok (.iconst (-1), 1) := by decide +kernel
theorem dX5_keep_10 : decode cX5_keep 10 = .ok (.ireturn, 1) := by decide +kernel
theorem dX5_keep_11 : decode cX5_keep 11 = .ok (.aload_n 0, 1) := by decide +kernel
theorem dX5_keep_12 : decode cX5_keep 12 = .ok (.invokevirtual 176, 3) := by decide +kernel
theorem dX5_keep_15 : decode cX5_keep 15 = .ok (.ifCond .ne 6, 3) := by decide +kernel
theorem dX5_keep_18 : decode cX5_keep 18 = .ok (.bipush (-4), 2) := by decide +kernel
theorem dX5_keep_20 : decode cX5_keep 20 = .ok (.ireturn, 1) := by decide +kernel
theorem dX5_keep_21 : decode cX5_keep 21 = .ok (.aload_n 0, 1) := by decide +kernel
theorem dX5_keep_22 : decode cX5_keep 22 = .ok (.getfield 25, 3) := by decide +kernel
theorem dX5_keep_25 : decode cX5_keep 25 = .ok (.iconst 0, 1) := by decide +kernel
theorem dX5_keep_26 : decode cX5_keep 26 = .ok (.aload_n 0, 1) := by decide +kernel
theorem dX5_keep_27 : decode cX5_keep 27 = .ok (.getfield 31, 3) := by decide +kernel
theorem dX5_keep_30 : decode cX5_keep 30 = .ok (.sipush 400, 3) := by decide +kernel
theorem dX5_keep_33 : decode cX5_keep 33 = .ok (.iload_n 1, 1) := by decide +kernel
theorem dX5_keep_34 : decode cX5_keep 34 = .ok (.imul, 1) := by decide +kernel
theorem dX5_keep_35 : decode cX5_keep 35 = .ok (.invokestatic 129, 3) := by decide +kernel
theorem dX5_keep_38 : decode cX5_keep 38 = .ok (.aload_n 0, 1) := by decide +kernel
theorem dX5_keep_39 : decode cX5_keep 39 = .ok (.getfield 34, 3) := by decide +kernel
theorem dX5_keep_42 : decode cX5_keep 42 = .ok (.iload_n 1, 1) := by decide +kernel
theorem dX5_keep_43 : decode cX5_keep 43 = .ok (.iconst 1, 1) := by decide +kernel
theorem dX5_keep_44 : decode cX5_keep 44 = .ok (.bastore, 1) := by decide +kernel
theorem dX5_keep_45 : decode cX5_keep 45 = .ok (.aload_n 0, 1) := by decide +kernel
theorem dX5_keep_46 : decode cX5_keep 46 = .ok (.getfield 25, 3) := by decide +kernel
theorem dX5_keep_49 : decode cX5_keep 49 = .ok (.bipush 9, 2) := by decide +kernel
theorem dX5_keep_51 : decode cX5_keep 51 = .ok (.iaload, 1) := by decide +kernel
theorem dX5_keep_52 : decode cX5_keep 52 = .ok (.ireturn, 1) := by decide +kernel
theorem dX5_on_0 : decode cX5_on 0 = .ok (.iload_n 1, 1) := by decide +kernel
theorem dX5_on_1 : decode cX5_on 1 = .ok (.iconst 0, 1) := by decide +kernel
theorem dX5_on_2 : decode cX5_on 2 = .ok (.iconst 2, 1) := by decide +kernel
theorem dX5_on_3 : decode cX5_on 3 = .ok (.invokestatic 73, 3) := by decide +kernel
theorem dX5_on_6 : decode cX5_on 6 = .ok (.ifCond .ne 5, 3) := by decide +kernel
theorem dX5_on_9 : decode cX5_on 9 = .ok (.iconst (-1), 1) := by decide +kernel
theorem dX5_on_10 : decode cX5_on 10 = .ok (.ireturn, 1) := by decide +kernel
theorem dX5_on_11 : decode cX5_on 11 = .ok (.aload_n 0, 1) := by decide +kernel
theorem dX5_on_12 : decode cX5_on 12 = .ok (.getfield 34, 3) := by decide +kernel
theorem dX5_on_15 : decode cX5_on 15 = .ok (.iload_n 1, 1) := by decide +kernel
theorem dX5_on_16 : decode cX5_on 16 = .ok (.baload, 1) := by decide +kernel
theorem dX5_on_17 : decode cX5_on 17 = .ok (.ifCond .ne 9, 3) := by decide +kernel
theorem dX5_on_20 : decode cX5_on 20 = .ok (.aload_n 0, 1) := by decide +kernel
theorem dX5_on_21 : decode cX5_on 21 = .ok (.iconst 1, 1) := by decide +kernel
theorem dX5_on_22 : decode cX5_on 22 = .ok (.invokevirtual 81, 3) := by decide +kernel
theorem dX5_on_25 : decode cX5_on 25 = .ok (.ireturn, 1) := by decide +kernel
theorem dX5_on_26 : decode cX5_on 26 = .ok (.aload_n 0, 1) := by decide +kernel
theorem dX5_on_27 : decode cX5_on 27 = .ok (.getfield 31, 3) := by decide +kernel
theorem dX5_on_30 : decode cX5_on 30 = .ok (.sipush 400, 3) := by decide +kernel
theorem dX5_on_33 : decode cX5_on 33 = .ok (.iload_n 1, 1) := by decide +kernel
theorem dX5_on_34 : decode cX5_on 34 = .ok (.imul, 1) := by decide +kernel
theorem dX5_on_35 : decode cX5_on 35 = .ok (.aload_n 0, 1) := by decide +kernel
theorem dX5_on_36 : decode cX5_on 36 = .ok (.getfield 25, 3) := by decide +kernel
theorem dX5_on_39 : decode cX5_on 39 = .ok (.iconst 0, 1) := by decide +kernel
theorem dX5_on_40 : decode cX5_on 40 = .ok (.invokestatic 129, 3) := by decide +kernel
theorem dX5_on_43 : decode cX5_on 43 = .ok (.aload_n 0, 1) := by decide +kernel
theorem dX5_on_44 : decode cX5_on 44 = .ok (.getfield 25, 3) := by decide +kernel
theorem dX5_on_47 : decode cX5_on 47 = .ok (.bipush 9, 2) := by decide +kernel
theorem dX5_on_49 : decode cX5_on 49 = .ok (.iaload, 1) := by decide +kernel
theorem dX5_on_50 : decode cX5_on 50 = .ok (.ireturn, 1) := by decide +kernel
theorem dX5_belong_0 : decode cX5_belong 0 = .ok (.aload_n 0, 1) := by decide +kernel
theorem dX5_belong_1 : decode cX5_belong 1 = .ok (.invokevirtual 165, 3) := by decide +kernel
theorem dX5_belong_4 : decode cX5_belong 4 = .ok (.ireturn, 1) := by decide +kernel
theorem dX5_laws_0 : decode cX5_laws 0 = .ok (.aload_n 0, 1) := by decide +kernel
theorem dX5_laws_1 : decode cX5_laws 1 = .ok (.invokevirtual 176, 3) := by decide +kernel
theorem dX5_laws_4 : decode cX5_laws 4 = .ok (.ifCond .ne 6, 3) := by decide +kernel
theorem dX5_laws_7 : decode cX5_laws 7 = .ok (.bipush (-4), 2) := by decide +kernel
theorem dX5_laws_9 : decode cX5_laws 9 = .ok (.ireturn, 1) := by decide +kernel
theorem dX5_laws_10 : decode cX5_laws 10 = .ok (.aload_n 0, 1) := by decide +kernel
theorem dX5_laws_11 : decode cX5_laws 11 = .ok (.invokevirtual 165, 3) := by decide +kernel
theorem dX5_laws_14 : decode cX5_laws 14 = .ok (.istore_n 1, 1) := by decide +kernel
theorem dX5_laws_15 : decode cX5_laws 15 = .ok (.bipush 7, 2) := by decide +kernel
theorem dX5_laws_17 : decode cX5_laws 17 = .ok (.aload_n 0, 1) := by decide +kernel
theorem dX5_laws_18 : decode cX5_laws 18 = .ok (.getfield 25, 3) := by decide +kernel
theorem dX5_laws_21 : decode cX5_laws 21 = .ok (.iconst 3, 1) := by decide +kernel
theorem dX5_laws_22 : decode cX5_laws 22 = .ok (.iaload, 1) := by decide +kernel
theorem dX5_laws_23 : decode cX5_laws 23 = .ok (.aload_n 0, 1) := by decide +kernel
theorem dX5_laws_24 : decode cX5_laws 24 = .ok (.getfield 25, 3) := by decide +kernel
theorem dX5_laws_27 : decode cX5_laws 27 = .ok (.iconst 4, 1) := by decide +kernel
theorem dX5_laws_28 : decode cX5_laws 28 = .ok (.iaload, 1) := by decide +kernel
theorem dX5_laws_29 : decode cX5_laws 29 = .ok (.ior, 1) := by decide +kernel
theorem dX5_laws_30 : decode cX5_laws 30 = .ok (.iconst (-1), 1) := by decide +kernel
theorem dX5_laws_31 : decode cX5_laws 31 = .ok (.ixor, 1) := by decide +kernel
theorem dX5_laws_32 : decode cX5_laws 32 = .ok (.iand, 1) := by decide +kernel
theorem dX5_laws_33 : decode cX5_laws 33 = .ok (.istore_n 2, 1) := by decide +kernel
theorem dX5_laws_34 : decode cX5_laws 34 = .ok (.iconst 0, 1) := by decide +kernel
theorem dX5_laws_35 : decode cX5_laws 35 = .ok (.istore_n 3, 1) := by decide +kernel
theorem dX5_laws_36 : decode cX5_laws 36 = .ok (.iconst 0, 1) := by decide +kernel
theorem dX5_laws_37 : decode cX5_laws 37 = .ok (.istore 4, 2) := by decide +kernel
theorem dX5_laws_39 : decode cX5_laws 39 = .ok (.iload 4, 2) := by decide +kernel
theorem dX5_laws_41 : decode cX5_laws 41 = .ok (.iconst 3, 1) := by decide +kernel
theorem dX5_laws_42 : decode cX5_laws 42 = .ok (.if_icmp .ge 111, 3) := by decide +kernel
theorem dX5_laws_45 : decode cX5_laws 45 = .ok (.iconst 0, 1) := by decide +kernel
theorem dX5_laws_46 : decode cX5_laws 46 = .ok (.istore 5, 2) := by decide +kernel
theorem dX5_laws_48 : decode cX5_laws 48 = .ok (.iconst 0, 1) := by decide +kernel
theorem dX5_laws_49 : decode cX5_laws 49 = .ok (.istore 6, 2) := by decide +kernel
theorem dX5_laws_51 : decode cX5_laws 51 = .ok (.iload 6, 2) := by decide +kernel
theorem dX5_laws_53 : decode cX5_laws 53 = .ok (.aload_n 0, 1) := by decide +kernel
theorem dX5_laws_54 : decode cX5_laws 54 = .ok (.getfield 25, 3) := by decide +kernel
theorem dX5_laws_57 : decode cX5_laws 57 = .ok (.bipush 7, 2) := by decide +kernel
theorem dX5_laws_59 : decode cX5_laws 59 = .ok (.iaload, 1) := by decide +kernel
theorem dX5_laws_60 : decode cX5_laws 60 = .ok (.if_icmp .ge 55, 3) := by decide +kernel
theorem dX5_laws_63 : decode cX5_laws 63 = .ok (.iload 5, 2) := by decide +kernel
theorem dX5_laws_65 : decode cX5_laws 65 = .ok (.iload_n 1, 1) := by decide +kernel
theorem dX5_laws_66 : decode cX5_laws 66 = .ok (.iload 6, 2) := by decide +kernel
theorem dX5_laws_68 : decode cX5_laws 68 = .ok (.invokestatic 143, 3) := by decide +kernel
theorem dX5_laws_71 : decode cX5_laws 71 = .ok (.ifCond .eq 34, 3) := by decide +kernel
theorem dX5_laws_74 : decode cX5_laws 74 = .ok (.aload_n 0, 1) := by decide +kernel
theorem dX5_laws_75 : decode cX5_laws 75 = .ok (.getfield 25, 3) := by decide +kernel
theorem dX5_laws_78 : decode cX5_laws 78 = .ok (.bipush 10, 2) := by decide +kernel
theorem dX5_laws_80 : decode cX5_laws 80 = .ok (.iconst 5, 1) := by decide +kernel
theorem dX5_laws_81 : decode cX5_laws 81 = .ok (.iload 6, 2) := by decide +kernel
theorem dX5_laws_83 : decode cX5_laws 83 = .ok (.imul, 1) := by decide +kernel
theorem dX5_laws_84 : decode cX5_laws 84 = .ok (.iadd, 1) := by decide +kernel
theorem dX5_laws_85 : decode cX5_laws 85 = .ok (.iconst 4, 1) := by decide +kernel
theorem dX5_laws_86 : decode cX5_laws 86 = .ok (.iadd, 1) := by decide +kernel
theorem dX5_laws_87 : decode cX5_laws 87 = .ok (.iaload, 1) := by decide +kernel
theorem dX5_laws_88 : decode cX5_laws 88 = .ok (.iload 4, 2) := by decide +kernel
theorem dX5_laws_90 : decode cX5_laws 90 = .ok (.invokestatic 143, 3) := by decide +kernel
theorem dX5_laws_93 : decode cX5_laws 93 = .ok (.ifCond .eq 12, 3) := by decide +kernel
theorem dX5_laws_96 : decode cX5_laws 96 = .ok (.aload_n 0, 1) := by decide +kernel
theorem dX5_laws_97 : decode cX5_laws 97 = .ok (.iload 6, 2) := by decide +kernel
theorem dX5_laws_99 : decode cX5_laws 99 = .ok (.invokevirtual 147, 3) := by decide +kernel
theorem dX5_laws_102 : decode cX5_laws 102 = .ok (.goto 4, 3) := by decide +kernel
theorem dX5_laws_105 : decode cX5_laws 105 = .ok (.iconst 0, 1) := by decide +kernel
theorem dX5_laws_106 : decode cX5_laws 106 = .ok (.iadd, 1) := by decide +kernel
theorem dX5_laws_107 : decode cX5_laws 107 = .ok (.istore 5, 2) := by decide +kernel
theorem dX5_laws_109 : decode cX5_laws 109 = .ok (.iinc 6 1, 3) := by decide +kernel
theorem dX5_laws_112 : decode cX5_laws 112 = .ok (.goto (-61), 3) := by decide +kernel
theorem dX5_laws_115 : decode cX5_laws 115 = .ok (.iload_n 3, 1) := by decide +kernel
theorem dX5_laws_116 : decode cX5_laws 116 = .ok (.iload_n 2, 1) := by decide +kernel
theorem dX5_laws_117 : decode cX5_laws 117 = .ok (.iload 4, 2) := by decide +kernel
theorem dX5_laws_119 : decode cX5_laws 119 = .ok (.invokestatic 143, 3) := by decide +kernel
theorem dX5_laws_122 : decode cX5_laws 122 = .ok (.ifCond .eq 22, 3) := by decide +kernel
theorem dX5_laws_125 : decode cX5_laws 125 = .ok (.iconst 2, 1) := by decide +kernel
theorem dX5_laws_126 : decode cX5_laws 126 = .ok (.iload 5, 2) := by decide +kernel
theorem dX5_laws_128 : decode cX5_laws 128 = .ok (.imul, 1) := by decide +kernel
theorem dX5_laws_129 : decode cX5_laws 129 = .ok (.aload_n 0, 1) := by decide +kernel
theorem dX5_laws_130 : decode cX5_laws 130 = .ok (.iload_n 1, 1) := by decide +kernel
theorem dX5_laws_131 : decode cX5_laws 131 = .ok (.invokevirtual 169, 3) := by decide +kernel
theorem dX5_laws_134 : decode cX5_laws 134 = .ok (.if_icmp .le 10, 3) := by decide +kernel
theorem dX5_laws_137 : decode cX5_laws 137 = .ok (.iconst 1, 1) := by decide +kernel
theorem dX5_laws_138 : decode cX5_laws 138 = .ok (.iload 4, 2) := by decide +kernel
theorem dX5_laws_140 : decode cX5_laws 140 = .ok (.ishl, 1) := by decide +kernel
theorem dX5_laws_141 : decode cX5_laws 141 = .ok (.goto 4, 3) := by decide +kernel
theorem dX5_laws_144 : decode cX5_laws 144 = .ok (.iconst 0, 1) := by decide +kernel
theorem dX5_laws_145 : decode cX5_laws 145 = .ok (.ior, 1) := by decide +kernel
theorem dX5_laws_146 : decode cX5_laws 146 = .ok (.istore_n 3, 1) := by decide +kernel
theorem dX5_laws_147 : decode cX5_laws 147 = .ok (.iinc 4 1, 3) := by decide +kernel
theorem dX5_laws_150 : decode cX5_laws 150 = .ok (.goto (-111), 3) := by decide +kernel
theorem dX5_laws_153 : decode cX5_laws 153 = .ok (.aload_n 0, 1) := by decide +kernel
theorem dX5_laws_154 : decode cX5_laws 154 = .ok (.iload_n 2, 1) := by decide +kernel
theorem dX5_laws_155 : decode cX5_laws 155 = .ok (.iload_n 3, 1) := by decide +kernel
theorem dX5_laws_156 : decode cX5_laws 156 = .ok (.invokevirtual 93, 3) := by decide +kernel
theorem dX5_laws_159 : decode cX5_laws 159 = .ok (.ireturn, 1) := by decide +kernel
theorem dX5_laysShares_0 : decode cX5_laysShares 0 = .ok (.aload_n 0, 1) := by decide +kernel
theorem dX5_laysShares_1 : decode cX5_laysShares 1 = .ok (.iload_n 1, 1) := by decide +kernel
theorem dX5_laysShares_2 : decode cX5_laysShares 2 = .ok (.aload_n 0, 1) := by decide +kernel
theorem dX5_laysShares_3 : decode cX5_laysShares 3 = .ok (.getfield 25, 3) := by decide +kernel
theorem dX5_laysShares_6 : decode cX5_laysShares 6 = .ok (.bipush 7, 2) := by decide +kernel
theorem dX5_laysShares_8 : decode cX5_laysShares 8 = .ok (.iaload, 1) := by decide +kernel
theorem dX5_laysShares_9 : decode cX5_laysShares 9 = .ok (.invokevirtual 85, 3) := by decide +kernel
theorem dX5_laysShares_12 : decode cX5_laysShares 12 = .ok (.iconst 0, 1) := by decide +kernel
theorem dX5_laysShares_13 : decode cX5_laysShares 13 = .ok (.istore_n 2, 1) := by decide +kernel
theorem dX5_laysShares_14 : decode cX5_laysShares 14 = .ok (.iload_n 2, 1) := by decide +kernel
theorem dX5_laysShares_15 : decode cX5_laysShares 15 = .ok (.aload_n 0, 1) := by decide +kernel
theorem dX5_laysShares_16 : decode cX5_laysShares 16 = .ok (.getfield 25, 3) := by decide +kernel
theorem dX5_laysShares_19 : decode cX5_laysShares 19 = .ok (.bipush 7, 2) := by decide +kernel
theorem dX5_laysShares_21 : decode cX5_laysShares 21 = .ok (.iaload, 1) := by decide +kernel
theorem dX5_laysShares_22 : decode cX5_laysShares 22 = .ok (.if_icmp .ge 26, 3) := by decide +kernel
theorem dX5_laysShares_25 : decode cX5_laysShares 25 = .ok (.aload_n 0, 1) := by decide +kernel
theorem dX5_laysShares_26 : decode cX5_laysShares 26 = .ok (.getfield 13, 3) := by decide +kernel
theorem dX5_laysShares_29 : decode cX5_laysShares 29 = .ok (.bipush 40, 2) := by decide +kernel
theorem dX5_laysShares_31 : decode cX5_laysShares 31 = .ok (.iload_n 1, 1) := by decide +kernel
theorem dX5_laysShares_32 : decode cX5_laysShares 32 = .ok (.imul, 1) := by decide +kernel
theorem dX5_laysShares_33 : decode cX5_laysShares 33 = .ok (.iload_n 2, 1) := by decide +kernel
theorem dX5_laysShares_34 : decode cX5_laysShares 34 = .ok (.iadd, 1) := by decide +kernel
theorem dX5_laysShares_35 : decode cX5_laysShares 35 = .ok (.aload_n 0, 1) := by decide +kernel
theorem dX5_laysShares_36 : decode cX5_laysShares 36 = .ok (.getfield 41, 3) := by decide +kernel
theorem dX5_laysShares_39 : decode cX5_laysShares 39 = .ok (.iload_n 2, 1) := by decide +kernel
theorem dX5_laysShares_40 : decode cX5_laysShares 40 = .ok (.iaload, 1) := by decide +kernel
theorem dX5_laysShares_41 : decode cX5_laysShares 41 = .ok (.iastore, 1) := by decide +kernel
theorem dX5_laysShares_42 : decode cX5_laysShares 42 = .ok (.iinc 2 1, 3) := by decide +kernel
theorem dX5_laysShares_45 : decode cX5_laysShares 45 = .ok (.goto (-31), 3) := by decide +kernel
theorem dX5_laysShares_48 : decode cX5_laysShares 48 = .ok (.return_, 1) := by decide +kernel
theorem dX5_seats_0 : decode cX5_seats 0 = .ok (.iload_n 1, 1) := by decide +kernel
theorem dX5_seats_1 : decode cX5_seats 1 = .ok (.iconst 0, 1) := by decide +kernel
theorem dX5_seats_2 : decode cX5_seats 2 = .ok (.bipush 20, 2) := by decide +kernel
theorem dX5_seats_4 : decode cX5_seats 4 = .ok (.invokestatic 73, 3) := by decide +kernel
theorem dX5_seats_7 : decode cX5_seats 7 = .ok (.ifCond .eq 10, 3) := by decide +kernel
theorem dX5_seats_10 : decode cX5_seats 10 = .ok (.iload_n 2, 1) := by decide +kernel
theorem dX5_seats_11 : decode cX5_seats 11 = .ok (.invokestatic 77, 3) := by decide +kernel
theorem dX5_seats_14 : decode cX5_seats 14 = .ok (.ifCond .ne 5, 3) := by decide +kernel
theorem dX5_seats_17 : decode cX5_seats 17 = .ok (.iconst (-1), 1) := by decide +kernel
theorem dX5_seats_18 : decode cX5_seats 18 = .ok (.ireturn, 1) := by decide +kernel
theorem dX5_seats_19 : decode cX5_seats 19 = .ok (.aload_n 0, 1) := by decide +kernel
theorem dX5_seats_20 : decode cX5_seats 20 = .ok (.invokevirtual 176, 3) := by decide +kernel
theorem dX5_seats_23 : decode cX5_seats 23 = .ok (.ifCond .ne 6, 3) := by decide +kernel
theorem dX5_seats_26 : decode cX5_seats 26 = .ok (.bipush (-4), 2) := by decide +kernel
theorem dX5_seats_28 : decode cX5_seats 28 = .ok (.ireturn, 1) := by decide +kernel
theorem dX5_seats_29 : decode cX5_seats 29 = .ok (.iconst 0, 1) := by decide +kernel
theorem dX5_seats_30 : decode cX5_seats 30 = .ok (.istore_n 3, 1) := by decide +kernel
theorem dX5_seats_31 : decode cX5_seats 31 = .ok (.iload_n 3, 1) := by decide +kernel
theorem dX5_seats_32 : decode cX5_seats 32 = .ok (.bipush 6, 2) := by decide +kernel
theorem dX5_seats_34 : decode cX5_seats 34 = .ok (.if_icmp .ge 16, 3) := by decide +kernel
theorem dX5_seats_37 : decode cX5_seats 37 = .ok (.aload_n 0, 1) := by decide +kernel
theorem dX5_seats_38 : decode cX5_seats 38 = .ok (.getfield 41, 3) := by decide +kernel
theorem dX5_seats_41 : decode cX5_seats 41 = .ok (.iload_n 3, 1) := by decide +kernel
theorem dX5_seats_42 : decode cX5_seats 42 = .ok (.iconst 0, 1) := by decide +kernel
theorem dX5_seats_43 : decode cX5_seats 43 = .ok (.iastore, 1) := by decide +kernel
theorem dX5_seats_44 : decode cX5_seats 44 = .ok (.iinc 3 1, 3) := by decide +kernel
theorem dX5_seats_47 : decode cX5_seats 47 = .ok (.goto (-16), 3) := by decide +kernel
theorem dX5_seats_50 : decode cX5_seats 50 = .ok (.aload_n 0, 1) := by decide +kernel
theorem dX5_seats_51 : decode cX5_seats 51 = .ok (.invokevirtual 165, 3) := by decide +kernel
theorem dX5_seats_54 : decode cX5_seats 54 = .ok (.istore_n 3, 1) := by decide +kernel
theorem dX5_seats_55 : decode cX5_seats 55 = .ok (.iconst 0, 1) := by decide +kernel
theorem dX5_seats_56 : decode cX5_seats 56 = .ok (.istore 4, 2) := by decide +kernel
theorem dX5_seats_58 : decode cX5_seats 58 = .ok (.iconst 0, 1) := by decide +kernel
theorem dX5_seats_59 : decode cX5_seats 59 = .ok (.istore 5, 2) := by decide +kernel
theorem dX5_seats_61 : decode cX5_seats 61 = .ok (.iload 5, 2) := by decide +kernel
theorem dX5_seats_63 : decode cX5_seats 63 = .ok (.iload_n 1, 1) := by decide +kernel
theorem dX5_seats_64 : decode cX5_seats 64 = .ok (.if_icmp .ge 148, 3) := by decide +kernel
theorem dX5_seats_67 : decode cX5_seats 67 = .ok (.bipush (-9), 2) := by decide +kernel
theorem dX5_seats_69 : decode cX5_seats 69 = .ok (.istore 6, 2) := by decide +kernel
theorem dX5_seats_71 : decode cX5_seats 71 = .ok (.iconst 0, 1) := by decide +kernel
theorem dX5_seats_72 : decode cX5_seats 72 = .ok (.istore 7, 2) := by decide +kernel
theorem dX5_seats_74 : decode cX5_seats 74 = .ok (.iload 7, 2) := by decide +kernel
theorem dX5_seats_76 : decode cX5_seats 76 = .ok (.aload_n 0, 1) := by decide +kernel
theorem dX5_seats_77 : decode cX5_seats 77 = .ok (.getfield 25, 3) := by decide +kernel
theorem dX5_seats_80 : decode cX5_seats 80 = .ok (.bipush 7, 2) := by decide +kernel
theorem dX5_seats_82 : decode cX5_seats 82 = .ok (.iaload, 1) := by decide +kernel
theorem dX5_seats_83 : decode cX5_seats 83 = .ok (.if_icmp .ge 102, 3) := by decide +kernel
theorem dX5_seats_86 : decode cX5_seats 86 = .ok (.iload_n 3, 1) := by decide +kernel
theorem dX5_seats_87 : decode cX5_seats 87 = .ok (.iload 7, 2) := by decide +kernel
theorem dX5_seats_89 : decode cX5_seats 89 = .ok (.invokestatic 143, 3) := by decide +kernel
theorem dX5_seats_92 : decode cX5_seats 92 = .ok (.ifCond .eq 16, 3) := by decide +kernel
theorem dX5_seats_95 : decode cX5_seats 95 = .ok (.aload_n 0, 1) := by decide +kernel
theorem dX5_seats_96 : decode cX5_seats 96 = .ok (.iload 7, 2) := by decide +kernel
theorem dX5_seats_98 : decode cX5_seats 98 = .ok (.invokevirtual 147, 3) := by decide +kernel
theorem dX5_seats_101 : decode cX5_seats 101 = .ok (.ifCond .le 7, 3) := by decide +kernel
theorem dX5_seats_104 : decode cX5_seats 104 = .ok (.iconst 1, 1) := by decide +kernel
theorem dX5_seats_105 : decode cX5_seats 105 = .ok (.goto 4, 3) := by decide +kernel
theorem dX5_seats_108 : decode cX5_seats 108 = .ok (.iconst 0, 1) := by decide +kernel
theorem dX5_seats_109 : decode cX5_seats 109 = .ok (.istore 8, 2) := by decide +kernel
theorem dX5_seats_111 : decode cX5_seats 111 = .ok (.iload 8, 2) := by decide +kernel
theorem dX5_seats_113 : decode cX5_seats 113 = .ok (.ifCond .eq 49, 3) := by decide +kernel
theorem dX5_seats_116 : decode cX5_seats 116 = .ok (.iload 6, 2) := by decide +kernel
theorem dX5_seats_118 : decode cX5_seats 118 = .ok (.bipush (-9), 2) := by decide +kernel
theorem dX5_seats_120 : decode cX5_seats 120 = .ok (.if_icmp .eq 38, 3) := by decide +kernel
theorem dX5_seats_123 : decode cX5_seats 123 = .ok (.aload_n 0, 1) := by decide +kernel
theorem dX5_seats_124 : decode cX5_seats 124 = .ok (.iload 7, 2) := by decide +kernel
theorem dX5_seats_126 : decode cX5_seats 126 = .ok (.invokevirtual 147, 3) := by decide +kernel
theorem dX5_seats_129 : decode cX5_seats 129 = .ok (.aload_n 0, 1) := by decide +kernel
theorem dX5_seats_130 : decode cX5_seats 130 = .ok (.getfield 41, 3) := by decide +kernel
theorem dX5_seats_133 : decode cX5_seats 133 = .ok (.iload 6, 2) := by decide +kernel
theorem dX5_seats_135 : decode cX5_seats 135 = .ok (.iaload, 1) := by decide +kernel
theorem dX5_seats_136 : decode cX5_seats 136 = .ok (.iconst 1, 1) := by decide +kernel
theorem dX5_seats_137 : decode cX5_seats 137 = .ok (.iadd, 1) := by decide +kernel
theorem dX5_seats_138 : decode cX5_seats 138 = .ok (.imul, 1) := by decide +kernel
theorem dX5_seats_139 : decode cX5_seats 139 = .ok (.aload_n 0, 1) := by decide +kernel
theorem dX5_seats_140 : decode cX5_seats 140 = .ok (.iload 6, 2) := by decide +kernel
theorem dX5_seats_142 : decode cX5_seats 142 = .ok (.invokevirtual 147, 3) := by decide +kernel
theorem dX5_seats_145 : decode cX5_seats 145 = .ok (.aload_n 0, 1) := by decide +kernel
theorem dX5_seats_146 : decode cX5_seats 146 = .ok (.getfield 41, 3) := by decide +kernel
theorem dX5_seats_149 : decode cX5_seats 149 = .ok (.iload 7, 2) := by decide +kernel
theorem dX5_seats_151 : decode cX5_seats 151 = .ok (.iaload, 1) := by decide +kernel
theorem dX5_seats_152 : decode cX5_seats 152 = .ok (.iconst 1, 1) := by decide +kernel
theorem dX5_seats_153 : decode cX5_seats 153 = .ok (.iadd, 1) := by decide +kernel
theorem dX5_seats_154 : decode cX5_seats 154 = .ok (.imul, 1) := by decide +kernel
theorem dX5_seats_155 : decode cX5_seats 155 = .ok (.if_icmp .le 7, 3) := by decide +kernel
theorem dX5_seats_158 : decode cX5_seats 158 = .ok (.iconst 1, 1) := by decide +kernel
theorem dX5_seats_159 : decode cX5_seats 159 = .ok (.goto 4, 3) := by decide +kernel
theorem dX5_seats_162 : decode cX5_seats 162 = .ok (.iconst 0, 1) := by decide +kernel
theorem dX5_seats_163 : decode cX5_seats 163 = .ok (.istore 9, 2) := by decide +kernel
theorem dX5_seats_165 : decode cX5_seats 165 = .ok (.iload 9, 2) := by decide +kernel
theorem dX5_seats_167 : decode cX5_seats 167 = .ok (.ifCond .eq 8, 3) := by decide +kernel
theorem dX5_seats_170 : decode cX5_seats 170 = .ok (.iload 7, 2) := by decide +kernel
theorem dX5_seats_172 : decode cX5_seats 172 = .ok (.goto 5, 3) := by decide +kernel
theorem dX5_seats_175 : decode cX5_seats 175 = .ok (.iload 6, 2) := by decide +kernel
theorem dX5_seats_177 : decode cX5_seats 177 = .ok (.istore 6, 2) := by decide +kernel
theorem dX5_seats_179 : decode cX5_seats 179 = .ok (.iinc 7 1, 3) := by decide +kernel
theorem dX5_seats_182 : decode cX5_seats 182 = .ok (.goto (-108), 3) := by decide +kernel
theorem dX5_seats_185 : decode cX5_seats 185 = .ok (.iload 6, 2) := by decide +kernel
theorem dX5_seats_187 : decode cX5_seats 187 = .ok (.bipush (-9), 2) := by decide +kernel
theorem dX5_seats_189 : decode cX5_seats 189 = .ok (.if_icmp .eq 17, 3) := by decide +kernel
theorem dX5_seats_192 : decode cX5_seats 192 = .ok (.aload_n 0, 1) := by decide +kernel
theorem dX5_seats_193 : decode cX5_seats 193 = .ok (.getfield 41, 3) := by decide +kernel
theorem dX5_seats_196 : decode cX5_seats 196 = .ok (.iload 6, 2) := by decide +kernel
theorem dX5_seats_198 : decode cX5_seats 198 = .ok (.dup2, 1) := by decide +kernel
theorem dX5_seats_199 : decode cX5_seats 199 = .ok (.iaload, 1) := by decide +kernel
theorem dX5_seats_200 : decode cX5_seats 200 = .ok (.iconst 1, 1) := by decide +kernel
theorem dX5_seats_201 : decode cX5_seats 201 = .ok (.iadd, 1) := by decide +kernel
theorem dX5_seats_202 : decode cX5_seats 202 = .ok (.iastore, 1) := by decide +kernel
theorem dX5_seats_203 : decode cX5_seats 203 = .ok (.iinc 4 1, 3) := by decide +kernel
theorem dX5_seats_206 : decode cX5_seats 206 = .ok (.iinc 5 1, 3) := by decide +kernel
theorem dX5_seats_209 : decode cX5_seats 209 = .ok (.goto (-148), 3) := by decide +kernel
theorem dX5_seats_212 : decode cX5_seats 212 = .ok (.aload_n 0, 1) := by decide +kernel
theorem dX5_seats_213 : decode cX5_seats 213 = .ok (.iload_n 2, 1) := by decide +kernel
theorem dX5_seats_214 : decode cX5_seats 214 = .ok (.invokevirtual 198, 3) := by decide +kernel
theorem dX5_seats_217 : decode cX5_seats 217 = .ok (.iload 4, 2) := by decide +kernel
theorem dX5_seats_219 : decode cX5_seats 219 = .ok (.ireturn, 1) := by decide +kernel
theorem dX5_fewest_0 : decode cX5_fewest 0 = .ok (.aload_n 0, 1) := by decide +kernel
theorem dX5_fewest_1 : decode cX5_fewest 1 = .ok (.invokevirtual 176, 3) := by decide +kernel
theorem dX5_fewest_4 : decode cX5_fewest 4 = .ok (.ifCond .ne 6, 3) := by decide +kernel
theorem dX5_fewest_7 : decode cX5_fewest 7 = .ok (.bipush (-4), 2) := by decide +kernel
theorem dX5_fewest_9 : decode cX5_fewest 9 = .ok (.ireturn, 1) := by decide +kernel
theorem dX5_fewest_10 : decode cX5_fewest 10 = .ok (.aload_n 0, 1) := by decide +kernel
theorem dX5_fewest_11 : decode cX5_fewest 11 = .ok (.invokevirtual 165, 3) := by decide +kernel
theorem dX5_fewest_14 : decode cX5_fewest 14 = .ok (.istore_n 1, 1) := by decide +kernel
theorem dX5_fewest_15 : decode cX5_fewest 15 = .ok (.aload_n 0, 1) := by decide +kernel
theorem dX5_fewest_16 : decode cX5_fewest 16 = .ok (.iload_n 1, 1) := by decide +kernel
theorem dX5_fewest_17 : decode cX5_fewest 17 = .ok (.invokevirtual 169, 3) := by decide +kernel
theorem dX5_fewest_20 : decode cX5_fewest 20 = .ok (.istore_n 2, 1) := by decide +kernel
theorem dX5_fewest_21 : decode cX5_fewest 21 = .ok (.bipush (-9), 2) := by decide +kernel
theorem dX5_fewest_23 : decode cX5_fewest 23 = .ok (.istore_n 3, 1) := by decide +kernel
theorem dX5_fewest_24 : decode cX5_fewest 24 = .ok (.iconst 0, 1) := by decide +kernel
theorem dX5_fewest_25 : decode cX5_fewest 25 = .ok (.istore 4, 2) := by decide +kernel
theorem dX5_fewest_27 : decode cX5_fewest 27 = .ok (.iload 4, 2) := by decide +kernel
theorem dX5_fewest_29 : decode cX5_fewest 29 = .ok (.iload_n 1, 1) := by decide +kernel
theorem dX5_fewest_30 : decode cX5_fewest 30 = .ok (.if_icmp .gt 67, 3) := by decide +kernel
theorem dX5_fewest_33 : decode cX5_fewest 33 = .ok (.iload 4, 2) := by decide +kernel
theorem dX5_fewest_35 : decode cX5_fewest 35 = .ok (.iload_n 1, 1) := by decide +kernel
theorem dX5_fewest_36 : decode cX5_fewest 36 = .ok (.iconst (-1), 1) := by decide +kernel
theorem dX5_fewest_37 : decode cX5_fewest 37 = .ok (.ixor, 1) := by decide +kernel
theorem dX5_fewest_38 : decode cX5_fewest 38 = .ok (.iand, 1) := by decide +kernel
theorem dX5_fewest_39 : decode cX5_fewest 39 = .ok (.ifCond .ne 37, 3) := by decide +kernel
theorem dX5_fewest_42 : decode cX5_fewest 42 = .ok (.iconst 2, 1) := by decide +kernel
theorem dX5_fewest_43 : decode cX5_fewest 43 = .ok (.aload_n 0, 1) := by decide +kernel
theorem dX5_fewest_44 : decode cX5_fewest 44 = .ok (.iload 4, 2) := by decide +kernel
theorem dX5_fewest_46 : decode cX5_fewest 46 = .ok (.invokevirtual 169, 3) := by decide +kernel
theorem dX5_fewest_49 : decode cX5_fewest 49 = .ok (.imul, 1) := by decide +kernel
theorem dX5_fewest_50 : decode cX5_fewest 50 = .ok (.iload_n 2, 1) := by decide +kernel
theorem dX5_fewest_51 : decode cX5_fewest 51 = .ok (.if_icmp .le 25, 3) := by decide +kernel
theorem dX5_fewest_54 : decode cX5_fewest 54 = .ok (.iload_n 3, 1) := by decide +kernel
theorem dX5_fewest_55 : decode cX5_fewest 55 = .ok (.bipush (-9), 2) := by decide +kernel
theorem dX5_fewest_57 : decode cX5_fewest 57 = .ok (.if_icmp .eq 15, 3) := by decide +kernel
theorem dX5_fewest_60 : decode cX5_fewest 60 = .ok (.iload 4, 2) := by decide +kernel
theorem dX5_fewest_62 : decode cX5_fewest 62 = .ok (.invokestatic 201, 3) := by decide +kernel
theorem dX5_fewest_65 : decode cX5_fewest 65 = .ok (.iload_n 3, 1) := by decide +kernel
theorem dX5_fewest_66 : decode cX5_fewest 66 = .ok (.invokestatic 201, 3) := by decide +kernel
theorem dX5_fewest_69 : decode cX5_fewest 69 = .ok (.if_icmp .ge 7, 3) := by decide +kernel
theorem dX5_fewest_72 : decode cX5_fewest 72 = .ok (.iconst 1, 1) := by decide +kernel
theorem dX5_fewest_73 : decode cX5_fewest 73 = .ok (.goto 4, 3) := by decide +kernel
theorem dX5_fewest_76 : decode cX5_fewest 76 = .ok (.iconst 0, 1) := by decide +kernel
theorem dX5_fewest_77 : decode cX5_fewest 77 = .ok (.istore 5, 2) := by decide +kernel
theorem dX5_fewest_79 : decode cX5_fewest 79 = .ok (.iload 5, 2) := by decide +kernel
theorem dX5_fewest_81 : decode cX5_fewest 81 = .ok (.ifCond .eq 8, 3) := by decide +kernel
theorem dX5_fewest_84 : decode cX5_fewest 84 = .ok (.iload 4, 2) := by decide +kernel
theorem dX5_fewest_86 : decode cX5_fewest 86 = .ok (.goto 4, 3) := by decide +kernel
theorem dX5_fewest_89 : decode cX5_fewest 89 = .ok (.iload_n 3, 1) := by decide +kernel
theorem dX5_fewest_90 : decode cX5_fewest 90 = .ok (.istore_n 3, 1) := by decide +kernel
theorem dX5_fewest_91 : decode cX5_fewest 91 = .ok (.iinc 4 1, 3) := by decide +kernel
theorem dX5_fewest_94 : decode cX5_fewest 94 = .ok (.goto (-67), 3) := by decide +kernel
theorem dX5_fewest_97 : decode cX5_fewest 97 = .ok (.iload_n 3, 1) := by decide +kernel
theorem dX5_fewest_98 : decode cX5_fewest 98 = .ok (.bipush (-9), 2) := by decide +kernel
theorem dX5_fewest_100 : decode cX5_fewest 100 = .ok (.if_icmp .ne 8, 3) := by decide +kernel
theorem dX5_fewest_103 : decode cX5_fewest 103 = .ok (.bipush (-9), 2) := by decide +kernel
theorem dX5_fewest_105 : decode cX5_fewest 105 = .ok (.goto 12, 3) := by decide +kernel
theorem dX5_fewest_108 : decode cX5_fewest 108 = .ok (.aload_n 0, 1) := by decide +kernel
theorem dX5_fewest_109 : decode cX5_fewest 109 = .ok (.iload_n 3, 1) := by decide +kernel
theorem dX5_fewest_110 : decode cX5_fewest 110 = .ok (.invokestatic 201, 3) := by decide +kernel
theorem dX5_fewest_113 : decode cX5_fewest 113 = .ok (.iload_n 3, 1) := by decide +kernel
theorem dX5_fewest_114 : decode cX5_fewest 114 = .ok (.invokevirtual 93, 3) := by decide +kernel
theorem dX5_fewest_117 : decode cX5_fewest 117 = .ok (.ireturn, 1) := by decide +kernel
theorem dX5_coastsIn_0 : decode cX5_coastsIn 0 = .ok (.bipush 10, 2) := by decide +kernel
theorem dX5_coastsIn_2 : decode cX5_coastsIn 2 = .ok (.aload_n 0, 1) := by decide +kernel
theorem dX5_coastsIn_3 : decode cX5_coastsIn 3 = .ok (.getfield 25, 3) := by decide +kernel
theorem dX5_coastsIn_6 : decode cX5_coastsIn 6 = .ok (.iconst 1, 1) := by decide +kernel
theorem dX5_coastsIn_7 : decode cX5_coastsIn 7 = .ok (.iaload, 1) := by decide +kernel
theorem dX5_coastsIn_8 : decode cX5_coastsIn 8 = .ok (.imul, 1) := by decide +kernel
theorem dX5_coastsIn_9 : decode cX5_coastsIn 9 = .ok (.aload_n 0, 1) := by decide +kernel
theorem dX5_coastsIn_10 : decode cX5_coastsIn 10 = .ok (.getfield 25, 3) := by decide +kernel
theorem dX5_coastsIn_13 : decode cX5_coastsIn 13 = .ok (.iconst 2, 1) := by decide +kernel
theorem dX5_coastsIn_14 : decode cX5_coastsIn 14 = .ok (.iaload, 1) := by decide +kernel
theorem dX5_coastsIn_15 : decode cX5_coastsIn 15 = .ok (.iadd, 1) := by decide +kernel
theorem dX5_coastsIn_16 : decode cX5_coastsIn 16 = .ok (.istore_n 2, 1) := by decide +kernel
theorem dX5_coastsIn_17 : decode cX5_coastsIn 17 = .ok (.iconst 0, 1) := by decide +kernel
theorem dX5_coastsIn_18 : decode cX5_coastsIn 18 = .ok (.istore_n 3, 1) := by decide +kernel
theorem dX5_coastsIn_19 : decode cX5_coastsIn 19 = .ok (.iload_n 3, 1) := by decide +kernel
theorem dX5_coastsIn_20 : decode cX5_coastsIn 20 = .ok (.iload_n 1, 1) := by decide +kernel
theorem dX5_coastsIn_21 : decode cX5_coastsIn 21 = .ok (.if_icmp .ge 22, 3) := by decide +kernel
theorem dX5_coastsIn_24 : decode cX5_coastsIn 24 = .ok (.aload_n 0, 1) := by decide +kernel
theorem dX5_coastsIn_25 : decode cX5_coastsIn 25 = .ok (.iload_n 2, 1) := by decide +kernel
theorem dX5_coastsIn_26 : decode cX5_coastsIn 26 = .ok (.bipush 10, 2) := by decide +kernel
theorem dX5_coastsIn_28 : decode cX5_coastsIn 28 = .ok (.idiv, 1) := by decide +kernel
theorem dX5_coastsIn_29 : decode cX5_coastsIn 29 = .ok (.iload_n 2, 1) := by decide +kernel
theorem dX5_coastsIn_30 : decode cX5_coastsIn 30 = .ok (.bipush 10, 2) := by decide +kernel
theorem dX5_coastsIn_32 : decode cX5_coastsIn 32 = .ok (.irem, 1) := by decide +kernel
theorem dX5_coastsIn_33 : decode cX5_coastsIn 33 = .ok (.invokevirtual 183, 3) := by decide +kernel
theorem dX5_coastsIn_36 : decode cX5_coastsIn 36 = .ok (.istore_n 2, 1) := by decide +kernel
theorem dX5_coastsIn_37 : decode cX5_coastsIn 37 = .ok (.iinc 3 1, 3) := by decide +kernel
theorem dX5_coastsIn_40 : decode cX5_coastsIn 40 = .ok (.goto (-21), 3) := by decide +kernel
theorem dX5_coastsIn_43 : decode cX5_coastsIn 43 = .ok (.iload_n 2, 1) := by decide +kernel
theorem dX5_coastsIn_44 : decode cX5_coastsIn 44 = .ok (.ireturn, 1) := by decide +kernel
theorem dX5_then_0 : decode cX5_then 0 = .ok (.iload_n 1, 1) := by decide +kernel
theorem dX5_then_1 : decode cX5_then 1 = .ok (.iconst 0, 1) := by decide +kernel
theorem dX5_then_2 : decode cX5_then 2 = .ok (.bipush 30, 2) := by decide +kernel
theorem dX5_then_4 : decode cX5_then 4 = .ok (.invokestatic 73, 3) := by decide +kernel
theorem dX5_then_7 : decode cX5_then 7 = .ok (.ifCond .ne 5, 3) := by decide +kernel
theorem dX5_then_10 : decode cX5_then 10 = .ok (.iconst (-1), 1) := by decide +kernel
theorem dX5_then_11 : decode cX5_then 11 = .ok (.ireturn, 1) := by decide +kernel
theorem dX5_then_12 : decode cX5_then 12 = .ok (.aload_n 0, 1) := by decide +kernel
theorem dX5_then_13 : decode cX5_then 13 = .ok (.invokevirtual 176, 3) := by decide +kernel
theorem dX5_then_16 : decode cX5_then 16 = .ok (.ifCond .ne 6, 3) := by decide +kernel
theorem dX5_then_19 : decode cX5_then 19 = .ok (.bipush (-4), 2) := by decide +kernel
theorem dX5_then_21 : decode cX5_then 21 = .ok (.ireturn, 1) := by decide +kernel
theorem dX5_then_22 : decode cX5_then 22 = .ok (.aload_n 0, 1) := by decide +kernel
theorem dX5_then_23 : decode cX5_then 23 = .ok (.iload_n 1, 1) := by decide +kernel
theorem dX5_then_24 : decode cX5_then 24 = .ok (.invokevirtual 204, 3) := by decide +kernel
theorem dX5_then_27 : decode cX5_then 27 = .ok (.istore_n 2, 1) := by decide +kernel
theorem dX5_then_28 : decode cX5_then 28 = .ok (.aload_n 0, 1) := by decide +kernel
theorem dX5_then_29 : decode cX5_then 29 = .ok (.iload_n 2, 1) := by decide +kernel
theorem dX5_then_30 : decode cX5_then 30 = .ok (.aload_n 0, 1) := by decide +kernel
theorem dX5_then_31 : decode cX5_then 31 = .ok (.iload_n 2, 1) := by decide +kernel
theorem dX5_then_32 : decode cX5_then 32 = .ok (.bipush 10, 2) := by decide +kernel
theorem dX5_then_34 : decode cX5_then 34 = .ok (.idiv, 1) := by decide +kernel
theorem dX5_then_35 : decode cX5_then 35 = .ok (.iload_n 2, 1) := by decide +kernel
theorem dX5_then_36 : decode cX5_then 36 = .ok (.bipush 10, 2) := by decide +kernel
theorem dX5_then_38 : decode cX5_then 38 = .ok (.irem, 1) := by decide +kernel
theorem dX5_then_39 : decode cX5_then 39 = .ok (.invokevirtual 140, 3) := by decide +kernel
theorem dX5_then_42 : decode cX5_then 42 = .ok (.invokevirtual 93, 3) := by decide +kernel
theorem dX5_then_45 : decode cX5_then 45 = .ok (.ireturn, 1) := by decide +kernel
theorem dX5_when_0 : decode cX5_when 0 = .ok (.aload_n 0, 1) := by decide +kernel
theorem dX5_when_1 : decode cX5_when 1 = .ok (.invokevirtual 176, 3) := by decide +kernel
theorem dX5_when_4 : decode cX5_when 4 = .ok (.ifCond .ne 6, 3) := by decide +kernel
theorem dX5_when_7 : decode cX5_when 7 = .ok (.bipush (-4), 2) := by decide +kernel
theorem dX5_when_9 : decode cX5_when 9 = .ok (.ireturn, 1) := by decide +kernel
theorem dX5_when_10 : decode cX5_when 10 = .ok (.aload_n 0, 1) := by decide +kernel
theorem dX5_when_11 : decode cX5_when 11 = .ok (.iload_n 1, 1) := by decide +kernel
theorem dX5_when_12 : decode cX5_when 12 = .ok (.iload_n 2, 1) := by decide +kernel
theorem dX5_when_13 : decode cX5_when 13 = .ok (.invokevirtual 192, 3) := by decide +kernel
theorem dX5_when_16 : decode cX5_when 16 = .ok (.ifCond .ne 5, 3) := by decide +kernel
theorem dX5_when_19 : decode cX5_when 19 = .ok (.iconst (-1), 1) := by decide +kernel
theorem dX5_when_20 : decode cX5_when 20 = .ok (.ireturn, 1) := by decide +kernel
theorem dX5_when_21 : decode cX5_when 21 = .ok (.aload_n 0, 1) := by decide +kernel
theorem dX5_when_22 : decode cX5_when 22 = .ok (.iconst 0, 1) := by decide +kernel
theorem dX5_when_23 : decode cX5_when 23 = .ok (.invokevirtual 204, 3) := by decide +kernel
theorem dX5_when_26 : decode cX5_when 26 = .ok (.istore_n 3, 1) := by decide +kernel
theorem dX5_when_27 : decode cX5_when 27 = .ok (.iconst 0, 1) := by decide +kernel
theorem dX5_when_28 : decode cX5_when 28 = .ok (.istore 4, 2) := by decide +kernel
theorem dX5_when_30 : decode cX5_when 30 = .ok (.iload 4, 2) := by decide +kernel
theorem dX5_when_32 : decode cX5_when 32 = .ok (.bipush 31, 2) := by decide +kernel
theorem dX5_when_34 : decode cX5_when 34 = .ok (.if_icmp .ge 35, 3) := by decide +kernel
theorem dX5_when_37 : decode cX5_when 37 = .ok (.iload_n 3, 1) := by decide +kernel
theorem dX5_when_38 : decode cX5_when 38 = .ok (.bipush 10, 2) := by decide +kernel
theorem dX5_when_40 : decode cX5_when 40 = .ok (.iload_n 1, 1) := by decide +kernel
theorem dX5_when_41 : decode cX5_when 41 = .ok (.imul, 1) := by decide +kernel
theorem dX5_when_42 : decode cX5_when 42 = .ok (.iload_n 2, 1) := by decide +kernel
theorem dX5_when_43 : decode cX5_when 43 = .ok (.iadd, 1) := by decide +kernel
theorem dX5_when_44 : decode cX5_when 44 = .ok (.if_icmp .ne 6, 3) := by decide +kernel
theorem dX5_when_47 : decode cX5_when 47 = .ok (.iload 4, 2) := by decide +kernel
theorem dX5_when_49 : decode cX5_when 49 = .ok (.ireturn, 1) := by decide +kernel
theorem dX5_when_50 : decode cX5_when 50 = .ok (.aload_n 0, 1) := by decide +kernel
theorem dX5_when_51 : decode cX5_when 51 = .ok (.iload_n 3, 1) := by decide +kernel
theorem dX5_when_52 : decode cX5_when 52 = .ok (.bipush 10, 2) := by decide +kernel
theorem dX5_when_54 : decode cX5_when 54 = .ok (.idiv, 1) := by decide +kernel
theorem dX5_when_55 : decode cX5_when 55 = .ok (.iload_n 3, 1) := by decide +kernel
theorem dX5_when_56 : decode cX5_when 56 = .ok (.bipush 10, 2) := by decide +kernel
theorem dX5_when_58 : decode cX5_when 58 = .ok (.irem, 1) := by decide +kernel
theorem dX5_when_59 : decode cX5_when 59 = .ok (.invokevirtual 183, 3) := by decide +kernel
theorem dX5_when_62 : decode cX5_when 62 = .ok (.istore_n 3, 1) := by decide +kernel
theorem dX5_when_63 : decode cX5_when 63 = .ok (.iinc 4 1, 3) := by decide +kernel
theorem dX5_when_66 : decode cX5_when 66 = .ok (.goto (-36), 3) := by decide +kernel
theorem dX5_when_69 : decode cX5_when 69 = .ok (.bipush (-9), 2) := by decide +kernel
theorem dX5_when_71 : decode cX5_when 71 = .ok (.ireturn, 1) := by decide +kernel
theorem dX5_round_0 : decode cX5_round 0 = .ok (.aload_n 0, 1) := by decide +kernel
theorem dX5_round_1 : decode cX5_round 1 = .ok (.invokevirtual 176, 3) := by decide +kernel
theorem dX5_round_4 : decode cX5_round 4 = .ok (.ifCond .ne 6, 3) := by decide +kernel
theorem dX5_round_7 : decode cX5_round 7 = .ok (.bipush (-4), 2) := by decide +kernel
theorem dX5_round_9 : decode cX5_round 9 = .ok (.ireturn, 1) := by decide +kernel
theorem dX5_round_10 : decode cX5_round 10 = .ok (.aload_n 0, 1) := by decide +kernel
theorem dX5_round_11 : decode cX5_round 11 = .ok (.getfield 44, 3) := by decide +kernel
theorem dX5_round_14 : decode cX5_round 14 = .ok (.iconst 0, 1) := by decide +kernel
theorem dX5_round_15 : decode cX5_round 15 = .ok (.aload_n 0, 1) := by decide +kernel
theorem dX5_round_16 : decode cX5_round 16 = .ok (.iconst 0, 1) := by decide +kernel
theorem dX5_round_17 : decode cX5_round 17 = .ok (.invokevirtual 204, 3) := by decide +kernel
theorem dX5_round_20 : decode cX5_round 20 = .ok (.iastore, 1) := by decide +kernel
theorem dX5_round_21 : decode cX5_round 21 = .ok (.iconst 1, 1) := by decide +kernel
theorem dX5_round_22 : decode cX5_round 22 = .ok (.istore_n 1, 1) := by decide +kernel
theorem dX5_round_23 : decode cX5_round 23 = .ok (.iload_n 1, 1) := by decide +kernel
theorem dX5_round_24 : decode cX5_round 24 = .ok (.bipush 62, 2) := by decide +kernel
theorem dX5_round_26 : decode cX5_round 26 = .ok (.if_icmp .ge 78, 3) := by decide +kernel
theorem dX5_round_29 : decode cX5_round 29 = .ok (.aload_n 0, 1) := by decide +kernel
theorem dX5_round_30 : decode cX5_round 30 = .ok (.getfield 44, 3) := by decide +kernel
theorem dX5_round_33 : decode cX5_round 33 = .ok (.iload_n 1, 1) := by decide +kernel
theorem dX5_round_34 : decode cX5_round 34 = .ok (.aload_n 0, 1) := by decide +kernel
theorem dX5_round_35 : decode cX5_round 35 = .ok (.aload_n 0, 1) := by decide +kernel
theorem dX5_round_36 : decode cX5_round 36 = .ok (.getfield 44, 3) := by decide +kernel
theorem dX5_round_39 : decode cX5_round 39 = .ok (.iload_n 1, 1) := by decide +kernel
theorem dX5_round_40 : decode cX5_round 40 = .ok (.iconst 1, 1) := by decide +kernel
theorem dX5_round_41 : decode cX5_round 41 = .ok (.isub, 1) := by decide +kernel
theorem dX5_round_42 : decode cX5_round 42 = .ok (.iaload, 1) := by decide +kernel
theorem dX5_round_43 : decode cX5_round 43 = .ok (.bipush 10, 2) := by decide +kernel
theorem dX5_round_45 : decode cX5_round 45 = .ok (.idiv, 1) := by decide +kernel
theorem dX5_round_46 : decode cX5_round 46 = .ok (.aload_n 0, 1) := by decide +kernel
theorem dX5_round_47 : decode cX5_round 47 = .ok (.getfield 44, 3) := by decide +kernel
theorem dX5_round_50 : decode cX5_round 50 = .ok (.iload_n 1, 1) := by decide +kernel
theorem dX5_round_51 : decode cX5_round 51 = .ok (.iconst 1, 1) := by decide +kernel
theorem dX5_round_52 : decode cX5_round 52 = .ok (.isub, 1) := by decide +kernel
theorem dX5_round_53 : decode cX5_round 53 = .ok (.iaload, 1) := by decide +kernel
theorem dX5_round_54 : decode cX5_round 54 = .ok (.bipush 10, 2) := by decide +kernel
theorem dX5_round_56 : decode cX5_round 56 = .ok (.irem, 1) := by decide +kernel
theorem dX5_round_57 : decode cX5_round 57 = .ok (.invokevirtual 183, 3) := by decide +kernel
theorem dX5_round_60 : decode cX5_round 60 = .ok (.iastore, 1) := by decide +kernel
theorem dX5_round_61 : decode cX5_round 61 = .ok (.iconst 0, 1) := by decide +kernel
theorem dX5_round_62 : decode cX5_round 62 = .ok (.istore_n 2, 1) := by decide +kernel
theorem dX5_round_63 : decode cX5_round 63 = .ok (.iload_n 2, 1) := by decide +kernel
theorem dX5_round_64 : decode cX5_round 64 = .ok (.iload_n 1, 1) := by decide +kernel
theorem dX5_round_65 : decode cX5_round 65 = .ok (.if_icmp .ge 33, 3) := by decide +kernel
theorem dX5_round_68 : decode cX5_round 68 = .ok (.aload_n 0, 1) := by decide +kernel
theorem dX5_round_69 : decode cX5_round 69 = .ok (.getfield 44, 3) := by decide +kernel
theorem dX5_round_72 : decode cX5_round 72 = .ok (.iload_n 2, 1) := by decide +kernel
theorem dX5_round_73 : decode cX5_round 73 = .ok (.iaload, 1) := by decide +kernel
theorem dX5_round_74 : decode cX5_round 74 = .ok (.aload_n 0, 1) := by decide +kernel
theorem dX5_round_75 : decode cX5_round 75 = .ok (.getfield 44, 3) := by decide +kernel
theorem dX5_round_78 : decode cX5_round 78 = .ok (.iload_n 1, 1) := by decide +kernel
theorem dX5_round_79 : decode cX5_round 79 = .ok (.iaload, 1) := by decide +kernel
theorem dX5_round_80 : decode cX5_round 80 = .ok (.if_icmp .ne 12, 3) := by decide +kernel
theorem dX5_round_83 : decode cX5_round 83 = .ok (.aload_n 0, 1) := by decide +kernel
theorem dX5_round_84 : decode cX5_round 84 = .ok (.iload_n 1, 1) := by decide +kernel
theorem dX5_round_85 : decode cX5_round 85 = .ok (.iload_n 1, 1) := by decide +kernel
theorem dX5_round_86 : decode cX5_round 86 = .ok (.iload_n 2, 1) := by decide +kernel
theorem dX5_round_87 : decode cX5_round 87 = .ok (.isub, 1) := by decide +kernel
theorem dX5_round_88 : decode cX5_round 88 = .ok (.invokevirtual 93, 3) := by decide +kernel
theorem dX5_round_91 : decode cX5_round 91 = .ok (.ireturn, 1) := by decide +kernel
theorem dX5_round_92 : decode cX5_round 92 = .ok (.iinc 2 1, 3) := by decide +kernel
theorem dX5_round_95 : decode cX5_round 95 = .ok (.goto (-32), 3) := by decide +kernel
theorem dX5_round_98 : decode cX5_round 98 = .ok (.iinc 1 1, 3) := by decide +kernel
theorem dX5_round_101 : decode cX5_round 101 = .ok (.goto (-78), 3) := by decide +kernel
theorem dX5_round_104 : decode cX5_round 104 = .ok (.bipush (-9), 2) := by decide +kernel
theorem dX5_round_106 : decode cX5_round 106 = .ok (.ireturn, 1) := by decide +kernel
theorem dX5_moves_0 : decode cX5_moves 0 = .ok (.aload_n 0, 1) := by decide +kernel
theorem dX5_moves_1 : decode cX5_moves 1 = .ok (.getfield 47, 3) := by decide +kernel
theorem dX5_moves_4 : decode cX5_moves 4 = .ok (.iload_n 1, 1) := by decide +kernel
theorem dX5_moves_5 : decode cX5_moves 5 = .ok (.iaload, 1) := by decide +kernel
theorem dX5_moves_6 : decode cX5_moves 6 = .ok (.ifCond .ne 7, 3) := by decide +kernel
theorem dX5_moves_9 : decode cX5_moves 9 = .ok (.iconst 1, 1) := by decide +kernel
theorem dX5_moves_10 : decode cX5_moves 10 = .ok (.goto 18, 3) := by decide +kernel
theorem dX5_moves_13 : decode cX5_moves 13 = .ok (.aload_n 0, 1) := by decide +kernel
theorem dX5_moves_14 : decode cX5_moves 14 = .ok (.getfield 47, 3) := by decide +kernel
theorem dX5_moves_17 : decode cX5_moves 17 = .ok (.iload_n 1, 1) := by decide +kernel
theorem dX5_moves_18 : decode cX5_moves 18 = .ok (.iaload, 1) := by decide +kernel
theorem dX5_moves_19 : decode cX5_moves 19 = .ok (.iconst 1, 1) := by decide +kernel
theorem dX5_moves_20 : decode cX5_moves 20 = .ok (.if_icmp .ne 7, 3) := by decide +kernel
theorem dX5_moves_23 : decode cX5_moves 23 = .ok (.iconst (-1), 1) := by decide +kernel
theorem dX5_moves_24 : decode cX5_moves 24 = .ok (.goto 4, 3) := by decide +kernel
theorem dX5_moves_27 : decode cX5_moves 27 = .ok (.iconst 0, 1) := by decide +kernel
theorem dX5_moves_28 : decode cX5_moves 28 = .ok (.istore_n 2, 1) := by decide +kernel
theorem dX5_moves_29 : decode cX5_moves 29 = .ok (.aload_n 0, 1) := by decide +kernel
theorem dX5_moves_30 : decode cX5_moves 30 = .ok (.getfield 53, 3) := by decide +kernel
theorem dX5_moves_33 : decode cX5_moves 33 = .ok (.iload_n 1, 1) := by decide +kernel
theorem dX5_moves_34 : decode cX5_moves 34 = .ok (.iconst 1, 1) := by decide +kernel
theorem dX5_moves_35 : decode cX5_moves 35 = .ok (.iadd, 1) := by decide +kernel
theorem dX5_moves_36 : decode cX5_moves 36 = .ok (.aload_n 0, 1) := by decide +kernel
theorem dX5_moves_37 : decode cX5_moves 37 = .ok (.getfield 53, 3) := by decide +kernel
theorem dX5_moves_40 : decode cX5_moves 40 = .ok (.iload_n 1, 1) := by decide +kernel
theorem dX5_moves_41 : decode cX5_moves 41 = .ok (.iaload, 1) := by decide +kernel
theorem dX5_moves_42 : decode cX5_moves 42 = .ok (.iload_n 1, 1) := by decide +kernel
theorem dX5_moves_43 : decode cX5_moves 43 = .ok (.iconst 2, 1) := by decide +kernel
theorem dX5_moves_44 : decode cX5_moves 44 = .ok (.irem, 1) := by decide +kernel
theorem dX5_moves_45 : decode cX5_moves 45 = .ok (.ifCond .ne 7, 3) := by decide +kernel
theorem dX5_moves_48 : decode cX5_moves 48 = .ok (.iload_n 2, 1) := by decide +kernel
theorem dX5_moves_49 : decode cX5_moves 49 = .ok (.goto 4, 3) := by decide +kernel
theorem dX5_moves_52 : decode cX5_moves 52 = .ok (.iconst 0, 1) := by decide +kernel
theorem dX5_moves_53 : decode cX5_moves 53 = .ok (.isub, 1) := by decide +kernel
theorem dX5_moves_54 : decode cX5_moves 54 = .ok (.iastore, 1) := by decide +kernel
theorem dX5_moves_55 : decode cX5_moves 55 = .ok (.aload_n 0, 1) := by decide +kernel
theorem dX5_moves_56 : decode cX5_moves 56 = .ok (.getfield 56, 3) := by decide +kernel
theorem dX5_moves_59 : decode cX5_moves 59 = .ok (.iload_n 1, 1) := by decide +kernel
theorem dX5_moves_60 : decode cX5_moves 60 = .ok (.iconst 1, 1) := by decide +kernel
theorem dX5_moves_61 : decode cX5_moves 61 = .ok (.iadd, 1) := by decide +kernel
theorem dX5_moves_62 : decode cX5_moves 62 = .ok (.aload_n 0, 1) := by decide +kernel
theorem dX5_moves_63 : decode cX5_moves 63 = .ok (.getfield 56, 3) := by decide +kernel
theorem dX5_moves_66 : decode cX5_moves 66 = .ok (.iload_n 1, 1) := by decide +kernel
theorem dX5_moves_67 : decode cX5_moves 67 = .ok (.iaload, 1) := by decide +kernel
theorem dX5_moves_68 : decode cX5_moves 68 = .ok (.iload_n 1, 1) := by decide +kernel
theorem dX5_moves_69 : decode cX5_moves 69 = .ok (.iconst 2, 1) := by decide +kernel
theorem dX5_moves_70 : decode cX5_moves 70 = .ok (.irem, 1) := by decide +kernel
theorem dX5_moves_71 : decode cX5_moves 71 = .ok (.iconst 1, 1) := by decide +kernel
theorem dX5_moves_72 : decode cX5_moves 72 = .ok (.if_icmp .ne 7, 3) := by decide +kernel
theorem dX5_moves_75 : decode cX5_moves 75 = .ok (.iload_n 2, 1) := by decide +kernel
theorem dX5_moves_76 : decode cX5_moves 76 = .ok (.goto 4, 3) := by decide +kernel
theorem dX5_moves_79 : decode cX5_moves 79 = .ok (.iconst 0, 1) := by decide +kernel
theorem dX5_moves_80 : decode cX5_moves 80 = .ok (.iadd, 1) := by decide +kernel
theorem dX5_moves_81 : decode cX5_moves 81 = .ok (.iastore, 1) := by decide +kernel
theorem dX5_moves_82 : decode cX5_moves 82 = .ok (.aload_n 0, 1) := by decide +kernel
theorem dX5_moves_83 : decode cX5_moves 83 = .ok (.aload_n 0, 1) := by decide +kernel
theorem dX5_moves_84 : decode cX5_moves 84 = .ok (.getfield 53, 3) := by decide +kernel
theorem dX5_moves_87 : decode cX5_moves 87 = .ok (.iload_n 1, 1) := by decide +kernel
theorem dX5_moves_88 : decode cX5_moves 88 = .ok (.iconst 1, 1) := by decide +kernel
theorem dX5_moves_89 : decode cX5_moves 89 = .ok (.iadd, 1) := by decide +kernel
theorem dX5_moves_90 : decode cX5_moves 90 = .ok (.iaload, 1) := by decide +kernel
theorem dX5_moves_91 : decode cX5_moves 91 = .ok (.aload_n 0, 1) := by decide +kernel
theorem dX5_moves_92 : decode cX5_moves 92 = .ok (.getfield 56, 3) := by decide +kernel
theorem dX5_moves_95 : decode cX5_moves 95 = .ok (.iload_n 1, 1) := by decide +kernel
theorem dX5_moves_96 : decode cX5_moves 96 = .ok (.iconst 1, 1) := by decide +kernel
theorem dX5_moves_97 : decode cX5_moves 97 = .ok (.iadd, 1) := by decide +kernel
theorem dX5_moves_98 : decode cX5_moves 98 = .ok (.iaload, 1) := by decide +kernel
theorem dX5_moves_99 : decode cX5_moves 99 = .ok (.invokevirtual 192, 3) := by decide +kernel
theorem dX5_moves_102 : decode cX5_moves 102 = .ok (.ireturn, 1) := by decide +kernel
theorem dX5_comes_0 : decode cX5_comes 0 = .ok (.aload_n 0, 1) := by decide +kernel
theorem dX5_comes_1 : decode cX5_comes 1 = .ok (.getfield 50, 3) := by decide +kernel
theorem dX5_comes_4 : decode cX5_comes 4 = .ok (.iload_n 1, 1) := by decide +kernel
theorem dX5_comes_5 : decode cX5_comes 5 = .ok (.iaload, 1) := by decide +kernel
theorem dX5_comes_6 : decode cX5_comes 6 = .ok (.bipush (-9), 2) := by decide +kernel
theorem dX5_comes_8 : decode cX5_comes 8 = .ok (.if_icmp .eq 32, 3) := by decide +kernel
theorem dX5_comes_11 : decode cX5_comes 11 = .ok (.iload_n 1, 1) := by decide +kernel
theorem dX5_comes_12 : decode cX5_comes 12 = .ok (.iconst 2, 1) := by decide +kernel
theorem dX5_comes_13 : decode cX5_comes 13 = .ok (.irem, 1) := by decide +kernel
theorem dX5_comes_14 : decode cX5_comes 14 = .ok (.ifCond .ne 16, 3) := by decide +kernel
theorem dX5_comes_17 : decode cX5_comes 17 = .ok (.iload_n 2, 1) := by decide +kernel
theorem dX5_comes_18 : decode cX5_comes 18 = .ok (.aload_n 0, 1) := by decide +kernel
theorem dX5_comes_19 : decode cX5_comes 19 = .ok (.getfield 50, 3) := by decide +kernel
theorem dX5_comes_22 : decode cX5_comes 22 = .ok (.iload_n 1, 1) := by decide +kernel
theorem dX5_comes_23 : decode cX5_comes 23 = .ok (.iaload, 1) := by decide +kernel
theorem dX5_comes_24 : decode cX5_comes 24 = .ok (.if_icmp .ge 20, 3) := by decide +kernel
theorem dX5_comes_27 : decode cX5_comes 27 = .ok (.goto 13, 3) := by decide +kernel
theorem dX5_comes_30 : decode cX5_comes 30 = .ok (.iload_n 2, 1) := by decide +kernel
theorem dX5_comes_31 : decode cX5_comes 31 = .ok (.aload_n 0, 1) := by decide +kernel
theorem dX5_comes_32 : decode cX5_comes 32 = .ok (.getfield 50, 3) := by decide +kernel
theorem dX5_comes_35 : decode cX5_comes 35 = .ok (.iload_n 1, 1) := by decide +kernel
theorem dX5_comes_36 : decode cX5_comes 36 = .ok (.iaload, 1) := by decide +kernel
theorem dX5_comes_37 : decode cX5_comes 37 = .ok (.if_icmp .le 7, 3) := by decide +kernel
theorem dX5_comes_40 : decode cX5_comes 40 = .ok (.iconst 1, 1) := by decide +kernel
theorem dX5_comes_41 : decode cX5_comes 41 = .ok (.goto 4, 3) := by decide +kernel
theorem dX5_comes_44 : decode cX5_comes 44 = .ok (.iconst 0, 1) := by decide +kernel
theorem dX5_comes_45 : decode cX5_comes 45 = .ok (.istore_n 3, 1) := by decide +kernel
theorem dX5_comes_46 : decode cX5_comes 46 = .ok (.aload_n 0, 1) := by decide +kernel
theorem dX5_comes_47 : decode cX5_comes 47 = .ok (.getfield 50, 3) := by decide +kernel
theorem dX5_comes_50 : decode cX5_comes 50 = .ok (.iload_n 1, 1) := by decide +kernel
theorem dX5_comes_51 : decode cX5_comes 51 = .ok (.iload_n 3, 1) := by decide +kernel
theorem dX5_comes_52 : decode cX5_comes 52 = .ok (.ifCond .eq 7, 3) := by decide +kernel
theorem dX5_comes_55 : decode cX5_comes 55 = .ok (.iload_n 2, 1) := by decide +kernel
theorem dX5_comes_56 : decode cX5_comes 56 = .ok (.goto 9, 3) := by decide +kernel
theorem dX5_comes_59 : decode cX5_comes 59 = .ok (.aload_n 0, 1) := by decide +kernel
theorem dX5_comes_60 : decode cX5_comes 60 = .ok (.getfield 50, 3) := by decide +kernel
theorem dX5_comes_63 : decode cX5_comes 63 = .ok (.iload_n 1, 1) := by decide +kernel
theorem dX5_comes_64 : decode cX5_comes 64 = .ok (.iaload, 1) := by decide +kernel
theorem dX5_comes_65 : decode cX5_comes 65 = .ok (.iastore, 1) := by decide +kernel
theorem dX5_comes_66 : decode cX5_comes 66 = .ok (.return_, 1) := by decide +kernel
theorem dX5_duel_0 : decode cX5_duel 0 = .ok (.iload_n 1, 1) := by decide +kernel
theorem dX5_duel_1 : decode cX5_duel 1 = .ok (.iconst 0, 1) := by decide +kernel
theorem dX5_duel_2 : decode cX5_duel 2 = .ok (.bipush 6, 2) := by decide +kernel
theorem dX5_duel_4 : decode cX5_duel 4 = .ok (.invokestatic 73, 3) := by decide +kernel
theorem dX5_duel_7 : decode cX5_duel 7 = .ok (.ifCond .ne 5, 3) := by decide +kernel
theorem dX5_duel_10 : decode cX5_duel 10 = .ok (.iconst (-1), 1) := by decide +kernel
theorem dX5_duel_11 : decode cX5_duel 11 = .ok (.ireturn, 1) := by decide +kernel
theorem dX5_duel_12 : decode cX5_duel 12 = .ok (.aload_n 0, 1) := by decide +kernel
theorem dX5_duel_13 : decode cX5_duel 13 = .ok (.invokevirtual 176, 3) := by decide +kernel
theorem dX5_duel_16 : decode cX5_duel 16 = .ok (.ifCond .ne 6, 3) := by decide +kernel
theorem dX5_duel_19 : decode cX5_duel 19 = .ok (.bipush (-4), 2) := by decide +kernel
theorem dX5_duel_21 : decode cX5_duel 21 = .ok (.ireturn, 1) := by decide +kernel
theorem dX5_duel_22 : decode cX5_duel 22 = .ok (.aload_n 0, 1) := by decide +kernel
theorem dX5_duel_23 : decode cX5_duel 23 = .ok (.getfield 53, 3) := by decide +kernel
theorem dX5_duel_26 : decode cX5_duel 26 = .ok (.iconst 0, 1) := by decide +kernel
theorem dX5_duel_27 : decode cX5_duel 27 = .ok (.aload_n 0, 1) := by decide +kernel
theorem dX5_duel_28 : decode cX5_duel 28 = .ok (.getfield 25, 3) := by decide +kernel
theorem dX5_duel_31 : decode cX5_duel 31 = .ok (.iconst 1, 1) := by decide +kernel
theorem dX5_duel_32 : decode cX5_duel 32 = .ok (.iaload, 1) := by decide +kernel
theorem dX5_duel_33 : decode cX5_duel 33 = .ok (.iastore, 1) := by decide +kernel
theorem dX5_duel_34 : decode cX5_duel 34 = .ok (.aload_n 0, 1) := by decide +kernel
theorem dX5_duel_35 : decode cX5_duel 35 = .ok (.getfield 56, 3) := by decide +kernel
theorem dX5_duel_38 : decode cX5_duel 38 = .ok (.iconst 0, 1) := by decide +kernel
theorem dX5_duel_39 : decode cX5_duel 39 = .ok (.aload_n 0, 1) := by decide +kernel
theorem dX5_duel_40 : decode cX5_duel 40 = .ok (.getfield 25, 3) := by decide +kernel
theorem dX5_duel_43 : decode cX5_duel 43 = .ok (.iconst 2, 1) := by decide +kernel
theorem dX5_duel_44 : decode cX5_duel 44 = .ok (.iaload, 1) := by decide +kernel
theorem dX5_duel_45 : decode cX5_duel 45 = .ok (.iastore, 1) := by decide +kernel
theorem dX5_duel_46 : decode cX5_duel 46 = .ok (.iload_n 1, 1) := by decide +kernel
theorem dX5_duel_47 : decode cX5_duel 47 = .ok (.ifCond .ne 12, 3) := by decide +kernel
theorem dX5_duel_50 : decode cX5_duel 50 = .ok (.aload_n 0, 1) := by decide +kernel
theorem dX5_duel_51 : decode cX5_duel 51 = .ok (.aload_n 0, 1) := by decide +kernel
theorem dX5_duel_52 : decode cX5_duel 52 = .ok (.invokevirtual 165, 3) := by decide +kernel
theorem dX5_duel_55 : decode cX5_duel 55 = .ok (.invokevirtual 169, 3) := by decide +kernel
theorem dX5_duel_58 : decode cX5_duel 58 = .ok (.ireturn, 1) := by decide +kernel
theorem dX5_duel_59 : decode cX5_duel 59 = .ok (.iconst 0, 1) := by decide +kernel
theorem dX5_duel_60 : decode cX5_duel 60 = .ok (.istore_n 2, 1) := by decide +kernel
theorem dX5_duel_61 : decode cX5_duel 61 = .ok (.aload_n 0, 1) := by decide +kernel
theorem dX5_duel_62 : decode cX5_duel 62 = .ok (.getfield 47, 3) := by decide +kernel
theorem dX5_duel_65 : decode cX5_duel 65 = .ok (.iconst 0, 1) := by decide +kernel
theorem dX5_duel_66 : decode cX5_duel 66 = .ok (.iconst 0, 1) := by decide +kernel
theorem dX5_duel_67 : decode cX5_duel 67 = .ok (.iastore, 1) := by decide +kernel
theorem dX5_duel_68 : decode cX5_duel 68 = .ok (.aload_n 0, 1) := by decide +kernel
theorem dX5_duel_69 : decode cX5_duel 69 = .ok (.getfield 50, 3) := by decide +kernel
theorem dX5_duel_72 : decode cX5_duel 72 = .ok (.iconst 0, 1) := by decide +kernel
theorem dX5_duel_73 : decode cX5_duel 73 = .ok (.bipush (-9), 2) := by decide +kernel
theorem dX5_duel_75 : decode cX5_duel 75 = .ok (.iastore, 1) := by decide +kernel
theorem dX5_duel_76 : decode cX5_duel 76 = .ok (.iload_n 2, 1) := by decide +kernel
theorem dX5_duel_77 : decode cX5_duel 77 = .ok (.ifCond .lt 135, 3) := by decide +kernel
theorem dX5_duel_80 : decode cX5_duel 80 = .ok (.aload_n 0, 1) := by decide +kernel
theorem dX5_duel_81 : decode cX5_duel 81 = .ok (.getfield 47, 3) := by decide +kernel
theorem dX5_duel_84 : decode cX5_duel 84 = .ok (.iload_n 2, 1) := by decide +kernel
theorem dX5_duel_85 : decode cX5_duel 85 = .ok (.iaload, 1) := by decide +kernel
theorem dX5_duel_86 : decode cX5_duel 86 = .ok (.iconst 3, 1) := by decide +kernel
theorem dX5_duel_87 : decode cX5_duel 87 = .ok (.if_icmp .ne 38, 3) := by decide +kernel
theorem dX5_duel_90 : decode cX5_duel 90 = .ok (.iload_n 2, 1) := by decide +kernel
theorem dX5_duel_91 : decode cX5_duel 91 = .ok (.ifCond .le 28, 3) := by decide +kernel
theorem dX5_duel_94 : decode cX5_duel 94 = .ok (.aload_n 0, 1) := by decide +kernel
theorem dX5_duel_95 : decode cX5_duel 95 = .ok (.iload_n 2, 1) := by decide +kernel
theorem dX5_duel_96 : decode cX5_duel 96 = .ok (.iconst 1, 1) := by decide +kernel
theorem dX5_duel_97 : decode cX5_duel 97 = .ok (.isub, 1) := by decide +kernel
theorem dX5_duel_98 : decode cX5_duel 98 = .ok (.aload_n 0, 1) := by decide +kernel
theorem dX5_duel_99 : decode cX5_duel 99 = .ok (.getfield 50, 3) := by decide +kernel
theorem dX5_duel_102 : decode cX5_duel 102 = .ok (.iload_n 2, 1) := by decide +kernel
theorem dX5_duel_103 : decode cX5_duel 103 = .ok (.iaload, 1) := by decide +kernel
theorem dX5_duel_104 : decode cX5_duel 104 = .ok (.invokevirtual 207, 3) := by decide +kernel
theorem dX5_duel_107 : decode cX5_duel 107 = .ok (.aload_n 0, 1) := by decide +kernel
theorem dX5_duel_108 : decode cX5_duel 108 = .ok (.getfield 47, 3) := by decide +kernel
theorem dX5_duel_111 : decode cX5_duel 111 = .ok (.iload_n 2, 1) := by decide +kernel
theorem dX5_duel_112 : decode cX5_duel 112 = .ok (.iconst 1, 1) := by decide +kernel
theorem dX5_duel_113 : decode cX5_duel 113 = .ok (.isub, 1) := by decide +kernel
theorem dX5_duel_114 : decode cX5_duel 114 = .ok (.dup2, 1) := by decide +kernel
theorem dX5_duel_115 : decode cX5_duel 115 = .ok (.iaload, 1) := by decide +kernel
theorem dX5_duel_116 : decode cX5_duel 116 = .ok (.iconst 1, 1) := by decide +kernel
theorem dX5_duel_117 : decode cX5_duel 117 = .ok (.iadd, 1) := by decide +kernel
theorem dX5_duel_118 : decode cX5_duel 118 = .ok (.iastore, 1) := by decide +kernel
theorem dX5_duel_119 : decode cX5_duel 119 = .ok (.iinc 2 (-1), 3) := by decide +kernel
theorem dX5_duel_122 : decode cX5_duel 122 = .ok (.goto (-46), 3) := by decide +kernel
theorem dX5_duel_125 : decode cX5_duel 125 = .ok (.aload_n 0, 1) := by decide +kernel
theorem dX5_duel_126 : decode cX5_duel 126 = .ok (.iload_n 2, 1) := by decide +kernel
theorem dX5_duel_127 : decode cX5_duel 127 = .ok (.invokevirtual 210, 3) := by decide +kernel
theorem dX5_duel_130 : decode cX5_duel 130 = .ok (.ifCond .ne 16, 3) := by decide +kernel
theorem dX5_duel_133 : decode cX5_duel 133 = .ok (.aload_n 0, 1) := by decide +kernel
theorem dX5_duel_134 : decode cX5_duel 134 = .ok (.getfield 47, 3) := by decide +kernel
theorem dX5_duel_137 : decode cX5_duel 137 = .ok (.iload_n 2, 1) := by decide +kernel
theorem dX5_duel_138 : decode cX5_duel 138 = .ok (.dup2, 1) := by decide +kernel
theorem dX5_duel_139 : decode cX5_duel 139 = .ok (.iaload, 1) := by decide +kernel
theorem dX5_duel_140 : decode cX5_duel 140 = .ok (.iconst 1, 1) := by decide +kernel
theorem dX5_duel_141 : decode cX5_duel 141 = .ok (.iadd, 1) := by decide +kernel
theorem dX5_duel_142 : decode cX5_duel 142 = .ok (.iastore, 1) := by decide +kernel
theorem dX5_duel_143 : decode cX5_duel 143 = .ok (.goto (-67), 3) := by decide +kernel
theorem dX5_duel_146 : decode cX5_duel 146 = .ok (.iload_n 2, 1) := by decide +kernel
theorem dX5_duel_147 : decode cX5_duel 147 = .ok (.iload_n 1, 1) := by decide +kernel
theorem dX5_duel_148 : decode cX5_duel 148 = .ok (.iconst 1, 1) := by decide +kernel
theorem dX5_duel_149 : decode cX5_duel 149 = .ok (.isub, 1) := by decide +kernel
theorem dX5_duel_150 : decode cX5_duel 150 = .ok (.if_icmp .ne 41, 3) := by decide +kernel
theorem dX5_duel_153 : decode cX5_duel 153 = .ok (.aload_n 0, 1) := by decide +kernel
theorem dX5_duel_154 : decode cX5_duel 154 = .ok (.iload_n 2, 1) := by decide +kernel
theorem dX5_duel_155 : decode cX5_duel 155 = .ok (.aload_n 0, 1) := by decide +kernel
theorem dX5_duel_156 : decode cX5_duel 156 = .ok (.aload_n 0, 1) := by decide +kernel
theorem dX5_duel_157 : decode cX5_duel 157 = .ok (.aload_n 0, 1) := by decide +kernel
theorem dX5_duel_158 : decode cX5_duel 158 = .ok (.getfield 53, 3) := by decide +kernel
theorem dX5_duel_161 : decode cX5_duel 161 = .ok (.iload_n 1, 1) := by decide +kernel
theorem dX5_duel_162 : decode cX5_duel 162 = .ok (.iaload, 1) := by decide +kernel
theorem dX5_duel_163 : decode cX5_duel 163 = .ok (.aload_n 0, 1) := by decide +kernel
theorem dX5_duel_164 : decode cX5_duel 164 = .ok (.getfield 56, 3) := by decide +kernel
theorem dX5_duel_167 : decode cX5_duel 167 = .ok (.iload_n 1, 1) := by decide +kernel
theorem dX5_duel_168 : decode cX5_duel 168 = .ok (.iaload, 1) := by decide +kernel
theorem dX5_duel_169 : decode cX5_duel 169 = .ok (.invokevirtual 140, 3) := by decide +kernel
theorem dX5_duel_172 : decode cX5_duel 172 = .ok (.invokevirtual 169, 3) := by decide +kernel
theorem dX5_duel_175 : decode cX5_duel 175 = .ok (.invokevirtual 207, 3) := by decide +kernel
theorem dX5_duel_178 : decode cX5_duel 178 = .ok (.aload_n 0, 1) := by decide +kernel
theorem dX5_duel_179 : decode cX5_duel 179 = .ok (.getfield 47, 3) := by decide +kernel
theorem dX5_duel_182 : decode cX5_duel 182 = .ok (.iload_n 2, 1) := by decide +kernel
theorem dX5_duel_183 : decode cX5_duel 183 = .ok (.dup2, 1) := by decide +kernel
theorem dX5_duel_184 : decode cX5_duel 184 = .ok (.iaload, 1) := by decide +kernel
theorem dX5_duel_185 : decode cX5_duel 185 = .ok (.iconst 1, 1) := by decide +kernel
theorem dX5_duel_186 : decode cX5_duel 186 = .ok (.iadd, 1) := by decide +kernel
theorem dX5_duel_187 : decode cX5_duel 187 = .ok (.iastore, 1) := by decide +kernel
theorem dX5_duel_188 : decode cX5_duel 188 = .ok (.goto (-112), 3) := by decide +kernel
theorem dX5_duel_191 : decode cX5_duel 191 = .ok (.iinc 2 1, 3) := by decide +kernel
theorem dX5_duel_194 : decode cX5_duel 194 = .ok (.aload_n 0, 1) := by decide +kernel
theorem dX5_duel_195 : decode cX5_duel 195 = .ok (.getfield 47, 3) := by decide +kernel
theorem dX5_duel_198 : decode cX5_duel 198 = .ok (.iload_n 2, 1) := by decide +kernel
theorem dX5_duel_199 : decode cX5_duel 199 = .ok (.iconst 0, 1) := by decide +kernel
theorem dX5_duel_200 : decode cX5_duel 200 = .ok (.iastore, 1) := by decide +kernel
theorem dX5_duel_201 : decode cX5_duel 201 = .ok (.aload_n 0, 1) := by decide +kernel
theorem dX5_duel_202 : decode cX5_duel 202 = .ok (.getfield 50, 3) := by decide +kernel
theorem dX5_duel_205 : decode cX5_duel 205 = .ok (.iload_n 2, 1) := by decide +kernel
theorem dX5_duel_206 : decode cX5_duel 206 = .ok (.bipush (-9), 2) := by decide +kernel
theorem dX5_duel_208 : decode cX5_duel 208 = .ok (.iastore, 1) := by decide +kernel
theorem dX5_duel_209 : decode cX5_duel 209 = .ok (.goto (-133), 3) := by decide +kernel
theorem dX5_duel_212 : decode cX5_duel 212 = .ok (.aload_n 0, 1) := by decide +kernel
theorem dX5_duel_213 : decode cX5_duel 213 = .ok (.getfield 50, 3) := by decide +kernel
theorem dX5_duel_216 : decode cX5_duel 216 = .ok (.iconst 0, 1) := by decide +kernel
theorem dX5_duel_217 : decode cX5_duel 217 = .ok (.iaload, 1) := by decide +kernel
theorem dX5_duel_218 : decode cX5_duel 218 = .ok (.ireturn, 1) := by decide +kernel
theorem dX5_peace_0 : decode cX5_peace 0 = .ok (.iload_n 1, 1) := by decide +kernel
theorem dX5_peace_1 : decode cX5_peace 1 = .ok (.iconst 0, 1) := by decide +kernel
theorem dX5_peace_2 : decode cX5_peace 2 = .ok (.bipush 99, 2) := by decide +kernel
theorem dX5_peace_4 : decode cX5_peace 4 = .ok (.invokestatic 73, 3) := by decide +kernel
theorem dX5_peace_7 : decode cX5_peace 7 = .ok (.ifCond .eq 10, 3) := by decide +kernel
theorem dX5_peace_10 : decode cX5_peace 10 = .ok (.iload_n 2, 1) := by decide +kernel
theorem dX5_peace_11 : decode cX5_peace 11 = .ok (.invokestatic 77, 3) := by decide +kernel
theorem dX5_peace_14 : decode cX5_peace 14 = .ok (.ifCond .ne 5, 3) := by decide +kernel
theorem dX5_peace_17 : decode cX5_peace 17 = .ok (.iconst (-1), 1) := by decide +kernel
theorem dX5_peace_18 : decode cX5_peace 18 = .ok (.ireturn, 1) := by decide +kernel
theorem dX5_peace_19 : decode cX5_peace 19 = .ok (.aload_n 0, 1) := by decide +kernel
theorem dX5_peace_20 : decode cX5_peace 20 = .ok (.invokevirtual 165, 3) := by decide +kernel
theorem dX5_peace_23 : decode cX5_peace 23 = .ok (.istore_n 3, 1) := by decide +kernel
theorem dX5_peace_24 : decode cX5_peace 24 = .ok (.aload_n 0, 1) := by decide +kernel
theorem dX5_peace_25 : decode cX5_peace 25 = .ok (.iload_n 3, 1) := by decide +kernel
theorem dX5_peace_26 : decode cX5_peace 26 = .ok (.invokevirtual 169, 3) := by decide +kernel
theorem dX5_peace_29 : decode cX5_peace 29 = .ok (.istore 4, 2) := by decide +kernel
theorem dX5_peace_31 : decode cX5_peace 31 = .ok (.aload_n 0, 1) := by decide +kernel
theorem dX5_peace_32 : decode cX5_peace 32 = .ok (.invokevirtual 176, 3) := by decide +kernel
theorem dX5_peace_35 : decode cX5_peace 35 = .ok (.ifCond .eq 8, 3) := by decide +kernel
theorem dX5_peace_38 : decode cX5_peace 38 = .ok (.iload 4, 2) := by decide +kernel
theorem dX5_peace_40 : decode cX5_peace 40 = .ok (.ifCond .ne 6, 3) := by decide +kernel
theorem dX5_peace_43 : decode cX5_peace 43 = .ok (.bipush (-4), 2) := by decide +kernel
theorem dX5_peace_45 : decode cX5_peace 45 = .ok (.ireturn, 1) := by decide +kernel
theorem dX5_peace_46 : decode cX5_peace 46 = .ok (.iload_n 1, 1) := by decide +kernel
theorem dX5_peace_47 : decode cX5_peace 47 = .ok (.istore 5, 2) := by decide +kernel
theorem dX5_peace_49 : decode cX5_peace 49 = .ok (.iconst 0, 1) := by decide +kernel
theorem dX5_peace_50 : decode cX5_peace 50 = .ok (.istore 6, 2) := by decide +kernel
theorem dX5_peace_52 : decode cX5_peace 52 = .ok (.iload 6, 2) := by decide +kernel
theorem dX5_peace_54 : decode cX5_peace 54 = .ok (.bipush 6, 2) := by decide +kernel
theorem dX5_peace_56 : decode cX5_peace 56 = .ok (.if_icmp .ge 52, 3) := by decide +kernel
theorem dX5_peace_59 : decode cX5_peace 59 = .ok (.aload_n 0, 1) := by decide +kernel
theorem dX5_peace_60 : decode cX5_peace 60 = .ok (.getfield 41, 3) := by decide +kernel
theorem dX5_peace_63 : decode cX5_peace 63 = .ok (.iload 6, 2) := by decide +kernel
theorem dX5_peace_65 : decode cX5_peace 65 = .ok (.iload_n 3, 1) := by decide +kernel
theorem dX5_peace_66 : decode cX5_peace 66 = .ok (.iload 6, 2) := by decide +kernel
theorem dX5_peace_68 : decode cX5_peace 68 = .ok (.invokestatic 143, 3) := by decide +kernel
theorem dX5_peace_71 : decode cX5_peace 71 = .ok (.ifCond .eq 17, 3) := by decide +kernel
theorem dX5_peace_74 : decode cX5_peace 74 = .ok (.aload_n 0, 1) := by decide +kernel
theorem dX5_peace_75 : decode cX5_peace 75 = .ok (.iload 6, 2) := by decide +kernel
theorem dX5_peace_77 : decode cX5_peace 77 = .ok (.invokevirtual 147, 3) := by decide +kernel
theorem dX5_peace_80 : decode cX5_peace 80 = .ok (.iload_n 1, 1) := by decide +kernel
theorem dX5_peace_81 : decode cX5_peace 81 = .ok (.imul, 1) := by decide +kernel
theorem dX5_peace_82 : decode cX5_peace 82 = .ok (.iload 4, 2) := by decide +kernel
theorem dX5_peace_84 : decode cX5_peace 84 = .ok (.idiv, 1) := by decide +kernel
theorem dX5_peace_85 : decode cX5_peace 85 = .ok (.goto 4, 3) := by decide +kernel
theorem dX5_peace_88 : decode cX5_peace 88 = .ok (.iconst 0, 1) := by decide +kernel
theorem dX5_peace_89 : decode cX5_peace 89 = .ok (.iastore, 1) := by decide +kernel
theorem dX5_peace_90 : decode cX5_peace 90 = .ok (.iload 5, 2) := by decide +kernel
theorem dX5_peace_92 : decode cX5_peace 92 = .ok (.aload_n 0, 1) := by decide +kernel
theorem dX5_peace_93 : decode cX5_peace 93 = .ok (.getfield 41, 3) := by decide +kernel
theorem dX5_peace_96 : decode cX5_peace 96 = .ok (.iload 6, 2) := by decide +kernel
theorem dX5_peace_98 : decode cX5_peace 98 = .ok (.iaload, 1) := by decide +kernel
theorem dX5_peace_99 : decode cX5_peace 99 = .ok (.isub, 1) := by decide +kernel
theorem dX5_peace_100 : decode cX5_peace 100 = .ok (.istore 5, 2) := by decide +kernel
theorem dX5_peace_102 : decode cX5_peace 102 = .ok (.iinc 6 1, 3) := by decide +kernel
theorem dX5_peace_105 : decode cX5_peace 105 = .ok (.goto (-53), 3) := by decide +kernel
theorem dX5_peace_108 : decode cX5_peace 108 = .ok (.iconst 0, 1) := by decide +kernel
theorem dX5_peace_109 : decode cX5_peace 109 = .ok (.istore 6, 2) := by decide +kernel
theorem dX5_peace_111 : decode cX5_peace 111 = .ok (.iload 6, 2) := by decide +kernel
theorem dX5_peace_113 : decode cX5_peace 113 = .ok (.bipush 6, 2) := by decide +kernel
theorem dX5_peace_115 : decode cX5_peace 115 = .ok (.if_icmp .ge 37, 3) := by decide +kernel
theorem dX5_peace_118 : decode cX5_peace 118 = .ok (.iload_n 3, 1) := by decide +kernel
theorem dX5_peace_119 : decode cX5_peace 119 = .ok (.iload 6, 2) := by decide +kernel
theorem dX5_peace_121 : decode cX5_peace 121 = .ok (.invokestatic 143, 3) := by decide +kernel
theorem dX5_peace_124 : decode cX5_peace 124 = .ok (.ifCond .eq 22, 3) := by decide +kernel
theorem dX5_peace_127 : decode cX5_peace 127 = .ok (.iload 5, 2) := by decide +kernel
theorem dX5_peace_129 : decode cX5_peace 129 = .ok (.ifCond .le 17, 3) := by decide +kernel
theorem dX5_peace_132 : decode cX5_peace 132 = .ok (.aload_n 0, 1) := by decide +kernel
theorem dX5_peace_133 : decode cX5_peace 133 = .ok (.getfield 41, 3) := by decide +kernel
theorem dX5_peace_136 : decode cX5_peace 136 = .ok (.iload 6, 2) := by decide +kernel
theorem dX5_peace_138 : decode cX5_peace 138 = .ok (.dup2, 1) := by decide +kernel
theorem dX5_peace_139 : decode cX5_peace 139 = .ok (.iaload, 1) := by decide +kernel
theorem dX5_peace_140 : decode cX5_peace 140 = .ok (.iconst 1, 1) := by decide +kernel
theorem dX5_peace_141 : decode cX5_peace 141 = .ok (.iadd, 1) := by decide +kernel
theorem dX5_peace_142 : decode cX5_peace 142 = .ok (.iastore, 1) := by decide +kernel
theorem dX5_peace_143 : decode cX5_peace 143 = .ok (.iinc 5 (-1), 3) := by decide +kernel
theorem dX5_peace_146 : decode cX5_peace 146 = .ok (.iinc 6 1, 3) := by decide +kernel
theorem dX5_peace_149 : decode cX5_peace 149 = .ok (.goto (-38), 3) := by decide +kernel
theorem dX5_peace_152 : decode cX5_peace 152 = .ok (.aload_n 0, 1) := by decide +kernel
theorem dX5_peace_153 : decode cX5_peace 153 = .ok (.iload_n 2, 1) := by decide +kernel
theorem dX5_peace_154 : decode cX5_peace 154 = .ok (.invokevirtual 198, 3) := by decide +kernel
theorem dX5_peace_157 : decode cX5_peace 157 = .ok (.iconst 0, 1) := by decide +kernel
theorem dX5_peace_158 : decode cX5_peace 158 = .ok (.istore 6, 2) := by decide +kernel
theorem dX5_peace_160 : decode cX5_peace 160 = .ok (.iload 6, 2) := by decide +kernel
theorem dX5_peace_162 : decode cX5_peace 162 = .ok (.aload_n 0, 1) := by decide +kernel
theorem dX5_peace_163 : decode cX5_peace 163 = .ok (.getfield 25, 3) := by decide +kernel
theorem dX5_peace_166 : decode cX5_peace 166 = .ok (.bipush 7, 2) := by decide +kernel
theorem dX5_peace_168 : decode cX5_peace 168 = .ok (.iaload, 1) := by decide +kernel
theorem dX5_peace_169 : decode cX5_peace 169 = .ok (.if_icmp .ge 88, 3) := by decide +kernel
theorem dX5_peace_172 : decode cX5_peace 172 = .ok (.iconst 0, 1) := by decide +kernel
theorem dX5_peace_173 : decode cX5_peace 173 = .ok (.istore 7, 2) := by decide +kernel
theorem dX5_peace_175 : decode cX5_peace 175 = .ok (.iload 7, 2) := by decide +kernel
theorem dX5_peace_177 : decode cX5_peace 177 = .ok (.aload_n 0, 1) := by decide +kernel
theorem dX5_peace_178 : decode cX5_peace 178 = .ok (.getfield 25, 3) := by decide +kernel
theorem dX5_peace_181 : decode cX5_peace 181 = .ok (.bipush 7, 2) := by decide +kernel
theorem dX5_peace_183 : decode cX5_peace 183 = .ok (.iaload, 1) := by decide +kernel
theorem dX5_peace_184 : decode cX5_peace 184 = .ok (.if_icmp .ge 67, 3) := by decide +kernel
theorem dX5_peace_187 : decode cX5_peace 187 = .ok (.iload_n 3, 1) := by decide +kernel
theorem dX5_peace_188 : decode cX5_peace 188 = .ok (.iload 6, 2) := by decide +kernel
theorem dX5_peace_190 : decode cX5_peace 190 = .ok (.invokestatic 143, 3) := by decide +kernel
theorem dX5_peace_193 : decode cX5_peace 193 = .ok (.ifCond .eq 52, 3) := by decide +kernel
theorem dX5_peace_196 : decode cX5_peace 196 = .ok (.iload_n 3, 1) := by decide +kernel
theorem dX5_peace_197 : decode cX5_peace 197 = .ok (.iload 7, 2) := by decide +kernel
theorem dX5_peace_199 : decode cX5_peace 199 = .ok (.invokestatic 143, 3) := by decide +kernel
theorem dX5_peace_202 : decode cX5_peace 202 = .ok (.ifCond .eq 43, 3) := by decide +kernel
theorem dX5_peace_205 : decode cX5_peace 205 = .ok (.aload_n 0, 1) := by decide +kernel
theorem dX5_peace_206 : decode cX5_peace 206 = .ok (.getfield 41, 3) := by decide +kernel
theorem dX5_peace_209 : decode cX5_peace 209 = .ok (.iload 6, 2) := by decide +kernel
theorem dX5_peace_211 : decode cX5_peace 211 = .ok (.iaload, 1) := by decide +kernel
theorem dX5_peace_212 : decode cX5_peace 212 = .ok (.aload_n 0, 1) := by decide +kernel
theorem dX5_peace_213 : decode cX5_peace 213 = .ok (.getfield 41, 3) := by decide +kernel
theorem dX5_peace_216 : decode cX5_peace 216 = .ok (.iload 7, 2) := by decide +kernel
theorem dX5_peace_218 : decode cX5_peace 218 = .ok (.iaload, 1) := by decide +kernel
theorem dX5_peace_219 : decode cX5_peace 219 = .ok (.if_icmp .ge 26, 3) := by decide +kernel
theorem dX5_peace_222 : decode cX5_peace 222 = .ok (.aload_n 0, 1) := by decide +kernel
theorem dX5_peace_223 : decode cX5_peace 223 = .ok (.iload 7, 2) := by decide +kernel
theorem dX5_peace_225 : decode cX5_peace 225 = .ok (.invokevirtual 147, 3) := by decide +kernel
theorem dX5_peace_228 : decode cX5_peace 228 = .ok (.aload_n 0, 1) := by decide +kernel
theorem dX5_peace_229 : decode cX5_peace 229 = .ok (.iload 6, 2) := by decide +kernel
theorem dX5_peace_231 : decode cX5_peace 231 = .ok (.invokevirtual 147, 3) := by decide +kernel
theorem dX5_peace_234 : decode cX5_peace 234 = .ok (.if_icmp .gt 11, 3) := by decide +kernel
theorem dX5_peace_237 : decode cX5_peace 237 = .ok (.aload_n 0, 1) := by decide +kernel
theorem dX5_peace_238 : decode cX5_peace 238 = .ok (.getfield 41, 3) := by decide +kernel
theorem dX5_peace_241 : decode cX5_peace 241 = .ok (.iload 6, 2) := by decide +kernel
theorem dX5_peace_243 : decode cX5_peace 243 = .ok (.iaload, 1) := by decide +kernel
theorem dX5_peace_244 : decode cX5_peace 244 = .ok (.ireturn, 1) := by decide +kernel
theorem dX5_peace_245 : decode cX5_peace 245 = .ok (.iinc 7 1, 3) := by decide +kernel
theorem dX5_peace_248 : decode cX5_peace 248 = .ok (.goto (-73), 3) := by decide +kernel
theorem dX5_peace_251 : decode cX5_peace 251 = .ok (.iinc 6 1, 3) := by decide +kernel
theorem dX5_peace_254 : decode cX5_peace 254 = .ok (.goto (-94), 3) := by decide +kernel
theorem dX5_peace_257 : decode cX5_peace 257 = .ok (.bipush (-9), 2) := by decide +kernel
theorem dX5_peace_259 : decode cX5_peace 259 = .ok (.ireturn, 1) := by decide +kernel
theorem dX5_costOf_0 : decode cX5_costOf 0 = .ok (.iload_n 1, 1) := by decide +kernel
theorem dX5_costOf_1 : decode cX5_costOf 1 = .ok (.aload_n 0, 1) := by decide +kernel
theorem dX5_costOf_2 : decode cX5_costOf 2 = .ok (.getfield 25, 3) := by decide +kernel
theorem dX5_costOf_5 : decode cX5_costOf 5 = .ok (.iconst 1, 1) := by decide +kernel
theorem dX5_costOf_6 : decode cX5_costOf 6 = .ok (.iaload, 1) := by decide +kernel
theorem dX5_costOf_7 : decode cX5_costOf 7 = .ok (.aload_n 0, 1) := by decide +kernel
theorem dX5_costOf_8 : decode cX5_costOf 8 = .ok (.getfield 25, 3) := by decide +kernel
theorem dX5_costOf_11 : decode cX5_costOf 11 = .ok (.iconst 2, 1) := by decide +kernel
theorem dX5_costOf_12 : decode cX5_costOf 12 = .ok (.iaload, 1) := by decide +kernel
theorem dX5_costOf_13 : decode cX5_costOf 13 = .ok (.iconst 1, 1) := by decide +kernel
theorem dX5_costOf_14 : decode cX5_costOf 14 = .ok (.isub, 1) := by decide +kernel
theorem dX5_costOf_15 : decode cX5_costOf 15 = .ok (.invokestatic 73, 3) := by decide +kernel
theorem dX5_costOf_18 : decode cX5_costOf 18 = .ok (.ifCond .eq 5, 3) := by decide +kernel
theorem dX5_costOf_21 : decode cX5_costOf 21 = .ok (.iconst 1, 1) := by decide +kernel
theorem dX5_costOf_22 : decode cX5_costOf 22 = .ok (.ireturn, 1) := by decide +kernel
theorem dX5_costOf_23 : decode cX5_costOf 23 = .ok (.iconst 0, 1) := by decide +kernel
theorem dX5_costOf_24 : decode cX5_costOf 24 = .ok (.istore_n 2, 1) := by decide +kernel
theorem dX5_costOf_25 : decode cX5_costOf 25 = .ok (.iconst 0, 1) := by decide +kernel
theorem dX5_costOf_26 : decode cX5_costOf 26 = .ok (.istore_n 3, 1) := by decide +kernel
theorem dX5_costOf_27 : decode cX5_costOf 27 = .ok (.iload_n 3, 1) := by decide +kernel
theorem dX5_costOf_28 : decode cX5_costOf 28 = .ok (.aload_n 0, 1) := by decide +kernel
theorem dX5_costOf_29 : decode cX5_costOf 29 = .ok (.getfield 25, 3) := by decide +kernel
theorem dX5_costOf_32 : decode cX5_costOf 32 = .ok (.bipush 7, 2) := by decide +kernel
theorem dX5_costOf_34 : decode cX5_costOf 34 = .ok (.iaload, 1) := by decide +kernel
theorem dX5_costOf_35 : decode cX5_costOf 35 = .ok (.if_icmp .ge 54, 3) := by decide +kernel
theorem dX5_costOf_38 : decode cX5_costOf 38 = .ok (.iload_n 2, 1) := by decide +kernel
theorem dX5_costOf_39 : decode cX5_costOf 39 = .ok (.aload_n 0, 1) := by decide +kernel
theorem dX5_costOf_40 : decode cX5_costOf 40 = .ok (.getfield 25, 3) := by decide +kernel
theorem dX5_costOf_43 : decode cX5_costOf 43 = .ok (.bipush 10, 2) := by decide +kernel
theorem dX5_costOf_45 : decode cX5_costOf 45 = .ok (.iconst 5, 1) := by decide +kernel
theorem dX5_costOf_46 : decode cX5_costOf 46 = .ok (.iload_n 3, 1) := by decide +kernel
theorem dX5_costOf_47 : decode cX5_costOf 47 = .ok (.imul, 1) := by decide +kernel
theorem dX5_costOf_48 : decode cX5_costOf 48 = .ok (.iadd, 1) := by decide +kernel
theorem dX5_costOf_49 : decode cX5_costOf 49 = .ok (.iconst 1, 1) := by decide +kernel
theorem dX5_costOf_50 : decode cX5_costOf 50 = .ok (.iadd, 1) := by decide +kernel
theorem dX5_costOf_51 : decode cX5_costOf 51 = .ok (.iaload, 1) := by decide +kernel
theorem dX5_costOf_52 : decode cX5_costOf 52 = .ok (.iload_n 1, 1) := by decide +kernel
theorem dX5_costOf_53 : decode cX5_costOf 53 = .ok (.if_icmp .ne 27, 3) := by decide +kernel
theorem dX5_costOf_56 : decode cX5_costOf 56 = .ok (.aload_n 0, 1) := by decide +kernel
theorem dX5_costOf_57 : decode cX5_costOf 57 = .ok (.iload_n 3, 1) := by decide +kernel
theorem dX5_costOf_58 : decode cX5_costOf 58 = .ok (.aload_n 0, 1) := by decide +kernel
theorem dX5_costOf_59 : decode cX5_costOf 59 = .ok (.getfield 25, 3) := by decide +kernel
theorem dX5_costOf_62 : decode cX5_costOf 62 = .ok (.iconst 1, 1) := by decide +kernel
theorem dX5_costOf_63 : decode cX5_costOf 63 = .ok (.iaload, 1) := by decide +kernel
theorem dX5_costOf_64 : decode cX5_costOf 64 = .ok (.aload_n 0, 1) := by decide +kernel
theorem dX5_costOf_65 : decode cX5_costOf 65 = .ok (.getfield 25, 3) := by decide +kernel
theorem dX5_costOf_68 : decode cX5_costOf 68 = .ok (.iconst 2, 1) := by decide +kernel
theorem dX5_costOf_69 : decode cX5_costOf 69 = .ok (.iaload, 1) := by decide +kernel
theorem dX5_costOf_70 : decode cX5_costOf 70 = .ok (.invokevirtual 137, 3) := by decide +kernel
theorem dX5_costOf_73 : decode cX5_costOf 73 = .ok (.ifCond .ne 7, 3) := by decide +kernel
theorem dX5_costOf_76 : decode cX5_costOf 76 = .ok (.iconst 1, 1) := by decide +kernel
theorem dX5_costOf_77 : decode cX5_costOf 77 = .ok (.goto 4, 3) := by decide +kernel
theorem dX5_costOf_80 : decode cX5_costOf 80 = .ok (.iconst 0, 1) := by decide +kernel
theorem dX5_costOf_81 : decode cX5_costOf 81 = .ok (.iadd, 1) := by decide +kernel
theorem dX5_costOf_82 : decode cX5_costOf 82 = .ok (.istore_n 2, 1) := by decide +kernel
theorem dX5_costOf_83 : decode cX5_costOf 83 = .ok (.iinc 3 1, 3) := by decide +kernel
theorem dX5_costOf_86 : decode cX5_costOf 86 = .ok (.goto (-59), 3) := by decide +kernel
theorem dX5_costOf_89 : decode cX5_costOf 89 = .ok (.iload_n 1, 1) := by decide +kernel
theorem dX5_costOf_90 : decode cX5_costOf 90 = .ok (.aload_n 0, 1) := by decide +kernel
theorem dX5_costOf_91 : decode cX5_costOf 91 = .ok (.getfield 25, 3) := by decide +kernel
theorem dX5_costOf_94 : decode cX5_costOf 94 = .ok (.iconst 1, 1) := by decide +kernel
theorem dX5_costOf_95 : decode cX5_costOf 95 = .ok (.iaload, 1) := by decide +kernel
theorem dX5_costOf_96 : decode cX5_costOf 96 = .ok (.if_icmp .ge 7, 3) := by decide +kernel
theorem dX5_costOf_99 : decode cX5_costOf 99 = .ok (.iconst 2, 1) := by decide +kernel
theorem dX5_costOf_100 : decode cX5_costOf 100 = .ok (.goto 4, 3) := by decide +kernel
theorem dX5_costOf_103 : decode cX5_costOf 103 = .ok (.iconst 3, 1) := by decide +kernel
theorem dX5_costOf_104 : decode cX5_costOf 104 = .ok (.iload_n 2, 1) := by decide +kernel
theorem dX5_costOf_105 : decode cX5_costOf 105 = .ok (.ifCond .le 7, 3) := by decide +kernel
theorem dX5_costOf_108 : decode cX5_costOf 108 = .ok (.iconst 1, 1) := by decide +kernel
theorem dX5_costOf_109 : decode cX5_costOf 109 = .ok (.goto 4, 3) := by decide +kernel
theorem dX5_costOf_112 : decode cX5_costOf 112 = .ok (.iconst 0, 1) := by decide +kernel
theorem dX5_costOf_113 : decode cX5_costOf 113 = .ok (.iadd, 1) := by decide +kernel
theorem dX5_costOf_114 : decode cX5_costOf 114 = .ok (.ireturn, 1) := by decide +kernel
theorem dX5_wayTo_0 : decode cX5_wayTo 0 = .ok (.iconst 0, 1) := by decide +kernel
theorem dX5_wayTo_1 : decode cX5_wayTo 1 = .ok (.istore_n 3, 1) := by decide +kernel
theorem dX5_wayTo_2 : decode cX5_wayTo 2 = .ok (.iconst 0, 1) := by decide +kernel
theorem dX5_wayTo_3 : decode cX5_wayTo 3 = .ok (.istore 4, 2) := by decide +kernel
theorem dX5_wayTo_5 : decode cX5_wayTo 5 = .ok (.iload 4, 2) := by decide +kernel
theorem dX5_wayTo_7 : decode cX5_wayTo 7 = .ok (.aload_n 0, 1) := by decide +kernel
theorem dX5_wayTo_8 : decode cX5_wayTo 8 = .ok (.getfield 25, 3) := by decide +kernel
theorem dX5_wayTo_11 : decode cX5_wayTo 11 = .ok (.iconst 0, 1) := by decide +kernel
theorem dX5_wayTo_12 : decode cX5_wayTo 12 = .ok (.iaload, 1) := by decide +kernel
theorem dX5_wayTo_13 : decode cX5_wayTo 13 = .ok (.if_icmp .ge 71, 3) := by decide +kernel
theorem dX5_wayTo_16 : decode cX5_wayTo 16 = .ok (.iload_n 1, 1) := by decide +kernel
theorem dX5_wayTo_17 : decode cX5_wayTo 17 = .ok (.iload_n 2, 1) := by decide +kernel
theorem dX5_wayTo_18 : decode cX5_wayTo 18 = .ok (.if_icmp .ge 23, 3) := by decide +kernel
theorem dX5_wayTo_21 : decode cX5_wayTo 21 = .ok (.iload 4, 2) := by decide +kernel
theorem dX5_wayTo_23 : decode cX5_wayTo 23 = .ok (.iload_n 1, 1) := by decide +kernel
theorem dX5_wayTo_24 : decode cX5_wayTo 24 = .ok (.if_icmp .le 13, 3) := by decide +kernel
theorem dX5_wayTo_27 : decode cX5_wayTo 27 = .ok (.iload 4, 2) := by decide +kernel
theorem dX5_wayTo_29 : decode cX5_wayTo 29 = .ok (.iload_n 2, 1) := by decide +kernel
theorem dX5_wayTo_30 : decode cX5_wayTo 30 = .ok (.if_icmp .gt 7, 3) := by decide +kernel
theorem dX5_wayTo_33 : decode cX5_wayTo 33 = .ok (.iconst 1, 1) := by decide +kernel
theorem dX5_wayTo_34 : decode cX5_wayTo 34 = .ok (.goto 24, 3) := by decide +kernel
theorem dX5_wayTo_37 : decode cX5_wayTo 37 = .ok (.iconst 0, 1) := by decide +kernel
theorem dX5_wayTo_38 : decode cX5_wayTo 38 = .ok (.goto 20, 3) := by decide +kernel
theorem dX5_wayTo_41 : decode cX5_wayTo 41 = .ok (.iload 4, 2) := by decide +kernel
theorem dX5_wayTo_43 : decode cX5_wayTo 43 = .ok (.iload_n 1, 1) := by decide +kernel
theorem dX5_wayTo_44 : decode cX5_wayTo 44 = .ok (.if_icmp .ge 13, 3) := by decide +kernel
theorem dX5_wayTo_47 : decode cX5_wayTo 47 = .ok (.iload 4, 2) := by decide +kernel
theorem dX5_wayTo_49 : decode cX5_wayTo 49 = .ok (.iload_n 2, 1) := by decide +kernel
theorem dX5_wayTo_50 : decode cX5_wayTo 50 = .ok (.if_icmp .lt 7, 3) := by decide +kernel
theorem dX5_wayTo_53 : decode cX5_wayTo 53 = .ok (.iconst 1, 1) := by decide +kernel
theorem dX5_wayTo_54 : decode cX5_wayTo 54 = .ok (.goto 4, 3) := by decide +kernel
theorem dX5_wayTo_57 : decode cX5_wayTo 57 = .ok (.iconst 0, 1) := by decide +kernel
theorem dX5_wayTo_58 : decode cX5_wayTo 58 = .ok (.istore 5, 2) := by decide +kernel
theorem dX5_wayTo_60 : decode cX5_wayTo 60 = .ok (.iload_n 3, 1) := by decide +kernel
theorem dX5_wayTo_61 : decode cX5_wayTo 61 = .ok (.iload 5, 2) := by decide +kernel
theorem dX5_wayTo_63 : decode cX5_wayTo 63 = .ok (.ifCond .eq 12, 3) := by decide +kernel
theorem dX5_wayTo_66 : decode cX5_wayTo 66 = .ok (.aload_n 0, 1) := by decide +kernel
theorem dX5_wayTo_67 : decode cX5_wayTo 67 = .ok (.iload 4, 2) := by decide +kernel
theorem dX5_wayTo_69 : decode cX5_wayTo 69 = .ok (.invokevirtual 213, 3) := by decide +kernel
theorem dX5_wayTo_72 : decode cX5_wayTo 72 = .ok (.goto 4, 3) := by decide +kernel
theorem dX5_wayTo_75 : decode cX5_wayTo 75 = .ok (.iconst 0, 1) := by decide +kernel
theorem dX5_wayTo_76 : decode cX5_wayTo 76 = .ok (.iadd, 1) := by decide +kernel
theorem dX5_wayTo_77 : decode cX5_wayTo 77 = .ok (.istore_n 3, 1) := by decide +kernel
theorem dX5_wayTo_78 : decode cX5_wayTo 78 = .ok (.iinc 4 1, 3) := by decide +kernel
theorem dX5_wayTo_81 : decode cX5_wayTo 81 = .ok (.goto (-76), 3) := by decide +kernel
theorem dX5_wayTo_84 : decode cX5_wayTo 84 = .ok (.iload_n 3, 1) := by decide +kernel
theorem dX5_wayTo_85 : decode cX5_wayTo 85 = .ok (.ireturn, 1) := by decide +kernel
theorem dX5_way_0 : decode cX5_way 0 = .ok (.aload_n 0, 1) := by decide +kernel
theorem dX5_way_1 : decode cX5_way 1 = .ok (.iload_n 1, 1) := by decide +kernel
theorem dX5_way_2 : decode cX5_way 2 = .ok (.invokevirtual 195, 3) := by decide +kernel
theorem dX5_way_5 : decode cX5_way 5 = .ok (.ifCond .eq 20, 3) := by decide +kernel
theorem dX5_way_8 : decode cX5_way 8 = .ok (.aload_n 0, 1) := by decide +kernel
theorem dX5_way_9 : decode cX5_way 9 = .ok (.iload_n 2, 1) := by decide +kernel
theorem dX5_way_10 : decode cX5_way 10 = .ok (.invokevirtual 195, 3) := by decide +kernel
theorem dX5_way_13 : decode cX5_way 13 = .ok (.ifCond .eq 12, 3) := by decide +kernel
theorem dX5_way_16 : decode cX5_way 16 = .ok (.aload_n 0, 1) := by decide +kernel
theorem dX5_way_17 : decode cX5_way 17 = .ok (.iload_n 1, 1) := by decide +kernel
theorem dX5_way_18 : decode cX5_way 18 = .ok (.iload_n 2, 1) := by decide +kernel
theorem dX5_way_19 : decode cX5_way 19 = .ok (.invokevirtual 216, 3) := by decide +kernel
theorem dX5_way_22 : decode cX5_way 22 = .ok (.goto 4, 3) := by decide +kernel
theorem dX5_way_25 : decode cX5_way 25 = .ok (.iconst (-1), 1) := by decide +kernel
theorem dX5_way_26 : decode cX5_way 26 = .ok (.ireturn, 1) := by decide +kernel
theorem dX5_farFrom_0 : decode cX5_farFrom 0 = .ok (.iconst 0, 1) := by decide +kernel
theorem dX5_farFrom_1 : decode cX5_farFrom 1 = .ok (.istore_n 2, 1) := by decide +kernel
theorem dX5_farFrom_2 : decode cX5_farFrom 2 = .ok (.iconst 0, 1) := by decide +kernel
theorem dX5_farFrom_3 : decode cX5_farFrom 3 = .ok (.istore_n 3, 1) := by decide +kernel
theorem dX5_farFrom_4 : decode cX5_farFrom 4 = .ok (.iload_n 3, 1) := by decide +kernel
theorem dX5_farFrom_5 : decode cX5_farFrom 5 = .ok (.aload_n 0, 1) := by decide +kernel
theorem dX5_farFrom_6 : decode cX5_farFrom 6 = .ok (.getfield 25, 3) := by decide +kernel
theorem dX5_farFrom_9 : decode cX5_farFrom 9 = .ok (.iconst 0, 1) := by decide +kernel
theorem dX5_farFrom_10 : decode cX5_farFrom 10 = .ok (.iaload, 1) := by decide +kernel
theorem dX5_farFrom_11 : decode cX5_farFrom 11 = .ok (.if_icmp .ge 18, 3) := by decide +kernel
theorem dX5_farFrom_14 : decode cX5_farFrom 14 = .ok (.iload_n 2, 1) := by decide +kernel
theorem dX5_farFrom_15 : decode cX5_farFrom 15 = .ok (.aload_n 0, 1) := by decide +kernel
theorem dX5_farFrom_16 : decode cX5_farFrom 16 = .ok (.iload_n 1, 1) := by decide +kernel
theorem dX5_farFrom_17 : decode cX5_farFrom 17 = .ok (.iload_n 3, 1) := by decide +kernel
theorem dX5_farFrom_18 : decode cX5_farFrom 18 = .ok (.invokevirtual 216, 3) := by decide +kernel
theorem dX5_farFrom_21 : decode cX5_farFrom 21 = .ok (.iadd, 1) := by decide +kernel
theorem dX5_farFrom_22 : decode cX5_farFrom 22 = .ok (.istore_n 2, 1) := by decide +kernel
theorem dX5_farFrom_23 : decode cX5_farFrom 23 = .ok (.iinc 3 1, 3) := by decide +kernel
theorem dX5_farFrom_26 : decode cX5_farFrom 26 = .ok (.goto (-22), 3) := by decide +kernel
theorem dX5_farFrom_29 : decode cX5_farFrom 29 = .ok (.iload_n 2, 1) := by decide +kernel
theorem dX5_farFrom_30 : decode cX5_farFrom 30 = .ok (.ireturn, 1) := by decide +kernel
theorem dX5_far_0 : decode cX5_far 0 = .ok (.aload_n 0, 1) := by decide +kernel
theorem dX5_far_1 : decode cX5_far 1 = .ok (.iload_n 1, 1) := by decide +kernel
theorem dX5_far_2 : decode cX5_far 2 = .ok (.invokevirtual 195, 3) := by decide +kernel
theorem dX5_far_5 : decode cX5_far 5 = .ok (.ifCond .ne 5, 3) := by decide +kernel
theorem dX5_far_8 : decode cX5_far 8 = .ok (.iconst (-1), 1) := by decide +kernel
theorem dX5_far_9 : decode cX5_far 9 = .ok (.ireturn, 1) := by decide +kernel
theorem dX5_far_10 : decode cX5_far 10 = .ok (.iconst 0, 1) := by decide +kernel
theorem dX5_far_11 : decode cX5_far 11 = .ok (.istore_n 2, 1) := by decide +kernel
theorem dX5_far_12 : decode cX5_far 12 = .ok (.iconst 1, 1) := by decide +kernel
theorem dX5_far_13 : decode cX5_far 13 = .ok (.istore_n 3, 1) := by decide +kernel
theorem dX5_far_14 : decode cX5_far 14 = .ok (.iload_n 3, 1) := by decide +kernel
theorem dX5_far_15 : decode cX5_far 15 = .ok (.aload_n 0, 1) := by decide +kernel
theorem dX5_far_16 : decode cX5_far 16 = .ok (.getfield 25, 3) := by decide +kernel
theorem dX5_far_19 : decode cX5_far 19 = .ok (.iconst 0, 1) := by decide +kernel
theorem dX5_far_20 : decode cX5_far 20 = .ok (.iaload, 1) := by decide +kernel
theorem dX5_far_21 : decode cX5_far 21 = .ok (.if_icmp .ge 28, 3) := by decide +kernel
theorem dX5_far_24 : decode cX5_far 24 = .ok (.aload_n 0, 1) := by decide +kernel
theorem dX5_far_25 : decode cX5_far 25 = .ok (.iload_n 3, 1) := by decide +kernel
theorem dX5_far_26 : decode cX5_far 26 = .ok (.invokevirtual 219, 3) := by decide +kernel
theorem dX5_far_29 : decode cX5_far 29 = .ok (.aload_n 0, 1) := by decide +kernel
theorem dX5_far_30 : decode cX5_far 30 = .ok (.iload_n 2, 1) := by decide +kernel
theorem dX5_far_31 : decode cX5_far 31 = .ok (.invokevirtual 219, 3) := by decide +kernel
theorem dX5_far_34 : decode cX5_far 34 = .ok (.if_icmp .ge 7, 3) := by decide +kernel
theorem dX5_far_37 : decode cX5_far 37 = .ok (.iload_n 3, 1) := by decide +kernel
theorem dX5_far_38 : decode cX5_far 38 = .ok (.goto 4, 3) := by decide +kernel
theorem dX5_far_41 : decode cX5_far 41 = .ok (.iload_n 2, 1) := by decide +kernel
theorem dX5_far_42 : decode cX5_far 42 = .ok (.istore_n 2, 1) := by decide +kernel
theorem dX5_far_43 : decode cX5_far 43 = .ok (.iinc 3 1, 3) := by decide +kernel
theorem dX5_far_46 : decode cX5_far 46 = .ok (.goto (-32), 3) := by decide +kernel
theorem dX5_far_49 : decode cX5_far 49 = .ok (.aload_n 0, 1) := by decide +kernel
theorem dX5_far_50 : decode cX5_far 50 = .ok (.aload_n 0, 1) := by decide +kernel
theorem dX5_far_51 : decode cX5_far 51 = .ok (.iload_n 1, 1) := by decide +kernel
theorem dX5_far_52 : decode cX5_far 52 = .ok (.invokevirtual 219, 3) := by decide +kernel
theorem dX5_far_55 : decode cX5_far 55 = .ok (.iload_n 2, 1) := by decide +kernel
theorem dX5_far_56 : decode cX5_far 56 = .ok (.invokevirtual 93, 3) := by decide +kernel
theorem dX5_far_59 : decode cX5_far 59 = .ok (.ireturn, 1) := by decide +kernel
theorem dX5_barred_0 : decode cX5_barred 0 = .ok (.aload_n 0, 1) := by decide +kernel
theorem dX5_barred_1 : decode cX5_barred 1 = .ok (.iload_n 1, 1) := by decide +kernel
theorem dX5_barred_2 : decode cX5_barred 2 = .ok (.invokevirtual 150, 3) := by decide +kernel
theorem dX5_barred_5 : decode cX5_barred 5 = .ok (.ifCond .eq 10, 3) := by decide +kernel
theorem dX5_barred_8 : decode cX5_barred 8 = .ok (.iload_n 2, 1) := by decide +kernel
theorem dX5_barred_9 : decode cX5_barred 9 = .ok (.invokestatic 77, 3) := by decide +kernel
theorem dX5_barred_12 : decode cX5_barred 12 = .ok (.ifCond .ne 5, 3) := by decide +kernel
theorem dX5_barred_15 : decode cX5_barred 15 = .ok (.iconst (-1), 1) := by decide +kernel
theorem dX5_barred_16 : decode cX5_barred 16 = .ok (.ireturn, 1) := by decide +kernel
theorem dX5_barred_17 : decode cX5_barred 17 = .ok (.aload_n 0, 1) := by decide +kernel
theorem dX5_barred_18 : decode cX5_barred 18 = .ok (.getfield 7, 3) := by decide +kernel
theorem dX5_barred_21 : decode cX5_barred 21 = .ok (.iload_n 2, 1) := by decide +kernel
theorem dX5_barred_22 : decode cX5_barred 22 = .ok (.iaload, 1) := by decide +kernel
theorem dX5_barred_23 : decode cX5_barred 23 = .ok (.ifCond .ge 9, 3) := by decide +kernel
theorem dX5_barred_26 : decode cX5_barred 26 = .ok (.aload_n 0, 1) := by decide +kernel
theorem dX5_barred_27 : decode cX5_barred 27 = .ok (.iconst 1, 1) := by decide +kernel
theorem dX5_barred_28 : decode cX5_barred 28 = .ok (.invokevirtual 81, 3) := by decide +kernel
theorem dX5_barred_31 : decode cX5_barred 31 = .ok (.ireturn, 1) := by decide +kernel
theorem dX5_barred_32 : decode cX5_barred 32 = .ok (.aload_n 0, 1) := by decide +kernel
theorem dX5_barred_33 : decode cX5_barred 33 = .ok (.getfield 7, 3) := by decide +kernel
theorem dX5_barred_36 : decode cX5_barred 36 = .ok (.iload_n 2, 1) := by decide +kernel
theorem dX5_barred_37 : decode cX5_barred 37 = .ok (.iaload, 1) := by decide +kernel
theorem dX5_barred_38 : decode cX5_barred 38 = .ok (.iconst 3, 1) := by decide +kernel
theorem dX5_barred_39 : decode cX5_barred 39 = .ok (.irem, 1) := by decide +kernel
theorem dX5_barred_40 : decode cX5_barred 40 = .ok (.ifCond .eq 9, 3) := by decide +kernel
theorem dX5_barred_43 : decode cX5_barred 43 = .ok (.aload_n 0, 1) := by decide +kernel
theorem dX5_barred_44 : decode cX5_barred 44 = .ok (.iconst 5, 1) := by decide +kernel
theorem dX5_barred_45 : decode cX5_barred 45 = .ok (.invokevirtual 81, 3) := by decide +kernel
theorem dX5_barred_48 : decode cX5_barred 48 = .ok (.ireturn, 1) := by decide +kernel
theorem dX5_barred_49 : decode cX5_barred 49 = .ok (.iconst 1, 1) := by decide +kernel
theorem dX5_barred_50 : decode cX5_barred 50 = .ok (.istore_n 3, 1) := by decide +kernel
theorem dX5_barred_51 : decode cX5_barred 51 = .ok (.iconst 0, 1) := by decide +kernel
theorem dX5_barred_52 : decode cX5_barred 52 = .ok (.istore 4, 2) := by decide +kernel
theorem dX5_barred_54 : decode cX5_barred 54 = .ok (.iload 4, 2) := by decide +kernel
theorem dX5_barred_56 : decode cX5_barred 56 = .ok (.aload_n 0, 1) := by decide +kernel
theorem dX5_barred_57 : decode cX5_barred 57 = .ok (.getfield 7, 3) := by decide +kernel
theorem dX5_barred_60 : decode cX5_barred 60 = .ok (.iload_n 2, 1) := by decide +kernel
theorem dX5_barred_61 : decode cX5_barred 61 = .ok (.iaload, 1) := by decide +kernel
theorem dX5_barred_62 : decode cX5_barred 62 = .ok (.if_icmp .ge 68, 3) := by decide +kernel
theorem dX5_barred_65 : decode cX5_barred 65 = .ok (.bipush 40, 2) := by decide +kernel
theorem dX5_barred_67 : decode cX5_barred 67 = .ok (.iload_n 2, 1) := by decide +kernel
theorem dX5_barred_68 : decode cX5_barred 68 = .ok (.imul, 1) := by decide +kernel
theorem dX5_barred_69 : decode cX5_barred 69 = .ok (.iload 4, 2) := by decide +kernel
theorem dX5_barred_71 : decode cX5_barred 71 = .ok (.iadd, 1) := by decide +kernel
theorem dX5_barred_72 : decode cX5_barred 72 = .ok (.istore 5, 2) := by decide +kernel
theorem dX5_barred_74 : decode cX5_barred 74 = .ok (.iload_n 3, 1) := by decide +kernel
theorem dX5_barred_75 : decode cX5_barred 75 = .ok (.ifCond .eq 47, 3) := by decide +kernel
theorem dX5_barred_78 : decode cX5_barred 78 = .ok (.aload_n 0, 1) := by decide +kernel
theorem dX5_barred_79 : decode cX5_barred 79 = .ok (.aload_n 0, 1) := by decide +kernel
theorem dX5_barred_80 : decode cX5_barred 80 = .ok (.getfield 13, 3) := by decide +kernel
theorem dX5_barred_83 : decode cX5_barred 83 = .ok (.iload 5, 2) := by decide +kernel
theorem dX5_barred_85 : decode cX5_barred 85 = .ok (.iaload, 1) := by decide +kernel
theorem dX5_barred_86 : decode cX5_barred 86 = .ok (.aload_n 0, 1) := by decide +kernel
theorem dX5_barred_87 : decode cX5_barred 87 = .ok (.getfield 13, 3) := by decide +kernel
theorem dX5_barred_90 : decode cX5_barred 90 = .ok (.iload 5, 2) := by decide +kernel
theorem dX5_barred_92 : decode cX5_barred 92 = .ok (.iconst 1, 1) := by decide +kernel
theorem dX5_barred_93 : decode cX5_barred 93 = .ok (.iadd, 1) := by decide +kernel
theorem dX5_barred_94 : decode cX5_barred 94 = .ok (.iaload, 1) := by decide +kernel
theorem dX5_barred_95 : decode cX5_barred 95 = .ok (.invokevirtual 192, 3) := by decide +kernel
theorem dX5_barred_98 : decode cX5_barred 98 = .ok (.ifCond .eq 24, 3) := by decide +kernel
theorem dX5_barred_101 : decode cX5_barred 101 = .ok (.aload_n 0, 1) := by decide +kernel
theorem dX5_barred_102 : decode cX5_barred 102 = .ok (.getfield 13, 3) := by decide +kernel
theorem dX5_barred_105 : decode cX5_barred 105 = .ok (.iload 5, 2) := by decide +kernel
theorem dX5_barred_107 : decode cX5_barred 107 = .ok (.iconst 2, 1) := by decide +kernel
theorem dX5_barred_108 : decode cX5_barred 108 = .ok (.iadd, 1) := by decide +kernel
theorem dX5_barred_109 : decode cX5_barred 109 = .ok (.iaload, 1) := by decide +kernel
theorem dX5_barred_110 : decode cX5_barred 110 = .ok (.iconst 0, 1) := by decide +kernel
theorem dX5_barred_111 : decode cX5_barred 111 = .ok (.iconst 1, 1) := by decide +kernel
theorem dX5_barred_112 : decode cX5_barred 112 = .ok (.invokestatic 73, 3) := by decide +kernel
theorem dX5_barred_115 : decode cX5_barred 115 = .ok (.ifCond .eq 7, 3) := by decide +kernel
theorem dX5_barred_118 : decode cX5_barred 118 = .ok (.iconst 1, 1) := by decide +kernel
theorem dX5_barred_119 : decode cX5_barred 119 = .ok (.goto 4, 3) := by decide +kernel
theorem dX5_barred_122 : decode cX5_barred 122 = .ok (.iconst 0, 1) := by decide +kernel
theorem dX5_barred_123 : decode cX5_barred 123 = .ok (.istore_n 3, 1) := by decide +kernel
theorem dX5_barred_124 : decode cX5_barred 124 = .ok (.iinc 4 3, 3) := by decide +kernel
theorem dX5_barred_127 : decode cX5_barred 127 = .ok (.goto (-73), 3) := by decide +kernel
theorem dX5_barred_130 : decode cX5_barred 130 = .ok (.iload_n 3, 1) := by decide +kernel
theorem dX5_barred_131 : decode cX5_barred 131 = .ok (.ifCond .eq 7, 3) := by decide +kernel
theorem dX5_barred_134 : decode cX5_barred 134 = .ok (.iconst 0, 1) := by decide +kernel
theorem dX5_barred_135 : decode cX5_barred 135 = .ok (.goto 8, 3) := by decide +kernel
theorem dX5_barred_138 : decode cX5_barred 138 = .ok (.aload_n 0, 1) := by decide +kernel
theorem dX5_barred_139 : decode cX5_barred 139 = .ok (.iconst 3, 1) := by decide +kernel
theorem dX5_barred_140 : decode cX5_barred 140 = .ok (.invokevirtual 81, 3) := by decide +kernel
theorem dX5_barred_143 : decode cX5_barred 143 = .ok (.ireturn, 1) := by decide +kernel
theorem dX5_goesWith_0 : decode cX5_goesWith 0 = .ok (.iconst 1, 1) := by decide +kernel
theorem dX5_goesWith_1 : decode cX5_goesWith 1 = .ok (.istore 5, 2) := by decide +kernel
theorem dX5_goesWith_3 : decode cX5_goesWith 3 = .ok (.iconst 0, 1) := by decide +kernel
theorem dX5_goesWith_4 : decode cX5_goesWith 4 = .ok (.istore 6, 2) := by decide +kernel
theorem dX5_goesWith_6 : decode cX5_goesWith 6 = .ok (.iload 6, 2) := by decide +kernel
theorem dX5_goesWith_8 : decode cX5_goesWith 8 = .ok (.aload_n 0, 1) := by decide +kernel
theorem dX5_goesWith_9 : decode cX5_goesWith 9 = .ok (.getfield 7, 3) := by decide +kernel
theorem dX5_goesWith_12 : decode cX5_goesWith 12 = .ok (.iload_n 2, 1) := by decide +kernel
theorem dX5_goesWith_13 : decode cX5_goesWith 13 = .ok (.iaload, 1) := by decide +kernel
theorem dX5_goesWith_14 : decode cX5_goesWith 14 = .ok (.if_icmp .ge 87, 3) := by decide +kernel
theorem dX5_goesWith_17 : decode cX5_goesWith 17 = .ok (.bipush 40, 2) := by decide +kernel
theorem dX5_goesWith_19 : decode cX5_goesWith 19 = .ok (.iload_n 2, 1) := by decide +kernel
theorem dX5_goesWith_20 : decode cX5_goesWith 20 = .ok (.imul, 1) := by decide +kernel
theorem dX5_goesWith_21 : decode cX5_goesWith 21 = .ok (.iload 6, 2) := by decide +kernel
theorem dX5_goesWith_23 : decode cX5_goesWith 23 = .ok (.iadd, 1) := by decide +kernel
theorem dX5_goesWith_24 : decode cX5_goesWith 24 = .ok (.istore 7, 2) := by decide +kernel
theorem dX5_goesWith_26 : decode cX5_goesWith 26 = .ok (.iload 5, 2) := by decide +kernel
theorem dX5_goesWith_28 : decode cX5_goesWith 28 = .ok (.ifCond .eq 64, 3) := by decide +kernel
theorem dX5_goesWith_31 : decode cX5_goesWith 31 = .ok (.aload_n 0, 1) := by decide +kernel
theorem dX5_goesWith_32 : decode cX5_goesWith 32 = .ok (.iload_n 3, 1) := by decide +kernel
theorem dX5_goesWith_33 : decode cX5_goesWith 33 = .ok (.iload 4, 2) := by decide +kernel
theorem dX5_goesWith_35 : decode cX5_goesWith 35 = .ok (.aload_n 0, 1) := by decide +kernel
theorem dX5_goesWith_36 : decode cX5_goesWith 36 = .ok (.getfield 25, 3) := by decide +kernel
theorem dX5_goesWith_39 : decode cX5_goesWith 39 = .ok (.bipush 10, 2) := by decide +kernel
theorem dX5_goesWith_41 : decode cX5_goesWith 41 = .ok (.iconst 5, 1) := by decide +kernel
theorem dX5_goesWith_42 : decode cX5_goesWith 42 = .ok (.iload_n 1, 1) := by decide +kernel
theorem dX5_goesWith_43 : decode cX5_goesWith 43 = .ok (.imul, 1) := by decide +kernel
theorem dX5_goesWith_44 : decode cX5_goesWith 44 = .ok (.iadd, 1) := by decide +kernel
theorem dX5_goesWith_45 : decode cX5_goesWith 45 = .ok (.iconst 2, 1) := by decide +kernel
theorem dX5_goesWith_46 : decode cX5_goesWith 46 = .ok (.iadd, 1) := by decide +kernel
theorem dX5_goesWith_47 : decode cX5_goesWith 47 = .ok (.iaload, 1) := by decide +kernel
theorem dX5_goesWith_48 : decode cX5_goesWith 48 = .ok (.aload_n 0, 1) := by decide +kernel
theorem dX5_goesWith_49 : decode cX5_goesWith 49 = .ok (.getfield 13, 3) := by decide +kernel
theorem dX5_goesWith_52 : decode cX5_goesWith 52 = .ok (.iload 7, 2) := by decide +kernel
theorem dX5_goesWith_54 : decode cX5_goesWith 54 = .ok (.iaload, 1) := by decide +kernel
theorem dX5_goesWith_55 : decode cX5_goesWith 55 = .ok (.aload_n 0, 1) := by decide +kernel
theorem dX5_goesWith_56 : decode cX5_goesWith 56 = .ok (.getfield 13, 3) := by decide +kernel
theorem dX5_goesWith_59 : decode cX5_goesWith 59 = .ok (.iload 7, 2) := by decide +kernel
theorem dX5_goesWith_61 : decode cX5_goesWith 61 = .ok (.iconst 1, 1) := by decide +kernel
theorem dX5_goesWith_62 : decode cX5_goesWith 62 = .ok (.iadd, 1) := by decide +kernel
theorem dX5_goesWith_63 : decode cX5_goesWith 63 = .ok (.iaload, 1) := by decide +kernel
theorem dX5_goesWith_64 : decode cX5_goesWith 64 = .ok (.invokevirtual 133, 3) := by decide +kernel
theorem dX5_goesWith_67 : decode cX5_goesWith 67 = .ok (.aload_n 0, 1) := by decide +kernel
theorem dX5_goesWith_68 : decode cX5_goesWith 68 = .ok (.getfield 13, 3) := by decide +kernel
theorem dX5_goesWith_71 : decode cX5_goesWith 71 = .ok (.iload 7, 2) := by decide +kernel
theorem dX5_goesWith_73 : decode cX5_goesWith 73 = .ok (.iconst 2, 1) := by decide +kernel
theorem dX5_goesWith_74 : decode cX5_goesWith 74 = .ok (.iadd, 1) := by decide +kernel
theorem dX5_goesWith_75 : decode cX5_goesWith 75 = .ok (.iaload, 1) := by decide +kernel
theorem dX5_goesWith_76 : decode cX5_goesWith 76 = .ok (.iconst 1, 1) := by decide +kernel
theorem dX5_goesWith_77 : decode cX5_goesWith 77 = .ok (.if_icmp .ne 7, 3) := by decide +kernel
theorem dX5_goesWith_80 : decode cX5_goesWith 80 = .ok (.iconst 1, 1) := by decide +kernel
theorem dX5_goesWith_81 : decode cX5_goesWith 81 = .ok (.goto 4, 3) := by decide +kernel
theorem dX5_goesWith_84 : decode cX5_goesWith 84 = .ok (.iconst 0, 1) := by decide +kernel
theorem dX5_goesWith_85 : decode cX5_goesWith 85 = .ok (.if_icmp .ne 7, 3) := by decide +kernel
theorem dX5_goesWith_88 : decode cX5_goesWith 88 = .ok (.iconst 1, 1) := by decide +kernel
theorem dX5_goesWith_89 : decode cX5_goesWith 89 = .ok (.goto 4, 3) := by decide +kernel
theorem dX5_goesWith_92 : decode cX5_goesWith 92 = .ok (.iconst 0, 1) := by decide +kernel
theorem dX5_goesWith_93 : decode cX5_goesWith 93 = .ok (.istore 5, 2) := by decide +kernel
theorem dX5_goesWith_95 : decode cX5_goesWith 95 = .ok (.iinc 6 3, 3) := by decide +kernel
theorem dX5_goesWith_98 : decode cX5_goesWith 98 = .ok (.goto (-92), 3) := by decide +kernel
theorem dX5_goesWith_101 : decode cX5_goesWith 101 = .ok (.iload 5, 2) := by decide +kernel
theorem dX5_goesWith_103 : decode cX5_goesWith 103 = .ok (.ireturn, 1) := by decide +kernel
theorem dX5_kinds_0 : decode cX5_kinds 0 = .ok (.aload_n 0, 1) := by decide +kernel
theorem dX5_kinds_1 : decode cX5_kinds 1 = .ok (.iload_n 1, 1) := by decide +kernel
theorem dX5_kinds_2 : decode cX5_kinds 2 = .ok (.iload_n 2, 1) := by decide +kernel
theorem dX5_kinds_3 : decode cX5_kinds 3 = .ok (.invokevirtual 222, 3) := by decide +kernel
theorem dX5_kinds_6 : decode cX5_kinds 6 = .ok (.istore_n 3, 1) := by decide +kernel
theorem dX5_kinds_7 : decode cX5_kinds 7 = .ok (.iload_n 3, 1) := by decide +kernel
theorem dX5_kinds_8 : decode cX5_kinds 8 = .ok (.ifCond .eq 5, 3) := by decide +kernel
theorem dX5_kinds_11 : decode cX5_kinds 11 = .ok (.iload_n 3, 1) := by decide +kernel
theorem dX5_kinds_12 : decode cX5_kinds 12 = .ok (.ireturn, 1) := by decide +kernel
theorem dX5_kinds_13 : decode cX5_kinds 13 = .ok (.iconst 0, 1) := by decide +kernel
theorem dX5_kinds_14 : decode cX5_kinds 14 = .ok (.istore 4, 2) := by decide +kernel
theorem dX5_kinds_16 : decode cX5_kinds 16 = .ok (.iconst 0, 1) := by decide +kernel
theorem dX5_kinds_17 : decode cX5_kinds 17 = .ok (.istore 5, 2) := by decide +kernel
theorem dX5_kinds_19 : decode cX5_kinds 19 = .ok (.iload 5, 2) := by decide +kernel
theorem dX5_kinds_21 : decode cX5_kinds 21 = .ok (.bipush 6, 2) := by decide +kernel
theorem dX5_kinds_23 : decode cX5_kinds 23 = .ok (.if_icmp .ge 46, 3) := by decide +kernel
theorem dX5_kinds_26 : decode cX5_kinds 26 = .ok (.iload 4, 2) := by decide +kernel
theorem dX5_kinds_28 : decode cX5_kinds 28 = .ok (.aload_n 0, 1) := by decide +kernel
theorem dX5_kinds_29 : decode cX5_kinds 29 = .ok (.iload_n 1, 1) := by decide +kernel
theorem dX5_kinds_30 : decode cX5_kinds 30 = .ok (.iload_n 2, 1) := by decide +kernel
theorem dX5_kinds_31 : decode cX5_kinds 31 = .ok (.iload 5, 2) := by decide +kernel
theorem dX5_kinds_33 : decode cX5_kinds 33 = .ok (.aload_n 0, 1) := by decide +kernel
theorem dX5_kinds_34 : decode cX5_kinds 34 = .ok (.getfield 25, 3) := by decide +kernel
theorem dX5_kinds_37 : decode cX5_kinds 37 = .ok (.bipush 10, 2) := by decide +kernel
theorem dX5_kinds_39 : decode cX5_kinds 39 = .ok (.iconst 5, 1) := by decide +kernel
theorem dX5_kinds_40 : decode cX5_kinds 40 = .ok (.iload_n 1, 1) := by decide +kernel
theorem dX5_kinds_41 : decode cX5_kinds 41 = .ok (.imul, 1) := by decide +kernel
theorem dX5_kinds_42 : decode cX5_kinds 42 = .ok (.iadd, 1) := by decide +kernel
theorem dX5_kinds_43 : decode cX5_kinds 43 = .ok (.iconst 1, 1) := by decide +kernel
theorem dX5_kinds_44 : decode cX5_kinds 44 = .ok (.iadd, 1) := by decide +kernel
theorem dX5_kinds_45 : decode cX5_kinds 45 = .ok (.iaload, 1) := by decide +kernel
theorem dX5_kinds_46 : decode cX5_kinds 46 = .ok (.invokevirtual 225, 3) := by decide +kernel
theorem dX5_kinds_49 : decode cX5_kinds 49 = .ok (.ifCond .eq 10, 3) := by decide +kernel
theorem dX5_kinds_52 : decode cX5_kinds 52 = .ok (.iconst 1, 1) := by decide +kernel
theorem dX5_kinds_53 : decode cX5_kinds 53 = .ok (.iload 5, 2) := by decide +kernel
theorem dX5_kinds_55 : decode cX5_kinds 55 = .ok (.ishl, 1) := by decide +kernel
theorem dX5_kinds_56 : decode cX5_kinds 56 = .ok (.goto 4, 3) := by decide +kernel
theorem dX5_kinds_59 : decode cX5_kinds 59 = .ok (.iconst 0, 1) := by decide +kernel
theorem dX5_kinds_60 : decode cX5_kinds 60 = .ok (.ior, 1) := by decide +kernel
theorem dX5_kinds_61 : decode cX5_kinds 61 = .ok (.istore 4, 2) := by decide +kernel
theorem dX5_kinds_63 : decode cX5_kinds 63 = .ok (.iinc 5 1, 3) := by decide +kernel
theorem dX5_kinds_66 : decode cX5_kinds 66 = .ok (.goto (-47), 3) := by decide +kernel
theorem dX5_kinds_69 : decode cX5_kinds 69 = .ok (.iload 4, 2) := by decide +kernel
theorem dX5_kinds_71 : decode cX5_kinds 71 = .ok (.ireturn, 1) := by decide +kernel
theorem dX5_spots_0 : decode cX5_spots 0 = .ok (.aload_n 0, 1) := by decide +kernel
theorem dX5_spots_1 : decode cX5_spots 1 = .ok (.iload_n 1, 1) := by decide +kernel
theorem dX5_spots_2 : decode cX5_spots 2 = .ok (.iload_n 2, 1) := by decide +kernel
theorem dX5_spots_3 : decode cX5_spots 3 = .ok (.invokevirtual 222, 3) := by decide +kernel
theorem dX5_spots_6 : decode cX5_spots 6 = .ok (.istore_n 3, 1) := by decide +kernel
theorem dX5_spots_7 : decode cX5_spots 7 = .ok (.iload_n 3, 1) := by decide +kernel
theorem dX5_spots_8 : decode cX5_spots 8 = .ok (.ifCond .eq 5, 3) := by decide +kernel
theorem dX5_spots_11 : decode cX5_spots 11 = .ok (.iload_n 3, 1) := by decide +kernel
theorem dX5_spots_12 : decode cX5_spots 12 = .ok (.ireturn, 1) := by decide +kernel
theorem dX5_spots_13 : decode cX5_spots 13 = .ok (.iconst 0, 1) := by decide +kernel
theorem dX5_spots_14 : decode cX5_spots 14 = .ok (.istore 4, 2) := by decide +kernel
theorem dX5_spots_16 : decode cX5_spots 16 = .ok (.iconst 0, 1) := by decide +kernel
theorem dX5_spots_17 : decode cX5_spots 17 = .ok (.istore 5, 2) := by decide +kernel
theorem dX5_spots_19 : decode cX5_spots 19 = .ok (.iload 5, 2) := by decide +kernel
theorem dX5_spots_21 : decode cX5_spots 21 = .ok (.aload_n 0, 1) := by decide +kernel
theorem dX5_spots_22 : decode cX5_spots 22 = .ok (.getfield 25, 3) := by decide +kernel
theorem dX5_spots_25 : decode cX5_spots 25 = .ok (.iconst 0, 1) := by decide +kernel
theorem dX5_spots_26 : decode cX5_spots 26 = .ok (.iaload, 1) := by decide +kernel
theorem dX5_spots_27 : decode cX5_spots 27 = .ok (.if_icmp .ge 44, 3) := by decide +kernel
theorem dX5_spots_30 : decode cX5_spots 30 = .ok (.iload 4, 2) := by decide +kernel
theorem dX5_spots_32 : decode cX5_spots 32 = .ok (.aload_n 0, 1) := by decide +kernel
theorem dX5_spots_33 : decode cX5_spots 33 = .ok (.iload_n 1, 1) := by decide +kernel
theorem dX5_spots_34 : decode cX5_spots 34 = .ok (.iload_n 2, 1) := by decide +kernel
theorem dX5_spots_35 : decode cX5_spots 35 = .ok (.aload_n 0, 1) := by decide +kernel
theorem dX5_spots_36 : decode cX5_spots 36 = .ok (.getfield 25, 3) := by decide +kernel
theorem dX5_spots_39 : decode cX5_spots 39 = .ok (.bipush 10, 2) := by decide +kernel
theorem dX5_spots_41 : decode cX5_spots 41 = .ok (.iconst 5, 1) := by decide +kernel
theorem dX5_spots_42 : decode cX5_spots 42 = .ok (.iload_n 1, 1) := by decide +kernel
theorem dX5_spots_43 : decode cX5_spots 43 = .ok (.imul, 1) := by decide +kernel
theorem dX5_spots_44 : decode cX5_spots 44 = .ok (.iadd, 1) := by decide +kernel
theorem dX5_spots_45 : decode cX5_spots 45 = .ok (.iaload, 1) := by decide +kernel
theorem dX5_spots_46 : decode cX5_spots 46 = .ok (.iload 5, 2) := by decide +kernel
theorem dX5_spots_48 : decode cX5_spots 48 = .ok (.invokevirtual 225, 3) := by decide +kernel
theorem dX5_spots_51 : decode cX5_spots 51 = .ok (.ifCond .eq 10, 3) := by decide +kernel
theorem dX5_spots_54 : decode cX5_spots 54 = .ok (.iconst 1, 1) := by decide +kernel
theorem dX5_spots_55 : decode cX5_spots 55 = .ok (.iload 5, 2) := by decide +kernel
theorem dX5_spots_57 : decode cX5_spots 57 = .ok (.ishl, 1) := by decide +kernel
theorem dX5_spots_58 : decode cX5_spots 58 = .ok (.goto 4, 3) := by decide +kernel
theorem dX5_spots_61 : decode cX5_spots 61 = .ok (.iconst 0, 1) := by decide +kernel
theorem dX5_spots_62 : decode cX5_spots 62 = .ok (.ior, 1) := by decide +kernel
theorem dX5_spots_63 : decode cX5_spots 63 = .ok (.istore 4, 2) := by decide +kernel
theorem dX5_spots_65 : decode cX5_spots 65 = .ok (.iinc 5 1, 3) := by decide +kernel
theorem dX5_spots_68 : decode cX5_spots 68 = .ok (.goto (-49), 3) := by decide +kernel
theorem dX5_spots_71 : decode cX5_spots 71 = .ok (.iload 4, 2) := by decide +kernel
theorem dX5_spots_73 : decode cX5_spots 73 = .ok (.ireturn, 1) := by decide +kernel
theorem dX5_waysOf_0 : decode cX5_waysOf 0 = .ok (.iload_n 1, 1) := by decide +kernel
theorem dX5_waysOf_1 : decode cX5_waysOf 1 = .ok (.iload_n 0, 1) := by decide +kernel
theorem dX5_waysOf_2 : decode cX5_waysOf 2 = .ok (.iconst (-1), 1) := by decide +kernel
theorem dX5_waysOf_3 : decode cX5_waysOf 3 = .ok (.ixor, 1) := by decide +kernel
theorem dX5_waysOf_4 : decode cX5_waysOf 4 = .ok (.iand, 1) := by decide +kernel
theorem dX5_waysOf_5 : decode cX5_waysOf 5 = .ok (.ifCond .ne 7, 3) := by decide +kernel
theorem dX5_waysOf_8 : decode cX5_waysOf 8 = .ok (.lconst 1, 1) := by decide +kernel
theorem dX5_waysOf_9 : decode cX5_waysOf 9 = .ok (.goto 4, 3) := by decide +kernel
theorem dX5_waysOf_12 : decode cX5_waysOf 12 = .ok (.lconst 0, 1) := by decide +kernel
theorem dX5_waysOf_13 : decode cX5_waysOf 13 = .ok (.lstore_n 3, 1) := by decide +kernel
theorem dX5_waysOf_14 : decode cX5_waysOf 14 = .ok (.iconst 0, 1) := by decide +kernel
theorem dX5_waysOf_15 : decode cX5_waysOf 15 = .ok (.istore 5, 2) := by decide +kernel
theorem dX5_waysOf_17 : decode cX5_waysOf 17 = .ok (.iload 5, 2) := by decide +kernel
theorem dX5_waysOf_19 : decode cX5_waysOf 19 = .ok (.bipush 6, 2) := by decide +kernel
theorem dX5_waysOf_21 : decode cX5_waysOf 21 = .ok (.if_icmp .ge 44, 3) := by decide +kernel
theorem dX5_waysOf_24 : decode cX5_waysOf 24 = .ok (.lload_n 3, 1) := by decide +kernel
theorem dX5_waysOf_25 : decode cX5_waysOf 25 = .ok (.iload_n 0, 1) := by decide +kernel
theorem dX5_waysOf_26 : decode cX5_waysOf 26 = .ok (.iload 5, 2) := by decide +kernel
theorem dX5_waysOf_28 : decode cX5_waysOf 28 = .ok (.invokestatic 143, 3) := by decide +kernel
theorem dX5_waysOf_31 : decode cX5_waysOf 31 = .ok (.ifCond .ne 7, 3) := by decide +kernel
theorem dX5_waysOf_34 : decode cX5_waysOf 34 = .ok (.lconst 1, 1) := by decide +kernel
theorem dX5_waysOf_35 : decode cX5_waysOf 35 = .ok (.goto 22, 3) := by decide +kernel
theorem dX5_waysOf_38 : decode cX5_waysOf 38 = .ok (.iload_n 1, 1) := by decide +kernel
theorem dX5_waysOf_39 : decode cX5_waysOf 39 = .ok (.iload 5, 2) := by decide +kernel
theorem dX5_waysOf_41 : decode cX5_waysOf 41 = .ok (.invokestatic 143, 3) := by decide +kernel
theorem dX5_waysOf_44 : decode cX5_waysOf 44 = .ok (.ifCond .eq 8, 3) := by decide +kernel
theorem dX5_waysOf_47 : decode cX5_waysOf 47 = .ok (.iload_n 2, 1) := by decide +kernel
theorem dX5_waysOf_48 : decode cX5_waysOf 48 = .ok (.i2l, 1) := by decide +kernel
theorem dX5_waysOf_49 : decode cX5_waysOf 49 = .ok (.goto 8, 3) := by decide +kernel
theorem dX5_waysOf_52 : decode cX5_waysOf 52 = .ok (.bipush 12, 2) := by decide +kernel
theorem dX5_waysOf_54 : decode cX5_waysOf 54 = .ok (.iload_n 2, 1) := by decide +kernel
theorem dX5_waysOf_55 : decode cX5_waysOf 55 = .ok (.isub, 1) := by decide +kernel
theorem dX5_waysOf_56 : decode cX5_waysOf 56 = .ok (.i2l, 1) := by decide +kernel
theorem dX5_waysOf_57 : decode cX5_waysOf 57 = .ok (.lmul, 1) := by decide +kernel
theorem dX5_waysOf_58 : decode cX5_waysOf 58 = .ok (.lstore_n 3, 1) := by decide +kernel
theorem dX5_waysOf_59 : decode cX5_waysOf 59 = .ok (.iinc 5 1, 3) := by decide +kernel
theorem dX5_waysOf_62 : decode cX5_waysOf 62 = .ok (.goto (-45), 3) := by decide +kernel
theorem dX5_waysOf_65 : decode cX5_waysOf 65 = .ok (.lload_n 3, 1) := by decide +kernel
theorem dX5_waysOf_66 : decode cX5_waysOf 66 = .ok (.lreturn, 1) := by decide +kernel
theorem dX5_belowOf_0 : decode cX5_belowOf 0 = .ok (.lconst 1, 1) := by decide +kernel
theorem dX5_belowOf_1 : decode cX5_belowOf 1 = .ok (.lstore_n 1, 1) := by decide +kernel
theorem dX5_belowOf_2 : decode cX5_belowOf 2 = .ok (.iconst 0, 1) := by decide +kernel
theorem dX5_belowOf_3 : decode cX5_belowOf 3 = .ok (.istore_n 3, 1) := by decide +kernel
theorem dX5_belowOf_4 : decode cX5_belowOf 4 = .ok (.iload_n 3, 1) := by decide +kernel
theorem dX5_belowOf_5 : decode cX5_belowOf 5 = .ok (.bipush 6, 2) := by decide +kernel
theorem dX5_belowOf_7 : decode cX5_belowOf 7 = .ok (.if_icmp .ge 27, 3) := by decide +kernel
theorem dX5_belowOf_10 : decode cX5_belowOf 10 = .ok (.lload_n 1, 1) := by decide +kernel
theorem dX5_belowOf_11 : decode cX5_belowOf 11 = .ok (.iload_n 0, 1) := by decide +kernel
theorem dX5_belowOf_12 : decode cX5_belowOf 12 = .ok (.iload_n 3, 1) := by decide +kernel
theorem dX5_belowOf_13 : decode cX5_belowOf 13 = .ok (.invokestatic 143, 3) := by decide +kernel
theorem dX5_belowOf_16 : decode cX5_belowOf 16 = .ok (.ifCond .eq 9, 3) := by decide +kernel
theorem dX5_belowOf_19 : decode cX5_belowOf 19 = .ok (.ldc2_w 229, 3) := by decide +kernel
theorem dX5_belowOf_22 : decode cX5_belowOf 22 = .ok (.goto 4, 3) := by decide +kernel
theorem dX5_belowOf_25 : decode cX5_belowOf 25 = .ok (.lconst 1, 1) := by decide +kernel
theorem dX5_belowOf_26 : decode cX5_belowOf 26 = .ok (.lmul, 1) := by decide +kernel
theorem dX5_belowOf_27 : decode cX5_belowOf 27 = .ok (.lstore_n 1, 1) := by decide +kernel
theorem dX5_belowOf_28 : decode cX5_belowOf 28 = .ok (.iinc 3 1, 3) := by decide +kernel
theorem dX5_belowOf_31 : decode cX5_belowOf 31 = .ok (.goto (-27), 3) := by decide +kernel
theorem dX5_belowOf_34 : decode cX5_belowOf 34 = .ok (.lload_n 1, 1) := by decide +kernel
theorem dX5_belowOf_35 : decode cX5_belowOf 35 = .ok (.lreturn, 1) := by decide +kernel
theorem dX5_odds_0 : decode cX5_odds 0 = .ok (.iload_n 1, 1) := by decide +kernel
theorem dX5_odds_1 : decode cX5_odds 1 = .ok (.iconst 0, 1) := by decide +kernel
theorem dX5_odds_2 : decode cX5_odds 2 = .ok (.bipush 99, 2) := by decide +kernel
theorem dX5_odds_4 : decode cX5_odds 4 = .ok (.invokestatic 73, 3) := by decide +kernel
theorem dX5_odds_7 : decode cX5_odds 7 = .ok (.ifCond .eq 13, 3) := by decide +kernel
theorem dX5_odds_10 : decode cX5_odds 10 = .ok (.iload_n 2, 1) := by decide +kernel
theorem dX5_odds_11 : decode cX5_odds 11 = .ok (.iconst 0, 1) := by decide +kernel
theorem dX5_odds_12 : decode cX5_odds 12 = .ok (.bipush 12, 2) := by decide +kernel
theorem dX5_odds_14 : decode cX5_odds 14 = .ok (.invokestatic 73, 3) := by decide +kernel
theorem dX5_odds_17 : decode cX5_odds 17 = .ok (.ifCond .ne 5, 3) := by decide +kernel
theorem dX5_odds_20 : decode cX5_odds 20 = .ok (.iconst (-1), 1) := by decide +kernel
theorem dX5_odds_21 : decode cX5_odds 21 = .ok (.ireturn, 1) := by decide +kernel
theorem dX5_odds_22 : decode cX5_odds 22 = .ok (.aload_n 0, 1) := by decide +kernel
theorem dX5_odds_23 : decode cX5_odds 23 = .ok (.invokevirtual 176, 3) := by decide +kernel
theorem dX5_odds_26 : decode cX5_odds 26 = .ok (.ifCond .ne 6, 3) := by decide +kernel
theorem dX5_odds_29 : decode cX5_odds 29 = .ok (.bipush (-4), 2) := by decide +kernel
theorem dX5_odds_31 : decode cX5_odds 31 = .ok (.ireturn, 1) := by decide +kernel
theorem dX5_odds_32 : decode cX5_odds 32 = .ok (.aload_n 0, 1) := by decide +kernel
theorem dX5_odds_33 : decode cX5_odds 33 = .ok (.invokevirtual 165, 3) := by decide +kernel
theorem dX5_odds_36 : decode cX5_odds 36 = .ok (.istore_n 3, 1) := by decide +kernel
theorem dX5_odds_37 : decode cX5_odds 37 = .ok (.lconst 0, 1) := by decide +kernel
theorem dX5_odds_38 : decode cX5_odds 38 = .ok (.lstore 4, 2) := by decide +kernel
theorem dX5_odds_40 : decode cX5_odds 40 = .ok (.iconst 0, 1) := by decide +kernel
theorem dX5_odds_41 : decode cX5_odds 41 = .ok (.istore 6, 2) := by decide +kernel
theorem dX5_odds_43 : decode cX5_odds 43 = .ok (.iload 6, 2) := by decide +kernel
theorem dX5_odds_45 : decode cX5_odds 45 = .ok (.iload_n 3, 1) := by decide +kernel
theorem dX5_odds_46 : decode cX5_odds 46 = .ok (.if_icmp .gt 39, 3) := by decide +kernel
theorem dX5_odds_49 : decode cX5_odds 49 = .ok (.lload 4, 2) := by decide +kernel
theorem dX5_odds_51 : decode cX5_odds 51 = .ok (.aload_n 0, 1) := by decide +kernel
theorem dX5_odds_52 : decode cX5_odds 52 = .ok (.iload_n 3, 1) := by decide +kernel
theorem dX5_odds_53 : decode cX5_odds 53 = .ok (.iload 6, 2) := by decide +kernel
theorem dX5_odds_55 : decode cX5_odds 55 = .ok (.iconst (-1), 1) := by decide +kernel
theorem dX5_odds_56 : decode cX5_odds 56 = .ok (.ixor, 1) := by decide +kernel
theorem dX5_odds_57 : decode cX5_odds 57 = .ok (.iand, 1) := by decide +kernel
theorem dX5_odds_58 : decode cX5_odds 58 = .ok (.invokevirtual 169, 3) := by decide +kernel
theorem dX5_odds_61 : decode cX5_odds 61 = .ok (.iload_n 1, 1) := by decide +kernel
theorem dX5_odds_62 : decode cX5_odds 62 = .ok (.if_icmp .lt 13, 3) := by decide +kernel
theorem dX5_odds_65 : decode cX5_odds 65 = .ok (.iload_n 3, 1) := by decide +kernel
theorem dX5_odds_66 : decode cX5_odds 66 = .ok (.iload 6, 2) := by decide +kernel
theorem dX5_odds_68 : decode cX5_odds 68 = .ok (.iload_n 2, 1) := by decide +kernel
theorem dX5_odds_69 : decode cX5_odds 69 = .ok (.invokestatic 231, 3) := by decide +kernel
theorem dX5_odds_72 : decode cX5_odds 72 = .ok (.goto 4, 3) := by decide +kernel
theorem dX5_odds_75 : decode cX5_odds 75 = .ok (.lconst 0, 1) := by decide +kernel
theorem dX5_odds_76 : decode cX5_odds 76 = .ok (.ladd, 1) := by decide +kernel
theorem dX5_odds_77 : decode cX5_odds 77 = .ok (.lstore 4, 2) := by decide +kernel
theorem dX5_odds_79 : decode cX5_odds 79 = .ok (.iinc 6 1, 3) := by decide +kernel
theorem dX5_odds_82 : decode cX5_odds 82 = .ok (.goto (-39), 3) := by decide +kernel
theorem dX5_odds_85 : decode cX5_odds 85 = .ok (.aload_n 0, 1) := by decide +kernel
theorem dX5_odds_86 : decode cX5_odds 86 = .ok (.lload 4, 2) := by decide +kernel
theorem dX5_odds_88 : decode cX5_odds 88 = .ok (.iload_n 3, 1) := by decide +kernel
theorem dX5_odds_89 : decode cX5_odds 89 = .ok (.invokestatic 235, 3) := by decide +kernel
theorem dX5_odds_92 : decode cX5_odds 92 = .ok (.invokevirtual 239, 3) := by decide +kernel
theorem dX5_odds_95 : decode cX5_odds 95 = .ok (.ireturn, 1) := by decide +kernel
theorem dX5_mid_0 : decode cX5_mid 0 = .ok (.iload_n 1, 1) := by decide +kernel
theorem dX5_mid_1 : decode cX5_mid 1 = .ok (.iconst 0, 1) := by decide +kernel
theorem dX5_mid_2 : decode cX5_mid 2 = .ok (.bipush 12, 2) := by decide +kernel
theorem dX5_mid_4 : decode cX5_mid 4 = .ok (.invokestatic 73, 3) := by decide +kernel
theorem dX5_mid_7 : decode cX5_mid 7 = .ok (.ifCond .ne 5, 3) := by decide +kernel
theorem dX5_mid_10 : decode cX5_mid 10 = .ok (.iconst (-1), 1) := by decide +kernel
theorem dX5_mid_11 : decode cX5_mid 11 = .ok (.ireturn, 1) := by decide +kernel
theorem dX5_mid_12 : decode cX5_mid 12 = .ok (.aload_n 0, 1) := by decide +kernel
theorem dX5_mid_13 : decode cX5_mid 13 = .ok (.invokevirtual 176, 3) := by decide +kernel
theorem dX5_mid_16 : decode cX5_mid 16 = .ok (.ifCond .ne 6, 3) := by decide +kernel
theorem dX5_mid_19 : decode cX5_mid 19 = .ok (.bipush (-4), 2) := by decide +kernel
theorem dX5_mid_21 : decode cX5_mid 21 = .ok (.ireturn, 1) := by decide +kernel
theorem dX5_mid_22 : decode cX5_mid 22 = .ok (.aload_n 0, 1) := by decide +kernel
theorem dX5_mid_23 : decode cX5_mid 23 = .ok (.invokevirtual 165, 3) := by decide +kernel
theorem dX5_mid_26 : decode cX5_mid 26 = .ok (.istore_n 2, 1) := by decide +kernel
theorem dX5_mid_27 : decode cX5_mid 27 = .ok (.lconst 0, 1) := by decide +kernel
theorem dX5_mid_28 : decode cX5_mid 28 = .ok (.lstore_n 3, 1) := by decide +kernel
theorem dX5_mid_29 : decode cX5_mid 29 = .ok (.iconst 0, 1) := by decide +kernel
theorem dX5_mid_30 : decode cX5_mid 30 = .ok (.istore 5, 2) := by decide +kernel
theorem dX5_mid_32 : decode cX5_mid 32 = .ok (.iload 5, 2) := by decide +kernel
theorem dX5_mid_34 : decode cX5_mid 34 = .ok (.iload_n 2, 1) := by decide +kernel
theorem dX5_mid_35 : decode cX5_mid 35 = .ok (.if_icmp .gt 85, 3) := by decide +kernel
theorem dX5_mid_38 : decode cX5_mid 38 = .ok (.iconst 0, 1) := by decide +kernel
theorem dX5_mid_39 : decode cX5_mid 39 = .ok (.istore 6, 2) := by decide +kernel
theorem dX5_mid_41 : decode cX5_mid 41 = .ok (.iconst 0, 1) := by decide +kernel
theorem dX5_mid_42 : decode cX5_mid 42 = .ok (.istore 7, 2) := by decide +kernel
theorem dX5_mid_44 : decode cX5_mid 44 = .ok (.iload 7, 2) := by decide +kernel
theorem dX5_mid_46 : decode cX5_mid 46 = .ok (.aload_n 0, 1) := by decide +kernel
theorem dX5_mid_47 : decode cX5_mid 47 = .ok (.getfield 25, 3) := by decide +kernel
theorem dX5_mid_50 : decode cX5_mid 50 = .ok (.bipush 7, 2) := by decide +kernel
theorem dX5_mid_52 : decode cX5_mid 52 = .ok (.iaload, 1) := by decide +kernel
theorem dX5_mid_53 : decode cX5_mid 53 = .ok (.if_icmp .ge 47, 3) := by decide +kernel
theorem dX5_mid_56 : decode cX5_mid 56 = .ok (.iload_n 2, 1) := by decide +kernel
theorem dX5_mid_57 : decode cX5_mid 57 = .ok (.iload 5, 2) := by decide +kernel
theorem dX5_mid_59 : decode cX5_mid 59 = .ok (.iconst (-1), 1) := by decide +kernel
theorem dX5_mid_60 : decode cX5_mid 60 = .ok (.ixor, 1) := by decide +kernel
theorem dX5_mid_61 : decode cX5_mid 61 = .ok (.iand, 1) := by decide +kernel
theorem dX5_mid_62 : decode cX5_mid 62 = .ok (.iload 7, 2) := by decide +kernel
theorem dX5_mid_64 : decode cX5_mid 64 = .ok (.invokestatic 143, 3) := by decide +kernel
theorem dX5_mid_67 : decode cX5_mid 67 = .ok (.ifCond .eq 23, 3) := by decide +kernel
theorem dX5_mid_70 : decode cX5_mid 70 = .ok (.aload_n 0, 1) := by decide +kernel
theorem dX5_mid_71 : decode cX5_mid 71 = .ok (.iload 7, 2) := by decide +kernel
theorem dX5_mid_73 : decode cX5_mid 73 = .ok (.invokevirtual 147, 3) := by decide +kernel
theorem dX5_mid_76 : decode cX5_mid 76 = .ok (.iload 6, 2) := by decide +kernel
theorem dX5_mid_78 : decode cX5_mid 78 = .ok (.if_icmp .le 12, 3) := by decide +kernel
theorem dX5_mid_81 : decode cX5_mid 81 = .ok (.aload_n 0, 1) := by decide +kernel
theorem dX5_mid_82 : decode cX5_mid 82 = .ok (.iload 7, 2) := by decide +kernel
theorem dX5_mid_84 : decode cX5_mid 84 = .ok (.invokevirtual 147, 3) := by decide +kernel
theorem dX5_mid_87 : decode cX5_mid 87 = .ok (.goto 5, 3) := by decide +kernel
theorem dX5_mid_90 : decode cX5_mid 90 = .ok (.iload 6, 2) := by decide +kernel
theorem dX5_mid_92 : decode cX5_mid 92 = .ok (.istore 6, 2) := by decide +kernel
theorem dX5_mid_94 : decode cX5_mid 94 = .ok (.iinc 7 1, 3) := by decide +kernel
theorem dX5_mid_97 : decode cX5_mid 97 = .ok (.goto (-53), 3) := by decide +kernel
theorem dX5_mid_100 : decode cX5_mid 100 = .ok (.lload_n 3, 1) := by decide +kernel
theorem dX5_mid_101 : decode cX5_mid 101 = .ok (.iload 6, 2) := by decide +kernel
theorem dX5_mid_103 : decode cX5_mid 103 = .ok (.i2l, 1) := by decide +kernel
theorem dX5_mid_104 : decode cX5_mid 104 = .ok (.iload_n 2, 1) := by decide +kernel
theorem dX5_mid_105 : decode cX5_mid 105 = .ok (.iload 5, 2) := by decide +kernel
theorem dX5_mid_107 : decode cX5_mid 107 = .ok (.iload_n 1, 1) := by decide +kernel
theorem dX5_mid_108 : decode cX5_mid 108 = .ok (.invokestatic 231, 3) := by decide +kernel
theorem dX5_mid_111 : decode cX5_mid 111 = .ok (.lmul, 1) := by decide +kernel
theorem dX5_mid_112 : decode cX5_mid 112 = .ok (.ladd, 1) := by decide +kernel
theorem dX5_mid_113 : decode cX5_mid 113 = .ok (.lstore_n 3, 1) := by decide +kernel
theorem dX5_mid_114 : decode cX5_mid 114 = .ok (.iinc 5 1, 3) := by decide +kernel
theorem dX5_mid_117 : decode cX5_mid 117 = .ok (.goto (-85), 3) := by decide +kernel
theorem dX5_mid_120 : decode cX5_mid 120 = .ok (.aload_n 0, 1) := by decide +kernel
theorem dX5_mid_121 : decode cX5_mid 121 = .ok (.lload_n 3, 1) := by decide +kernel
theorem dX5_mid_122 : decode cX5_mid 122 = .ok (.iload_n 2, 1) := by decide +kernel
theorem dX5_mid_123 : decode cX5_mid 123 = .ok (.invokestatic 235, 3) := by decide +kernel
theorem dX5_mid_126 : decode cX5_mid 126 = .ok (.invokevirtual 239, 3) := by decide +kernel
theorem dX5_mid_129 : decode cX5_mid 129 = .ok (.ireturn, 1) := by decide +kernel
theorem dX5_lots_0 : decode cX5_lots 0 = .ok (.iload_n 1, 1) := by decide +kernel
theorem dX5_lots_1 : decode cX5_lots 1 = .ok (.iconst 1, 1) := by decide +kernel
theorem dX5_lots_2 : decode cX5_lots 2 = .ok (.bipush 20, 2) := by decide +kernel
theorem dX5_lots_4 : decode cX5_lots 4 = .ok (.invokestatic 73, 3) := by decide +kernel
theorem dX5_lots_7 : decode cX5_lots 7 = .ok (.ifCond .eq 13, 3) := by decide +kernel
theorem dX5_lots_10 : decode cX5_lots 10 = .ok (.iload_n 2, 1) := by decide +kernel
theorem dX5_lots_11 : decode cX5_lots 11 = .ok (.iconst 1, 1) := by decide +kernel
theorem dX5_lots_12 : decode cX5_lots 12 = .ok (.ldc 243, 2) := by decide +kernel
theorem dX5_lots_14 : decode cX5_lots 14 = .ok (.invokestatic 73, 3) := by decide +kernel
theorem dX5_lots_17 : decode cX5_lots 17 = .ok (.ifCond .ne 5, 3) := by decide +kernel
theorem dX5_lots_20 : decode cX5_lots 20 = .ok (.iconst (-1), 1) := by decide +kernel
theorem dX5_lots_21 : decode cX5_lots 21 = .ok (.ireturn, 1) := by decide +kernel
theorem dX5_lots_22 : decode cX5_lots 22 = .ok (.aload_n 0, 1) := by decide +kernel
theorem dX5_lots_23 : decode cX5_lots 23 = .ok (.invokevirtual 176, 3) := by decide +kernel
theorem dX5_lots_26 : decode cX5_lots 26 = .ok (.ifCond .ne 6, 3) := by decide +kernel
theorem dX5_lots_29 : decode cX5_lots 29 = .ok (.bipush (-4), 2) := by decide +kernel
theorem dX5_lots_31 : decode cX5_lots 31 = .ok (.ireturn, 1) := by decide +kernel
theorem dX5_lots_32 : decode cX5_lots 32 = .ok (.aload_n 0, 1) := by decide +kernel
end
section
theorem dX5_lots_33 : decode cX5_lots 33 = .ok (.getfield 25, 3) := by decide +kernel
theorem dX5_lots_36 : decode cX5_lots 36 = .ok (.bipush 9, 2) := by decide +kernel
theorem dX5_lots_38 : decode cX5_lots 38 = .ok (.iaload, 1) := by decide +kernel
theorem dX5_lots_39 : decode cX5_lots 39 = .ok (.iload_n 1, 1) := by decide +kernel
theorem dX5_lots_40 : decode cX5_lots 40 = .ok (.iadd, 1) := by decide +kernel
theorem dX5_lots_41 : decode cX5_lots 41 = .ok (.bipush 40, 2) := by decide +kernel
theorem dX5_lots_43 : decode cX5_lots 43 = .ok (.if_icmp .le 6, 3) := by decide +kernel
theorem dX5_lots_46 : decode cX5_lots 46 = .ok (.bipush (-2), 2) := by decide +kernel
theorem dX5_lots_48 : decode cX5_lots 48 = .ok (.ireturn, 1) := by decide +kernel
theorem dX5_lots_49 : decode cX5_lots 49 = .ok (.iload_n 2, 1) := by decide +kernel
theorem dX5_lots_50 : decode cX5_lots 50 = .ok (.i2l, 1) := by decide +kernel
theorem dX5_lots_51 : decode cX5_lots 51 = .ok (.lstore_n 3, 1) := by decide +kernel
theorem dX5_lots_52 : decode cX5_lots 52 = .ok (.iconst 0, 1) := by decide +kernel
theorem dX5_lots_53 : decode cX5_lots 53 = .ok (.istore 5, 2) := by decide +kernel
theorem dX5_lots_55 : decode cX5_lots 55 = .ok (.iload 5, 2) := by decide +kernel
theorem dX5_lots_57 : decode cX5_lots 57 = .ok (.iload_n 1, 1) := by decide +kernel
theorem dX5_lots_58 : decode cX5_lots 58 = .ok (.if_icmp .ge 117, 3) := by decide +kernel
theorem dX5_lots_61 : decode cX5_lots 61 = .ok (.lload_n 3, 1) := by decide +kernel
theorem dX5_lots_62 : decode cX5_lots 62 = .ok (.ldc2_w 244, 3) := by decide +kernel
theorem dX5_lots_65 : decode cX5_lots 65 = .ok (.lmul, 1) := by decide +kernel
theorem dX5_lots_66 : decode cX5_lots 66 = .ok (.ldc2_w 246, 3) := by decide +kernel
theorem dX5_lots_69 : decode cX5_lots 69 = .ok (.lrem, 1) := by decide +kernel
theorem dX5_lots_70 : decode cX5_lots 70 = .ok (.lstore_n 3, 1) := by decide +kernel
theorem dX5_lots_71 : decode cX5_lots 71 = .ok (.aload_n 0, 1) := by decide +kernel
theorem dX5_lots_72 : decode cX5_lots 72 = .ok (.invokevirtual 186, 3) := by decide +kernel
theorem dX5_lots_75 : decode cX5_lots 75 = .ok (.lload_n 3, 1) := by decide +kernel
theorem dX5_lots_76 : decode cX5_lots 76 = .ok (.ldc2_w 248, 3) := by decide +kernel
theorem dX5_lots_79 : decode cX5_lots 79 = .ok (.lrem, 1) := by decide +kernel
theorem dX5_lots_80 : decode cX5_lots 80 = .ok (.lconst 0, 1) := by decide +kernel
theorem dX5_lots_81 : decode cX5_lots 81 = .ok (.lcmp, 1) := by decide +kernel
theorem dX5_lots_82 : decode cX5_lots 82 = .ok (.ifCond .ne 10, 3) := by decide +kernel
theorem dX5_lots_85 : decode cX5_lots 85 = .ok (.aload_n 0, 1) := by decide +kernel
theorem dX5_lots_86 : decode cX5_lots 86 = .ok (.invokevirtual 189, 3) := by decide +kernel
theorem dX5_lots_89 : decode cX5_lots 89 = .ok (.goto 80, 3) := by decide +kernel
theorem dX5_lots_92 : decode cX5_lots 92 = .ok (.bipush 10, 2) := by decide +kernel
theorem dX5_lots_94 : decode cX5_lots 94 = .ok (.iconst 5, 1) := by decide +kernel
theorem dX5_lots_95 : decode cX5_lots 95 = .ok (.lload_n 3, 1) := by decide +kernel
theorem dX5_lots_96 : decode cX5_lots 96 = .ok (.ldc2_w 250, 3) := by decide +kernel
theorem dX5_lots_99 : decode cX5_lots 99 = .ok (.ldiv, 1) := by decide +kernel
theorem dX5_lots_100 : decode cX5_lots 100 = .ok (.aload_n 0, 1) := by decide +kernel
theorem dX5_lots_101 : decode cX5_lots 101 = .ok (.getfield 25, 3) := by decide +kernel
theorem dX5_lots_104 : decode cX5_lots 104 = .ok (.bipush 7, 2) := by decide +kernel
theorem dX5_lots_106 : decode cX5_lots 106 = .ok (.iaload, 1) := by decide +kernel
theorem dX5_lots_107 : decode cX5_lots 107 = .ok (.i2l, 1) := by decide +kernel
theorem dX5_lots_108 : decode cX5_lots 108 = .ok (.lrem, 1) := by decide +kernel
theorem dX5_lots_109 : decode cX5_lots 109 = .ok (.l2i, 1) := by decide +kernel
theorem dX5_lots_110 : decode cX5_lots 110 = .ok (.imul, 1) := by decide +kernel
theorem dX5_lots_111 : decode cX5_lots 111 = .ok (.iadd, 1) := by decide +kernel
theorem dX5_lots_112 : decode cX5_lots 112 = .ok (.iconst 1, 1) := by decide +kernel
theorem dX5_lots_113 : decode cX5_lots 113 = .ok (.iadd, 1) := by decide +kernel
theorem dX5_lots_114 : decode cX5_lots 114 = .ok (.istore 6, 2) := by decide +kernel
theorem dX5_lots_116 : decode cX5_lots 116 = .ok (.aload_n 0, 1) := by decide +kernel
theorem dX5_lots_117 : decode cX5_lots 117 = .ok (.getfield 25, 3) := by decide +kernel
theorem dX5_lots_120 : decode cX5_lots 120 = .ok (.iload 6, 2) := by decide +kernel
theorem dX5_lots_122 : decode cX5_lots 122 = .ok (.iaload, 1) := by decide +kernel
theorem dX5_lots_123 : decode cX5_lots 123 = .ok (.lload_n 3, 1) := by decide +kernel
theorem dX5_lots_124 : decode cX5_lots 124 = .ok (.ldc2_w 248, 3) := by decide +kernel
theorem dX5_lots_127 : decode cX5_lots 127 = .ok (.lrem, 1) := by decide +kernel
theorem dX5_lots_128 : decode cX5_lots 128 = .ok (.lconst 1, 1) := by decide +kernel
theorem dX5_lots_129 : decode cX5_lots 129 = .ok (.lcmp, 1) := by decide +kernel
theorem dX5_lots_130 : decode cX5_lots 130 = .ok (.ifCond .ne 7, 3) := by decide +kernel
theorem dX5_lots_133 : decode cX5_lots 133 = .ok (.iconst (-1), 1) := by decide +kernel
theorem dX5_lots_134 : decode cX5_lots 134 = .ok (.goto 4, 3) := by decide +kernel
theorem dX5_lots_137 : decode cX5_lots 137 = .ok (.iconst 1, 1) := by decide +kernel
theorem dX5_lots_138 : decode cX5_lots 138 = .ok (.iadd, 1) := by decide +kernel
theorem dX5_lots_139 : decode cX5_lots 139 = .ok (.istore 7, 2) := by decide +kernel
theorem dX5_lots_141 : decode cX5_lots 141 = .ok (.aload_n 0, 1) := by decide +kernel
theorem dX5_lots_142 : decode cX5_lots 142 = .ok (.getfield 25, 3) := by decide +kernel
theorem dX5_lots_145 : decode cX5_lots 145 = .ok (.iload 6, 2) := by decide +kernel
theorem dX5_lots_147 : decode cX5_lots 147 = .ok (.aload_n 0, 1) := by decide +kernel
theorem dX5_lots_148 : decode cX5_lots 148 = .ok (.iload 7, 2) := by decide +kernel
theorem dX5_lots_150 : decode cX5_lots 150 = .ok (.invokevirtual 195, 3) := by decide +kernel
theorem dX5_lots_153 : decode cX5_lots 153 = .ok (.ifCond .eq 8, 3) := by decide +kernel
theorem dX5_lots_156 : decode cX5_lots 156 = .ok (.iload 7, 2) := by decide +kernel
theorem dX5_lots_158 : decode cX5_lots 158 = .ok (.goto 10, 3) := by decide +kernel
theorem dX5_lots_161 : decode cX5_lots 161 = .ok (.aload_n 0, 1) := by decide +kernel
theorem dX5_lots_162 : decode cX5_lots 162 = .ok (.getfield 25, 3) := by decide +kernel
theorem dX5_lots_165 : decode cX5_lots 165 = .ok (.iload 6, 2) := by decide +kernel
theorem dX5_lots_167 : decode cX5_lots 167 = .ok (.iaload, 1) := by decide +kernel
theorem dX5_lots_168 : decode cX5_lots 168 = .ok (.iastore, 1) := by decide +kernel
theorem dX5_lots_169 : decode cX5_lots 169 = .ok (.iinc 5 1, 3) := by decide +kernel
theorem dX5_lots_172 : decode cX5_lots 172 = .ok (.goto (-117), 3) := by decide +kernel
theorem dX5_lots_175 : decode cX5_lots 175 = .ok (.aload_n 0, 1) := by decide +kernel
theorem dX5_lots_176 : decode cX5_lots 176 = .ok (.getfield 25, 3) := by decide +kernel
theorem dX5_lots_179 : decode cX5_lots 179 = .ok (.iconst 2, 1) := by decide +kernel
theorem dX5_lots_180 : decode cX5_lots 180 = .ok (.iaload, 1) := by decide +kernel
theorem dX5_lots_181 : decode cX5_lots 181 = .ok (.aload_n 0, 1) := by decide +kernel
theorem dX5_lots_182 : decode cX5_lots 182 = .ok (.getfield 25, 3) := by decide +kernel
theorem dX5_lots_185 : decode cX5_lots 185 = .ok (.iconst 1, 1) := by decide +kernel
theorem dX5_lots_186 : decode cX5_lots 186 = .ok (.iaload, 1) := by decide +kernel
theorem dX5_lots_187 : decode cX5_lots 187 = .ok (.isub, 1) := by decide +kernel
theorem dX5_lots_188 : decode cX5_lots 188 = .ok (.ireturn, 1) := by decide +kernel
theorem dX5_asked_0 : decode cX5_asked 0 = .ok (.aload_n 0, 1) := by decide +kernel
theorem dX5_asked_1 : decode cX5_asked 1 = .ok (.getfield 67, 3) := by decide +kernel
theorem dX5_asked_4 : decode cX5_asked 4 = .ok (.ireturn, 1) := by decide +kernel
theorem dX5_upper_0 : decode cX5_upper 0 = .ok (.aload_n 0, 1) := by decide +kernel
theorem dX5_upper_1 : decode cX5_upper 1 = .ok (.getfield 70, 3) := by decide +kernel
theorem dX5_upper_4 : decode cX5_upper 4 = .ok (.lreturn, 1) := by decide +kernel
theorem dX5_lower_0 : decode cX5_lower 0 = .ok (.aload_n 0, 1) := by decide +kernel
theorem dX5_lower_1 : decode cX5_lower 1 = .ok (.getfield 59, 3) := by decide +kernel
theorem dX5_lower_4 : decode cX5_lower 4 = .ok (.lreturn, 1) := by decide +kernel
theorem dX5_count_0 : decode cX5_count 0 = .ok (.iconst 0, 1) := by decide +kernel
theorem dX5_count_1 : decode cX5_count 1 = .ok (.istore_n 2, 1) := by decide +kernel
theorem dX5_count_2 : decode cX5_count 2 = .ok (.iload_n 1, 1) := by decide +kernel
theorem dX5_count_3 : decode cX5_count 3 = .ok (.tableswitch 251 0 10 #[57, 65, 72, 80, 88, 95, 102, 107, 154, 187, 219], 57) := by decide +kernel
theorem dX5_count_60 : decode cX5_count 60 = .ok (.aload_n 0, 1) := by decide +kernel
theorem dX5_count_61 : decode cX5_count 61 = .ok (.getfield 25, 3) := by decide +kernel
theorem dX5_count_64 : decode cX5_count 64 = .ok (.bipush 7, 2) := by decide +kernel
theorem dX5_count_66 : decode cX5_count 66 = .ok (.iaload, 1) := by decide +kernel
theorem dX5_count_67 : decode cX5_count 67 = .ok (.ireturn, 1) := by decide +kernel
theorem dX5_count_68 : decode cX5_count 68 = .ok (.aload_n 0, 1) := by decide +kernel
theorem dX5_count_69 : decode cX5_count 69 = .ok (.getfield 25, 3) := by decide +kernel
theorem dX5_count_72 : decode cX5_count 72 = .ok (.iconst 0, 1) := by decide +kernel
theorem dX5_count_73 : decode cX5_count 73 = .ok (.iaload, 1) := by decide +kernel
theorem dX5_count_74 : decode cX5_count 74 = .ok (.ireturn, 1) := by decide +kernel
theorem dX5_count_75 : decode cX5_count 75 = .ok (.aload_n 0, 1) := by decide +kernel
theorem dX5_count_76 : decode cX5_count 76 = .ok (.getfield 25, 3) := by decide +kernel
theorem dX5_count_79 : decode cX5_count 79 = .ok (.bipush 8, 2) := by decide +kernel
theorem dX5_count_81 : decode cX5_count 81 = .ok (.iaload, 1) := by decide +kernel
theorem dX5_count_82 : decode cX5_count 82 = .ok (.ireturn, 1) := by decide +kernel
theorem dX5_count_83 : decode cX5_count 83 = .ok (.aload_n 0, 1) := by decide +kernel
theorem dX5_count_84 : decode cX5_count 84 = .ok (.getfield 25, 3) := by decide +kernel
theorem dX5_count_87 : decode cX5_count 87 = .ok (.bipush 9, 2) := by decide +kernel
theorem dX5_count_89 : decode cX5_count 89 = .ok (.iaload, 1) := by decide +kernel
theorem dX5_count_90 : decode cX5_count 90 = .ok (.ireturn, 1) := by decide +kernel
theorem dX5_count_91 : decode cX5_count 91 = .ok (.aload_n 0, 1) := by decide +kernel
theorem dX5_count_92 : decode cX5_count 92 = .ok (.getfield 25, 3) := by decide +kernel
theorem dX5_count_95 : decode cX5_count 95 = .ok (.iconst 1, 1) := by decide +kernel
theorem dX5_count_96 : decode cX5_count 96 = .ok (.iaload, 1) := by decide +kernel
theorem dX5_count_97 : decode cX5_count 97 = .ok (.ireturn, 1) := by decide +kernel
theorem dX5_count_98 : decode cX5_count 98 = .ok (.aload_n 0, 1) := by decide +kernel
theorem dX5_count_99 : decode cX5_count 99 = .ok (.getfield 25, 3) := by decide +kernel
theorem dX5_count_102 : decode cX5_count 102 = .ok (.iconst 2, 1) := by decide +kernel
theorem dX5_count_103 : decode cX5_count 103 = .ok (.iaload, 1) := by decide +kernel
theorem dX5_count_104 : decode cX5_count 104 = .ok (.ireturn, 1) := by decide +kernel
theorem dX5_count_105 : decode cX5_count 105 = .ok (.aload_n 0, 1) := by decide +kernel
theorem dX5_count_106 : decode cX5_count 106 = .ok (.invokevirtual 165, 3) := by decide +kernel
theorem dX5_count_109 : decode cX5_count 109 = .ok (.ireturn, 1) := by decide +kernel
theorem dX5_count_110 : decode cX5_count 110 = .ok (.iconst 0, 1) := by decide +kernel
theorem dX5_count_111 : decode cX5_count 111 = .ok (.istore_n 3, 1) := by decide +kernel
theorem dX5_count_112 : decode cX5_count 112 = .ok (.iload_n 3, 1) := by decide +kernel
theorem dX5_count_113 : decode cX5_count 113 = .ok (.aload_n 0, 1) := by decide +kernel
theorem dX5_count_114 : decode cX5_count 114 = .ok (.getfield 25, 3) := by decide +kernel
theorem dX5_count_117 : decode cX5_count 117 = .ok (.bipush 7, 2) := by decide +kernel
theorem dX5_count_119 : decode cX5_count 119 = .ok (.iaload, 1) := by decide +kernel
theorem dX5_count_120 : decode cX5_count 120 = .ok (.if_icmp .ge 35, 3) := by decide +kernel
theorem dX5_count_123 : decode cX5_count 123 = .ok (.iload_n 2, 1) := by decide +kernel
theorem dX5_count_124 : decode cX5_count 124 = .ok (.aload_n 0, 1) := by decide +kernel
theorem dX5_count_125 : decode cX5_count 125 = .ok (.getfield 25, 3) := by decide +kernel
theorem dX5_count_128 : decode cX5_count 128 = .ok (.bipush 10, 2) := by decide +kernel
theorem dX5_count_130 : decode cX5_count 130 = .ok (.iconst 5, 1) := by decide +kernel
theorem dX5_count_131 : decode cX5_count 131 = .ok (.iload_n 3, 1) := by decide +kernel
theorem dX5_count_132 : decode cX5_count 132 = .ok (.imul, 1) := by decide +kernel
theorem dX5_count_133 : decode cX5_count 133 = .ok (.iadd, 1) := by decide +kernel
theorem dX5_count_134 : decode cX5_count 134 = .ok (.iaload, 1) := by decide +kernel
theorem dX5_count_135 : decode cX5_count 135 = .ok (.iconst 2, 1) := by decide +kernel
theorem dX5_count_136 : decode cX5_count 136 = .ok (.invokestatic 159, 3) := by decide +kernel
theorem dX5_count_139 : decode cX5_count 139 = .ok (.ifCond .eq 7, 3) := by decide +kernel
theorem dX5_count_142 : decode cX5_count 142 = .ok (.iconst 1, 1) := by decide +kernel
theorem dX5_count_143 : decode cX5_count 143 = .ok (.goto 4, 3) := by decide +kernel
theorem dX5_count_146 : decode cX5_count 146 = .ok (.iconst 0, 1) := by decide +kernel
theorem dX5_count_147 : decode cX5_count 147 = .ok (.iadd, 1) := by decide +kernel
theorem dX5_count_148 : decode cX5_count 148 = .ok (.istore_n 2, 1) := by decide +kernel
theorem dX5_count_149 : decode cX5_count 149 = .ok (.iinc 3 1, 3) := by decide +kernel
theorem dX5_count_152 : decode cX5_count 152 = .ok (.goto (-40), 3) := by decide +kernel
theorem dX5_count_155 : decode cX5_count 155 = .ok (.iload_n 2, 1) := by decide +kernel
theorem dX5_count_156 : decode cX5_count 156 = .ok (.ireturn, 1) := by decide +kernel
theorem dX5_count_157 : decode cX5_count 157 = .ok (.iconst 0, 1) := by decide +kernel
theorem dX5_count_158 : decode cX5_count 158 = .ok (.istore_n 3, 1) := by decide +kernel
theorem dX5_count_159 : decode cX5_count 159 = .ok (.iload_n 3, 1) := by decide +kernel
theorem dX5_count_160 : decode cX5_count 160 = .ok (.bipush 6, 2) := by decide +kernel
theorem dX5_count_162 : decode cX5_count 162 = .ok (.if_icmp .ge 26, 3) := by decide +kernel
theorem dX5_count_165 : decode cX5_count 165 = .ok (.iload_n 2, 1) := by decide +kernel
theorem dX5_count_166 : decode cX5_count 166 = .ok (.aload_n 0, 1) := by decide +kernel
theorem dX5_count_167 : decode cX5_count 167 = .ok (.getfield 7, 3) := by decide +kernel
theorem dX5_count_170 : decode cX5_count 170 = .ok (.iload_n 3, 1) := by decide +kernel
theorem dX5_count_171 : decode cX5_count 171 = .ok (.iaload, 1) := by decide +kernel
theorem dX5_count_172 : decode cX5_count 172 = .ok (.ifCond .ge 7, 3) := by decide +kernel
theorem dX5_count_175 : decode cX5_count 175 = .ok (.iconst 0, 1) := by decide +kernel
theorem dX5_count_176 : decode cX5_count 176 = .ok (.goto 4, 3) := by decide +kernel
theorem dX5_count_179 : decode cX5_count 179 = .ok (.iconst 1, 1) := by decide +kernel
theorem dX5_count_180 : decode cX5_count 180 = .ok (.iadd, 1) := by decide +kernel
theorem dX5_count_181 : decode cX5_count 181 = .ok (.istore_n 2, 1) := by decide +kernel
theorem dX5_count_182 : decode cX5_count 182 = .ok (.iinc 3 1, 3) := by decide +kernel
theorem dX5_count_185 : decode cX5_count 185 = .ok (.goto (-26), 3) := by decide +kernel
theorem dX5_count_188 : decode cX5_count 188 = .ok (.iload_n 2, 1) := by decide +kernel
theorem dX5_count_189 : decode cX5_count 189 = .ok (.ireturn, 1) := by decide +kernel
theorem dX5_count_190 : decode cX5_count 190 = .ok (.iconst 0, 1) := by decide +kernel
theorem dX5_count_191 : decode cX5_count 191 = .ok (.istore_n 3, 1) := by decide +kernel
theorem dX5_count_192 : decode cX5_count 192 = .ok (.iload_n 3, 1) := by decide +kernel
theorem dX5_count_193 : decode cX5_count 193 = .ok (.iconst 4, 1) := by decide +kernel
theorem dX5_count_194 : decode cX5_count 194 = .ok (.if_icmp .ge 26, 3) := by decide +kernel
theorem dX5_count_197 : decode cX5_count 197 = .ok (.iload_n 2, 1) := by decide +kernel
theorem dX5_count_198 : decode cX5_count 198 = .ok (.aload_n 0, 1) := by decide +kernel
theorem dX5_count_199 : decode cX5_count 199 = .ok (.getfield 19, 3) := by decide +kernel
theorem dX5_count_202 : decode cX5_count 202 = .ok (.iload_n 3, 1) := by decide +kernel
theorem dX5_count_203 : decode cX5_count 203 = .ok (.iaload, 1) := by decide +kernel
theorem dX5_count_204 : decode cX5_count 204 = .ok (.ifCond .ge 7, 3) := by decide +kernel
theorem dX5_count_207 : decode cX5_count 207 = .ok (.iconst 0, 1) := by decide +kernel
theorem dX5_count_208 : decode cX5_count 208 = .ok (.goto 4, 3) := by decide +kernel
theorem dX5_count_211 : decode cX5_count 211 = .ok (.iconst 1, 1) := by decide +kernel
theorem dX5_count_212 : decode cX5_count 212 = .ok (.iadd, 1) := by decide +kernel
theorem dX5_count_213 : decode cX5_count 213 = .ok (.istore_n 2, 1) := by decide +kernel
theorem dX5_count_214 : decode cX5_count 214 = .ok (.iinc 3 1, 3) := by decide +kernel
theorem dX5_count_217 : decode cX5_count 217 = .ok (.goto (-25), 3) := by decide +kernel
theorem dX5_count_220 : decode cX5_count 220 = .ok (.iload_n 2, 1) := by decide +kernel
theorem dX5_count_221 : decode cX5_count 221 = .ok (.ireturn, 1) := by decide +kernel
theorem dX5_count_222 : decode cX5_count 222 = .ok (.iconst 0, 1) := by decide +kernel
theorem dX5_count_223 : decode cX5_count 223 = .ok (.istore_n 3, 1) := by decide +kernel
theorem dX5_count_224 : decode cX5_count 224 = .ok (.iload_n 3, 1) := by decide +kernel
theorem dX5_count_225 : decode cX5_count 225 = .ok (.iconst 3, 1) := by decide +kernel
theorem dX5_count_226 : decode cX5_count 226 = .ok (.if_icmp .ge 26, 3) := by decide +kernel
theorem dX5_count_229 : decode cX5_count 229 = .ok (.iload_n 2, 1) := by decide +kernel
theorem dX5_count_230 : decode cX5_count 230 = .ok (.aload_n 0, 1) := by decide +kernel
theorem dX5_count_231 : decode cX5_count 231 = .ok (.getfield 34, 3) := by decide +kernel
theorem dX5_count_234 : decode cX5_count 234 = .ok (.iload_n 3, 1) := by decide +kernel
theorem dX5_count_235 : decode cX5_count 235 = .ok (.baload, 1) := by decide +kernel
theorem dX5_count_236 : decode cX5_count 236 = .ok (.ifCond .eq 7, 3) := by decide +kernel
theorem dX5_count_239 : decode cX5_count 239 = .ok (.iconst 1, 1) := by decide +kernel
theorem dX5_count_240 : decode cX5_count 240 = .ok (.goto 4, 3) := by decide +kernel
theorem dX5_count_243 : decode cX5_count 243 = .ok (.iconst 0, 1) := by decide +kernel
theorem dX5_count_244 : decode cX5_count 244 = .ok (.iadd, 1) := by decide +kernel
theorem dX5_count_245 : decode cX5_count 245 = .ok (.istore_n 2, 1) := by decide +kernel
theorem dX5_count_246 : decode cX5_count 246 = .ok (.iinc 3 1, 3) := by decide +kernel
theorem dX5_count_249 : decode cX5_count 249 = .ok (.goto (-25), 3) := by decide +kernel
theorem dX5_count_252 : decode cX5_count 252 = .ok (.iload_n 2, 1) := by decide +kernel
theorem dX5_count_253 : decode cX5_count 253 = .ok (.ireturn, 1) := by decide +kernel
theorem dX5_count_254 : decode cX5_count 254 = .ok (.iconst (-1), 1) := by decide +kernel
theorem dX5_count_255 : decode cX5_count 255 = .ok (.ireturn, 1) := by decide +kernel
theorem dX5_finding_0 : decode cX5_finding 0 = .ok (.aload_n 0, 1) := by decide +kernel
theorem dX5_finding_1 : decode cX5_finding 1 = .ok (.getfield 63, 3) := by decide +kernel
theorem dX5_finding_4 : decode cX5_finding 4 = .ok (.ireturn, 1) := by decide +kernel
theorem dX5_findings_0 : decode cX5_findings 0 = .ok (.iload_n 1, 1) := by decide +kernel
theorem dX5_findings_1 : decode cX5_findings 1 = .ok (.iconst 1, 1) := by decide +kernel
theorem dX5_findings_2 : decode cX5_findings 2 = .ok (.iconst 5, 1) := by decide +kernel
theorem dX5_findings_3 : decode cX5_findings 3 = .ok (.invokestatic 73, 3) := by decide +kernel
theorem dX5_findings_6 : decode cX5_findings 6 = .ok (.ifCond .eq 12, 3) := by decide +kernel
theorem dX5_findings_9 : decode cX5_findings 9 = .ok (.aload_n 0, 1) := by decide +kernel
theorem dX5_findings_10 : decode cX5_findings 10 = .ok (.getfield 38, 3) := by decide +kernel
theorem dX5_findings_13 : decode cX5_findings 13 = .ok (.iload_n 1, 1) := by decide +kernel
theorem dX5_findings_14 : decode cX5_findings 14 = .ok (.iaload, 1) := by decide +kernel
theorem dX5_findings_15 : decode cX5_findings 15 = .ok (.goto 4, 3) := by decide +kernel
theorem dX5_findings_18 : decode cX5_findings 18 = .ok (.iconst (-1), 1) := by decide +kernel
theorem dX5_findings_19 : decode cX5_findings 19 = .ok (.ireturn, 1) := by decide +kernel
theorem dX5_digest_0 : decode cX5_digest 0 = .ok (.ldc2_w 252, 3) := by decide +kernel
theorem dX5_digest_3 : decode cX5_digest 3 = .ok (.lstore_n 1, 1) := by decide +kernel
theorem dX5_digest_4 : decode cX5_digest 4 = .ok (.iconst 0, 1) := by decide +kernel
theorem dX5_digest_5 : decode cX5_digest 5 = .ok (.istore_n 3, 1) := by decide +kernel
theorem dX5_digest_6 : decode cX5_digest 6 = .ok (.iload_n 3, 1) := by decide +kernel
theorem dX5_digest_7 : decode cX5_digest 7 = .ok (.bipush 11, 2) := by decide +kernel
theorem dX5_digest_9 : decode cX5_digest 9 = .ok (.if_icmp .ge 22, 3) := by decide +kernel
theorem dX5_digest_12 : decode cX5_digest 12 = .ok (.ldc2_w 254, 3) := by decide +kernel
theorem dX5_digest_15 : decode cX5_digest 15 = .ok (.lload_n 1, 1) := by decide +kernel
theorem dX5_digest_16 : decode cX5_digest 16 = .ok (.lmul, 1) := by decide +kernel
theorem dX5_digest_17 : decode cX5_digest 17 = .ok (.aload_n 0, 1) := by decide +kernel
theorem dX5_digest_18 : decode cX5_digest 18 = .ok (.iload_n 3, 1) := by decide +kernel
theorem dX5_digest_19 : decode cX5_digest 19 = .ok (.invokevirtual 256, 3) := by decide +kernel
theorem dX5_digest_22 : decode cX5_digest 22 = .ok (.i2l, 1) := by decide +kernel
theorem dX5_digest_23 : decode cX5_digest 23 = .ok (.ladd, 1) := by decide +kernel
theorem dX5_digest_24 : decode cX5_digest 24 = .ok (.lstore_n 1, 1) := by decide +kernel
theorem dX5_digest_25 : decode cX5_digest 25 = .ok (.iinc 3 1, 3) := by decide +kernel
theorem dX5_digest_28 : decode cX5_digest 28 = .ok (.goto (-22), 3) := by decide +kernel
theorem dX5_digest_31 : decode cX5_digest 31 = .ok (.iconst 3, 1) := by decide +kernel
theorem dX5_digest_32 : decode cX5_digest 32 = .ok (.istore_n 3, 1) := by decide +kernel
theorem dX5_digest_33 : decode cX5_digest 33 = .ok (.iload_n 3, 1) := by decide +kernel
theorem dX5_digest_34 : decode cX5_digest 34 = .ok (.bipush 6, 2) := by decide +kernel
theorem dX5_digest_36 : decode cX5_digest 36 = .ok (.if_icmp .ge 29, 3) := by decide +kernel
theorem dX5_digest_39 : decode cX5_digest 39 = .ok (.aload_n 0, 1) := by decide +kernel
theorem dX5_digest_40 : decode cX5_digest 40 = .ok (.invokevirtual 176, 3) := by decide +kernel
theorem dX5_digest_43 : decode cX5_digest 43 = .ok (.ifCond .eq 22, 3) := by decide +kernel
theorem dX5_digest_46 : decode cX5_digest 46 = .ok (.ldc2_w 254, 3) := by decide +kernel
theorem dX5_digest_49 : decode cX5_digest 49 = .ok (.lload_n 1, 1) := by decide +kernel
theorem dX5_digest_50 : decode cX5_digest 50 = .ok (.lmul, 1) := by decide +kernel
theorem dX5_digest_51 : decode cX5_digest 51 = .ok (.aload_n 0, 1) := by decide +kernel
theorem dX5_digest_52 : decode cX5_digest 52 = .ok (.iload_n 3, 1) := by decide +kernel
theorem dX5_digest_53 : decode cX5_digest 53 = .ok (.invokevirtual 180, 3) := by decide +kernel
theorem dX5_digest_56 : decode cX5_digest 56 = .ok (.i2l, 1) := by decide +kernel
theorem dX5_digest_57 : decode cX5_digest 57 = .ok (.ladd, 1) := by decide +kernel
theorem dX5_digest_58 : decode cX5_digest 58 = .ok (.lstore_n 1, 1) := by decide +kernel
theorem dX5_digest_59 : decode cX5_digest 59 = .ok (.iinc 3 1, 3) := by decide +kernel
theorem dX5_digest_62 : decode cX5_digest 62 = .ok (.goto (-29), 3) := by decide +kernel
theorem dX5_digest_65 : decode cX5_digest 65 = .ok (.iconst 0, 1) := by decide +kernel
theorem dX5_digest_66 : decode cX5_digest 66 = .ok (.istore_n 3, 1) := by decide +kernel
theorem dX5_digest_67 : decode cX5_digest 67 = .ok (.iload_n 3, 1) := by decide +kernel
theorem dX5_digest_68 : decode cX5_digest 68 = .ok (.bipush 6, 2) := by decide +kernel
theorem dX5_digest_70 : decode cX5_digest 70 = .ok (.aload_n 0, 1) := by decide +kernel
theorem dX5_digest_71 : decode cX5_digest 71 = .ok (.getfield 25, 3) := by decide +kernel
theorem dX5_digest_74 : decode cX5_digest 74 = .ok (.bipush 7, 2) := by decide +kernel
theorem dX5_digest_76 : decode cX5_digest 76 = .ok (.iaload, 1) := by decide +kernel
theorem dX5_digest_77 : decode cX5_digest 77 = .ok (.imul, 1) := by decide +kernel
theorem dX5_digest_78 : decode cX5_digest 78 = .ok (.if_icmp .ge 29, 3) := by decide +kernel
theorem dX5_digest_81 : decode cX5_digest 81 = .ok (.ldc2_w 254, 3) := by decide +kernel
theorem dX5_digest_84 : decode cX5_digest 84 = .ok (.lload_n 1, 1) := by decide +kernel
theorem dX5_digest_85 : decode cX5_digest 85 = .ok (.lmul, 1) := by decide +kernel
theorem dX5_digest_86 : decode cX5_digest 86 = .ok (.aload_n 0, 1) := by decide +kernel
theorem dX5_digest_87 : decode cX5_digest 87 = .ok (.iload_n 3, 1) := by decide +kernel
theorem dX5_digest_88 : decode cX5_digest 88 = .ok (.bipush 6, 2) := by decide +kernel
theorem dX5_digest_90 : decode cX5_digest 90 = .ok (.idiv, 1) := by decide +kernel
theorem dX5_digest_91 : decode cX5_digest 91 = .ok (.iload_n 3, 1) := by decide +kernel
theorem dX5_digest_92 : decode cX5_digest 92 = .ok (.bipush 6, 2) := by decide +kernel
theorem dX5_digest_94 : decode cX5_digest 94 = .ok (.irem, 1) := by decide +kernel
theorem dX5_digest_95 : decode cX5_digest 95 = .ok (.invokevirtual 153, 3) := by decide +kernel
theorem dX5_digest_98 : decode cX5_digest 98 = .ok (.i2l, 1) := by decide +kernel
theorem dX5_digest_99 : decode cX5_digest 99 = .ok (.ladd, 1) := by decide +kernel
theorem dX5_digest_100 : decode cX5_digest 100 = .ok (.lstore_n 1, 1) := by decide +kernel
theorem dX5_digest_101 : decode cX5_digest 101 = .ok (.iinc 3 1, 3) := by decide +kernel
theorem dX5_digest_104 : decode cX5_digest 104 = .ok (.goto (-37), 3) := by decide +kernel
theorem dX5_digest_107 : decode cX5_digest 107 = .ok (.iconst 0, 1) := by decide +kernel
theorem dX5_digest_108 : decode cX5_digest 108 = .ok (.istore_n 3, 1) := by decide +kernel
theorem dX5_digest_109 : decode cX5_digest 109 = .ok (.iload_n 3, 1) := by decide +kernel
theorem dX5_digest_110 : decode cX5_digest 110 = .ok (.iconst 3, 1) := by decide +kernel
theorem dX5_digest_111 : decode cX5_digest 111 = .ok (.if_icmp .ge 43, 3) := by decide +kernel
theorem dX5_digest_114 : decode cX5_digest 114 = .ok (.ldc2_w 254, 3) := by decide +kernel
theorem dX5_digest_117 : decode cX5_digest 117 = .ok (.lload_n 1, 1) := by decide +kernel
theorem dX5_digest_118 : decode cX5_digest 118 = .ok (.lmul, 1) := by decide +kernel
theorem dX5_digest_119 : decode cX5_digest 119 = .ok (.aload_n 0, 1) := by decide +kernel
theorem dX5_digest_120 : decode cX5_digest 120 = .ok (.getfield 34, 3) := by decide +kernel
theorem dX5_digest_123 : decode cX5_digest 123 = .ok (.iload_n 3, 1) := by decide +kernel
theorem dX5_digest_124 : decode cX5_digest 124 = .ok (.baload, 1) := by decide +kernel
theorem dX5_digest_125 : decode cX5_digest 125 = .ok (.ifCond .eq 19, 3) := by decide +kernel
theorem dX5_digest_128 : decode cX5_digest 128 = .ok (.aload_n 0, 1) := by decide +kernel
theorem dX5_digest_129 : decode cX5_digest 129 = .ok (.getfield 31, 3) := by decide +kernel
theorem dX5_digest_132 : decode cX5_digest 132 = .ok (.sipush 400, 3) := by decide +kernel
theorem dX5_digest_135 : decode cX5_digest 135 = .ok (.iload_n 3, 1) := by decide +kernel
theorem dX5_digest_136 : decode cX5_digest 136 = .ok (.imul, 1) := by decide +kernel
theorem dX5_digest_137 : decode cX5_digest 137 = .ok (.bipush 9, 2) := by decide +kernel
theorem dX5_digest_139 : decode cX5_digest 139 = .ok (.iadd, 1) := by decide +kernel
theorem dX5_digest_140 : decode cX5_digest 140 = .ok (.iaload, 1) := by decide +kernel
theorem dX5_digest_141 : decode cX5_digest 141 = .ok (.goto 4, 3) := by decide +kernel
theorem dX5_digest_144 : decode cX5_digest 144 = .ok (.iconst (-1), 1) := by decide +kernel
theorem dX5_digest_145 : decode cX5_digest 145 = .ok (.i2l, 1) := by decide +kernel
theorem dX5_digest_146 : decode cX5_digest 146 = .ok (.ladd, 1) := by decide +kernel
theorem dX5_digest_147 : decode cX5_digest 147 = .ok (.lstore_n 1, 1) := by decide +kernel
theorem dX5_digest_148 : decode cX5_digest 148 = .ok (.iinc 3 1, 3) := by decide +kernel
theorem dX5_digest_151 : decode cX5_digest 151 = .ok (.goto (-42), 3) := by decide +kernel
theorem dX5_digest_154 : decode cX5_digest 154 = .ok (.iconst 0, 1) := by decide +kernel
theorem dX5_digest_155 : decode cX5_digest 155 = .ok (.istore_n 3, 1) := by decide +kernel
theorem dX5_digest_156 : decode cX5_digest 156 = .ok (.iload_n 3, 1) := by decide +kernel
theorem dX5_digest_157 : decode cX5_digest 157 = .ok (.bipush 6, 2) := by decide +kernel
theorem dX5_digest_159 : decode cX5_digest 159 = .ok (.if_icmp .ge 63, 3) := by decide +kernel
theorem dX5_digest_162 : decode cX5_digest 162 = .ok (.ldc2_w 254, 3) := by decide +kernel
theorem dX5_digest_165 : decode cX5_digest 165 = .ok (.lload_n 1, 1) := by decide +kernel
theorem dX5_digest_166 : decode cX5_digest 166 = .ok (.lmul, 1) := by decide +kernel
theorem dX5_digest_167 : decode cX5_digest 167 = .ok (.aload_n 0, 1) := by decide +kernel
theorem dX5_digest_168 : decode cX5_digest 168 = .ok (.getfield 7, 3) := by decide +kernel
theorem dX5_digest_171 : decode cX5_digest 171 = .ok (.iload_n 3, 1) := by decide +kernel
theorem dX5_digest_172 : decode cX5_digest 172 = .ok (.iaload, 1) := by decide +kernel
theorem dX5_digest_173 : decode cX5_digest 173 = .ok (.i2l, 1) := by decide +kernel
theorem dX5_digest_174 : decode cX5_digest 174 = .ok (.ladd, 1) := by decide +kernel
theorem dX5_digest_175 : decode cX5_digest 175 = .ok (.lstore_n 1, 1) := by decide +kernel
theorem dX5_digest_176 : decode cX5_digest 176 = .ok (.iconst 0, 1) := by decide +kernel
theorem dX5_digest_177 : decode cX5_digest 177 = .ok (.istore 4, 2) := by decide +kernel
theorem dX5_digest_179 : decode cX5_digest 179 = .ok (.iload 4, 2) := by decide +kernel
theorem dX5_digest_181 : decode cX5_digest 181 = .ok (.aload_n 0, 1) := by decide +kernel
theorem dX5_digest_182 : decode cX5_digest 182 = .ok (.getfield 7, 3) := by decide +kernel
theorem dX5_digest_185 : decode cX5_digest 185 = .ok (.iload_n 3, 1) := by decide +kernel
theorem dX5_digest_186 : decode cX5_digest 186 = .ok (.iaload, 1) := by decide +kernel
theorem dX5_digest_187 : decode cX5_digest 187 = .ok (.if_icmp .ge 29, 3) := by decide +kernel
theorem dX5_digest_190 : decode cX5_digest 190 = .ok (.ldc2_w 254, 3) := by decide +kernel
theorem dX5_digest_193 : decode cX5_digest 193 = .ok (.lload_n 1, 1) := by decide +kernel
theorem dX5_digest_194 : decode cX5_digest 194 = .ok (.lmul, 1) := by decide +kernel
theorem dX5_digest_195 : decode cX5_digest 195 = .ok (.aload_n 0, 1) := by decide +kernel
theorem dX5_digest_196 : decode cX5_digest 196 = .ok (.getfield 13, 3) := by decide +kernel
theorem dX5_digest_199 : decode cX5_digest 199 = .ok (.bipush 40, 2) := by decide +kernel
theorem dX5_digest_201 : decode cX5_digest 201 = .ok (.iload_n 3, 1) := by decide +kernel
theorem dX5_digest_202 : decode cX5_digest 202 = .ok (.imul, 1) := by decide +kernel
theorem dX5_digest_203 : decode cX5_digest 203 = .ok (.iload 4, 2) := by decide +kernel
theorem dX5_digest_205 : decode cX5_digest 205 = .ok (.iadd, 1) := by decide +kernel
theorem dX5_digest_206 : decode cX5_digest 206 = .ok (.iaload, 1) := by decide +kernel
theorem dX5_digest_207 : decode cX5_digest 207 = .ok (.i2l, 1) := by decide +kernel
theorem dX5_digest_208 : decode cX5_digest 208 = .ok (.ladd, 1) := by decide +kernel
theorem dX5_digest_209 : decode cX5_digest 209 = .ok (.lstore_n 1, 1) := by decide +kernel
theorem dX5_digest_210 : decode cX5_digest 210 = .ok (.iinc 4 1, 3) := by decide +kernel
theorem dX5_digest_213 : decode cX5_digest 213 = .ok (.goto (-34), 3) := by decide +kernel
theorem dX5_digest_216 : decode cX5_digest 216 = .ok (.iinc 3 1, 3) := by decide +kernel
theorem dX5_digest_219 : decode cX5_digest 219 = .ok (.goto (-63), 3) := by decide +kernel
theorem dX5_digest_222 : decode cX5_digest 222 = .ok (.iconst 0, 1) := by decide +kernel
theorem dX5_digest_223 : decode cX5_digest 223 = .ok (.istore_n 3, 1) := by decide +kernel
theorem dX5_digest_224 : decode cX5_digest 224 = .ok (.iload_n 3, 1) := by decide +kernel
theorem dX5_digest_225 : decode cX5_digest 225 = .ok (.iconst 4, 1) := by decide +kernel
theorem dX5_digest_226 : decode cX5_digest 226 = .ok (.if_icmp .ge 63, 3) := by decide +kernel
theorem dX5_digest_229 : decode cX5_digest 229 = .ok (.ldc2_w 254, 3) := by decide +kernel
theorem dX5_digest_232 : decode cX5_digest 232 = .ok (.lload_n 1, 1) := by decide +kernel
theorem dX5_digest_233 : decode cX5_digest 233 = .ok (.lmul, 1) := by decide +kernel
theorem dX5_digest_234 : decode cX5_digest 234 = .ok (.aload_n 0, 1) := by decide +kernel
theorem dX5_digest_235 : decode cX5_digest 235 = .ok (.getfield 19, 3) := by decide +kernel
theorem dX5_digest_238 : decode cX5_digest 238 = .ok (.iload_n 3, 1) := by decide +kernel
theorem dX5_digest_239 : decode cX5_digest 239 = .ok (.iaload, 1) := by decide +kernel
theorem dX5_digest_240 : decode cX5_digest 240 = .ok (.i2l, 1) := by decide +kernel
theorem dX5_digest_241 : decode cX5_digest 241 = .ok (.ladd, 1) := by decide +kernel
theorem dX5_digest_242 : decode cX5_digest 242 = .ok (.lstore_n 1, 1) := by decide +kernel
theorem dX5_digest_243 : decode cX5_digest 243 = .ok (.iconst 0, 1) := by decide +kernel
theorem dX5_digest_244 : decode cX5_digest 244 = .ok (.istore 4, 2) := by decide +kernel
theorem dX5_digest_246 : decode cX5_digest 246 = .ok (.iload 4, 2) := by decide +kernel
theorem dX5_digest_248 : decode cX5_digest 248 = .ok (.aload_n 0, 1) := by decide +kernel
theorem dX5_digest_249 : decode cX5_digest 249 = .ok (.getfield 19, 3) := by decide +kernel
theorem dX5_digest_252 : decode cX5_digest 252 = .ok (.iload_n 3, 1) := by decide +kernel
theorem dX5_digest_253 : decode cX5_digest 253 = .ok (.iaload, 1) := by decide +kernel
theorem dX5_digest_254 : decode cX5_digest 254 = .ok (.if_icmp .ge 29, 3) := by decide +kernel
theorem dX5_digest_257 : decode cX5_digest 257 = .ok (.ldc2_w 254, 3) := by decide +kernel
theorem dX5_digest_260 : decode cX5_digest 260 = .ok (.lload_n 1, 1) := by decide +kernel
theorem dX5_digest_261 : decode cX5_digest 261 = .ok (.lmul, 1) := by decide +kernel
theorem dX5_digest_262 : decode cX5_digest 262 = .ok (.aload_n 0, 1) := by decide +kernel
theorem dX5_digest_263 : decode cX5_digest 263 = .ok (.getfield 22, 3) := by decide +kernel
theorem dX5_digest_266 : decode cX5_digest 266 = .ok (.bipush 60, 2) := by decide +kernel
theorem dX5_digest_268 : decode cX5_digest 268 = .ok (.iload_n 3, 1) := by decide +kernel
theorem dX5_digest_269 : decode cX5_digest 269 = .ok (.imul, 1) := by decide +kernel
theorem dX5_digest_270 : decode cX5_digest 270 = .ok (.iload 4, 2) := by decide +kernel
theorem dX5_digest_272 : decode cX5_digest 272 = .ok (.iadd, 1) := by decide +kernel
theorem dX5_digest_273 : decode cX5_digest 273 = .ok (.iaload, 1) := by decide +kernel
theorem dX5_digest_274 : decode cX5_digest 274 = .ok (.i2l, 1) := by decide +kernel
theorem dX5_digest_275 : decode cX5_digest 275 = .ok (.ladd, 1) := by decide +kernel
theorem dX5_digest_276 : decode cX5_digest 276 = .ok (.lstore_n 1, 1) := by decide +kernel
theorem dX5_digest_277 : decode cX5_digest 277 = .ok (.iinc 4 1, 3) := by decide +kernel
theorem dX5_digest_280 : decode cX5_digest 280 = .ok (.goto (-34), 3) := by decide +kernel
theorem dX5_digest_283 : decode cX5_digest 283 = .ok (.iinc 3 1, 3) := by decide +kernel
theorem dX5_digest_286 : decode cX5_digest 286 = .ok (.goto (-62), 3) := by decide +kernel
theorem dX5_digest_289 : decode cX5_digest 289 = .ok (.lload_n 1, 1) := by decide +kernel
theorem dX5_digest_290 : decode cX5_digest 290 = .ok (.lreturn, 1) := by decide +kernel
theorem dJ6_bitCount_0f7a4_0 : decode cJ6_bitCount_0f7a4 0 = .ok (.iload_n 0, 1) := by decide +kernel
theorem dJ6_bitCount_0f7a4_1 : decode cJ6_bitCount_0f7a4 1 = .ok (.iload_n 0, 1) := by decide +kernel
theorem dJ6_bitCount_0f7a4_2 : decode cJ6_bitCount_0f7a4 2 = .ok (.iconst 1, 1) := by decide +kernel
theorem dJ6_bitCount_0f7a4_3 : decode cJ6_bitCount_0f7a4 3 = .ok (.iushr, 1) := by decide +kernel
theorem dJ6_bitCount_0f7a4_4 : decode cJ6_bitCount_0f7a4 4 = .ok (.ldc_w 265, 3) := by decide +kernel
theorem dJ6_bitCount_0f7a4_7 : decode cJ6_bitCount_0f7a4 7 = .ok (.iand, 1) := by decide +kernel
theorem dJ6_bitCount_0f7a4_8 : decode cJ6_bitCount_0f7a4 8 = .ok (.isub, 1) := by decide +kernel
theorem dJ6_bitCount_0f7a4_9 : decode cJ6_bitCount_0f7a4 9 = .ok (.istore_n 0, 1) := by decide +kernel
theorem dJ6_bitCount_0f7a4_10 : decode cJ6_bitCount_0f7a4 10 = .ok (.iload_n 0, 1) := by decide +kernel
theorem dJ6_bitCount_0f7a4_11 : decode cJ6_bitCount_0f7a4 11 = .ok (.ldc_w 266, 3) := by decide +kernel
theorem dJ6_bitCount_0f7a4_14 : decode cJ6_bitCount_0f7a4 14 = .ok (.iand, 1) := by decide +kernel
theorem dJ6_bitCount_0f7a4_15 : decode cJ6_bitCount_0f7a4 15 = .ok (.iload_n 0, 1) := by decide +kernel
theorem dJ6_bitCount_0f7a4_16 : decode cJ6_bitCount_0f7a4 16 = .ok (.iconst 2, 1) := by decide +kernel
theorem dJ6_bitCount_0f7a4_17 : decode cJ6_bitCount_0f7a4 17 = .ok (.iushr, 1) := by decide +kernel
theorem dJ6_bitCount_0f7a4_18 : decode cJ6_bitCount_0f7a4 18 = .ok (.ldc_w 266, 3) := by decide +kernel
theorem dJ6_bitCount_0f7a4_21 : decode cJ6_bitCount_0f7a4 21 = .ok (.iand, 1) := by decide +kernel
theorem dJ6_bitCount_0f7a4_22 : decode cJ6_bitCount_0f7a4 22 = .ok (.iadd, 1) := by decide +kernel
theorem dJ6_bitCount_0f7a4_23 : decode cJ6_bitCount_0f7a4 23 = .ok (.istore_n 0, 1) := by decide +kernel
theorem dJ6_bitCount_0f7a4_24 : decode cJ6_bitCount_0f7a4 24 = .ok (.iload_n 0, 1) := by decide +kernel
theorem dJ6_bitCount_0f7a4_25 : decode cJ6_bitCount_0f7a4 25 = .ok (.iload_n 0, 1) := by decide +kernel
theorem dJ6_bitCount_0f7a4_26 : decode cJ6_bitCount_0f7a4 26 = .ok (.iconst 4, 1) := by decide +kernel
theorem dJ6_bitCount_0f7a4_27 : decode cJ6_bitCount_0f7a4 27 = .ok (.iushr, 1) := by decide +kernel
theorem dJ6_bitCount_0f7a4_28 : decode cJ6_bitCount_0f7a4 28 = .ok (.iadd, 1) := by decide +kernel
theorem dJ6_bitCount_0f7a4_29 : decode cJ6_bitCount_0f7a4 29 = .ok (.ldc_w 267, 3) := by decide +kernel
theorem dJ6_bitCount_0f7a4_32 : decode cJ6_bitCount_0f7a4 32 = .ok (.iand, 1) := by decide +kernel
theorem dJ6_bitCount_0f7a4_33 : decode cJ6_bitCount_0f7a4 33 = .ok (.istore_n 0, 1) := by decide +kernel
theorem dJ6_bitCount_0f7a4_34 : decode cJ6_bitCount_0f7a4 34 = .ok (.iload_n 0, 1) := by decide +kernel
theorem dJ6_bitCount_0f7a4_35 : decode cJ6_bitCount_0f7a4 35 = .ok (.iload_n 0, 1) := by decide +kernel
theorem dJ6_bitCount_0f7a4_36 : decode cJ6_bitCount_0f7a4 36 = .ok (.bipush 8, 2) := by decide +kernel
theorem dJ6_bitCount_0f7a4_38 : decode cJ6_bitCount_0f7a4 38 = .ok (.iushr, 1) := by decide +kernel
theorem dJ6_bitCount_0f7a4_39 : decode cJ6_bitCount_0f7a4 39 = .ok (.iadd, 1) := by decide +kernel
theorem dJ6_bitCount_0f7a4_40 : decode cJ6_bitCount_0f7a4 40 = .ok (.istore_n 0, 1) := by decide +kernel
theorem dJ6_bitCount_0f7a4_41 : decode cJ6_bitCount_0f7a4 41 = .ok (.iload_n 0, 1) := by decide +kernel
theorem dJ6_bitCount_0f7a4_42 : decode cJ6_bitCount_0f7a4 42 = .ok (.iload_n 0, 1) := by decide +kernel
theorem dJ6_bitCount_0f7a4_43 : decode cJ6_bitCount_0f7a4 43 = .ok (.bipush 16, 2) := by decide +kernel
theorem dJ6_bitCount_0f7a4_45 : decode cJ6_bitCount_0f7a4 45 = .ok (.iushr, 1) := by decide +kernel
theorem dJ6_bitCount_0f7a4_46 : decode cJ6_bitCount_0f7a4 46 = .ok (.iadd, 1) := by decide +kernel
theorem dJ6_bitCount_0f7a4_47 : decode cJ6_bitCount_0f7a4 47 = .ok (.istore_n 0, 1) := by decide +kernel
theorem dJ6_bitCount_0f7a4_48 : decode cJ6_bitCount_0f7a4 48 = .ok (.iload_n 0, 1) := by decide +kernel
theorem dJ6_bitCount_0f7a4_49 : decode cJ6_bitCount_0f7a4 49 = .ok (.bipush 63, 2) := by decide +kernel
theorem dJ6_bitCount_0f7a4_51 : decode cJ6_bitCount_0f7a4 51 = .ok (.iand, 1) := by decide +kernel
theorem dJ6_bitCount_0f7a4_52 : decode cJ6_bitCount_0f7a4 52 = .ok (.ireturn, 1) := by decide +kernel
theorem dJ9_floorMod_7cf53_0 : decode cJ9_floorMod_7cf53 0 = .ok (.iload_n 0, 1) := by decide +kernel
theorem dJ9_floorMod_7cf53_1 : decode cJ9_floorMod_7cf53 1 = .ok (.iload_n 1, 1) := by decide +kernel
theorem dJ9_floorMod_7cf53_2 : decode cJ9_floorMod_7cf53 2 = .ok (.irem, 1) := by decide +kernel
theorem dJ9_floorMod_7cf53_3 : decode cJ9_floorMod_7cf53 3 = .ok (.istore_n 2, 1) := by decide +kernel
theorem dJ9_floorMod_7cf53_4 : decode cJ9_floorMod_7cf53 4 = .ok (.iload_n 0, 1) := by decide +kernel
theorem dJ9_floorMod_7cf53_5 : decode cJ9_floorMod_7cf53 5 = .ok (.iload_n 1, 1) := by decide +kernel
theorem dJ9_floorMod_7cf53_6 : decode cJ9_floorMod_7cf53 6 = .ok (.ixor, 1) := by decide +kernel
theorem dJ9_floorMod_7cf53_7 : decode cJ9_floorMod_7cf53 7 = .ok (.ifCond .ge 11, 3) := by decide +kernel
theorem dJ9_floorMod_7cf53_10 : decode cJ9_floorMod_7cf53 10 = .ok (.iload_n 2, 1) := by decide +kernel
theorem dJ9_floorMod_7cf53_11 : decode cJ9_floorMod_7cf53 11 = .ok (.ifCond .eq 7, 3) := by decide +kernel
theorem dJ9_floorMod_7cf53_14 : decode cJ9_floorMod_7cf53 14 = .ok (.iload_n 2, 1) := by decide +kernel
theorem dJ9_floorMod_7cf53_15 : decode cJ9_floorMod_7cf53 15 = .ok (.iload_n 1, 1) := by decide +kernel
theorem dJ9_floorMod_7cf53_16 : decode cJ9_floorMod_7cf53 16 = .ok (.iadd, 1) := by decide +kernel
theorem dJ9_floorMod_7cf53_17 : decode cJ9_floorMod_7cf53 17 = .ok (.ireturn, 1) := by decide +kernel
theorem dJ9_floorMod_7cf53_18 : decode cJ9_floorMod_7cf53 18 = .ok (.iload_n 2, 1) := by decide +kernel
theorem dJ9_floorMod_7cf53_19 : decode cJ9_floorMod_7cf53 19 = .ok (.ireturn, 1) := by decide +kernel
theorem dJ9_abs_0f7a4_0 : decode cJ9_abs_0f7a4 0 = .ok (.iload_n 0, 1) := by decide +kernel
theorem dJ9_abs_0f7a4_1 : decode cJ9_abs_0f7a4 1 = .ok (.ifCond .ge 8, 3) := by decide +kernel
theorem dJ9_abs_0f7a4_4 : decode cJ9_abs_0f7a4 4 = .ok (.iload_n 0, 1) := by decide +kernel
theorem dJ9_abs_0f7a4_5 : decode cJ9_abs_0f7a4 5 = .ok (.ineg, 1) := by decide +kernel
theorem dJ9_abs_0f7a4_6 : decode cJ9_abs_0f7a4 6 = .ok (.goto 4, 3) := by decide +kernel
theorem dJ9_abs_0f7a4_9 : decode cJ9_abs_0f7a4 9 = .ok (.iload_n 0, 1) := by decide +kernel
theorem dJ9_abs_0f7a4_10 : decode cJ9_abs_0f7a4 10 = .ok (.ireturn, 1) := by decide +kernel
theorem dJ9_max_7cf53_0 : decode cJ9_max_7cf53 0 = .ok (.iload_n 0, 1) := by decide +kernel
theorem dJ9_max_7cf53_1 : decode cJ9_max_7cf53 1 = .ok (.iload_n 1, 1) := by decide +kernel
theorem dJ9_max_7cf53_2 : decode cJ9_max_7cf53 2 = .ok (.if_icmp .lt 7, 3) := by decide +kernel
theorem dJ9_max_7cf53_5 : decode cJ9_max_7cf53 5 = .ok (.iload_n 0, 1) := by decide +kernel
theorem dJ9_max_7cf53_6 : decode cJ9_max_7cf53 6 = .ok (.goto 4, 3) := by decide +kernel
theorem dJ9_max_7cf53_9 : decode cJ9_max_7cf53 9 = .ok (.iload_n 1, 1) := by decide +kernel
theorem dJ9_max_7cf53_10 : decode cJ9_max_7cf53 10 = .ok (.ireturn, 1) := by decide +kernel
theorem dJ9_min_7cf53_0 : decode cJ9_min_7cf53 0 = .ok (.iload_n 0, 1) := by decide +kernel
theorem dJ9_min_7cf53_1 : decode cJ9_min_7cf53 1 = .ok (.iload_n 1, 1) := by decide +kernel
theorem dJ9_min_7cf53_2 : decode cJ9_min_7cf53 2 = .ok (.if_icmp .gt 7, 3) := by decide +kernel
theorem dJ9_min_7cf53_5 : decode cJ9_min_7cf53 5 = .ok (.iload_n 0, 1) := by decide +kernel
theorem dJ9_min_7cf53_6 : decode cJ9_min_7cf53 6 = .ok (.goto 4, 3) := by decide +kernel
theorem dJ9_min_7cf53_9 : decode cJ9_min_7cf53 9 = .ok (.iload_n 1, 1) := by decide +kernel
theorem dJ9_min_7cf53_10 : decode cJ9_min_7cf53 10 = .ok (.ireturn, 1) := by decide +kernel
theorem dL_law_0 : decode cL_law 0 = .ok (.new 7, 3) := by decide +kernel
theorem dL_law_3 : decode cL_law 3 = .ok (.dup, 1) := by decide +kernel
theorem dL_law_4 : decode cL_law 4 = .ok (.invokespecial 9, 3) := by decide +kernel
theorem dL_law_7 : decode cL_law 7 = .ok (.astore_n 1, 1) := by decide +kernel
theorem dL_law_8 : decode cL_law 8 = .ok (.new 10, 3) := by decide +kernel
theorem dL_law_11 : decode cL_law 11 = .ok (.dup, 1) := by decide +kernel
theorem dL_law_12 : decode cL_law 12 = .ok (.invokespecial 12, 3) := by decide +kernel
theorem dL_law_15 : decode cL_law 15 = .ok (.astore_n 2, 1) := by decide +kernel
theorem dL_law_16 : decode cL_law 16 = .ok (.iconst 0, 1) := by decide +kernel
theorem dL_law_17 : decode cL_law 17 = .ok (.istore_n 3, 1) := by decide +kernel
theorem dL_law_18 : decode cL_law 18 = .ok (.iload_n 3, 1) := by decide +kernel
theorem dL_law_19 : decode cL_law 19 = .ok (.aload_n 0, 1) := by decide +kernel
theorem dL_law_20 : decode cL_law 20 = .ok (.arraylength, 1) := by decide +kernel
theorem dL_law_21 : decode cL_law 21 = .ok (.bipush 6, 2) := by decide +kernel
theorem dL_law_23 : decode cL_law 23 = .ok (.isub, 1) := by decide +kernel
theorem dL_law_24 : decode cL_law 24 = .ok (.if_icmp .gt 1297, 3) := by decide +kernel
theorem dL_law_27 : decode cL_law 27 = .ok (.aload_n 0, 1) := by decide +kernel
theorem dL_law_28 : decode cL_law 28 = .ok (.iload_n 3, 1) := by decide +kernel
theorem dL_law_29 : decode cL_law 29 = .ok (.iaload, 1) := by decide +kernel
theorem dL_law_30 : decode cL_law 30 = .ok (.bipush 63, 2) := by decide +kernel
theorem dL_law_32 : decode cL_law 32 = .ok (.iand, 1) := by decide +kernel
theorem dL_law_33 : decode cL_law 33 = .ok (.tableswitch 1282 0 41 #[183, 216, 259, 292, 315, 378, 401, 434, 477, 500, 523, 556, 589, 612, 625, 658, 691, 714, 737, 760, 773, 786, 819, 832, 855, 888, 901, 924, 957, 990, 1013, 1046, 1079, 1112, 1135, 1168, 1181, 1195, 1209, 1232, 1245, 1268], 183) := by decide +kernel
theorem dL_law_216 : decode cL_law 216 = .ok (.aload_n 1, 1) := by decide +kernel
theorem dL_law_217 : decode cL_law 217 = .ok (.aload_n 0, 1) := by decide +kernel
theorem dL_law_218 : decode cL_law 218 = .ok (.iload_n 3, 1) := by decide +kernel
theorem dL_law_219 : decode cL_law 219 = .ok (.iconst 1, 1) := by decide +kernel
theorem dL_law_220 : decode cL_law 220 = .ok (.iadd, 1) := by decide +kernel
theorem dL_law_221 : decode cL_law 221 = .ok (.iaload, 1) := by decide +kernel
theorem dL_law_222 : decode cL_law 222 = .ok (.aload_n 0, 1) := by decide +kernel
theorem dL_law_223 : decode cL_law 223 = .ok (.iload_n 3, 1) := by decide +kernel
theorem dL_law_224 : decode cL_law 224 = .ok (.iconst 2, 1) := by decide +kernel
theorem dL_law_225 : decode cL_law 225 = .ok (.iadd, 1) := by decide +kernel
theorem dL_law_226 : decode cL_law 226 = .ok (.iaload, 1) := by decide +kernel
theorem dL_law_227 : decode cL_law 227 = .ok (.invokevirtual 13, 3) := by decide +kernel
theorem dL_law_230 : decode cL_law 230 = .ok (.aload_n 2, 1) := by decide +kernel
theorem dL_law_231 : decode cL_law 231 = .ok (.aload_n 0, 1) := by decide +kernel
theorem dL_law_232 : decode cL_law 232 = .ok (.iload_n 3, 1) := by decide +kernel
theorem dL_law_233 : decode cL_law 233 = .ok (.iconst 1, 1) := by decide +kernel
theorem dL_law_234 : decode cL_law 234 = .ok (.iadd, 1) := by decide +kernel
theorem dL_law_235 : decode cL_law 235 = .ok (.iaload, 1) := by decide +kernel
theorem dL_law_236 : decode cL_law 236 = .ok (.aload_n 0, 1) := by decide +kernel
theorem dL_law_237 : decode cL_law 237 = .ok (.iload_n 3, 1) := by decide +kernel
theorem dL_law_238 : decode cL_law 238 = .ok (.iconst 2, 1) := by decide +kernel
theorem dL_law_239 : decode cL_law 239 = .ok (.iadd, 1) := by decide +kernel
theorem dL_law_240 : decode cL_law 240 = .ok (.iaload, 1) := by decide +kernel
theorem dL_law_241 : decode cL_law 241 = .ok (.invokevirtual 17, 3) := by decide +kernel
theorem dL_law_244 : decode cL_law 244 = .ok (.if_icmp .eq 1071, 3) := by decide +kernel
theorem dL_law_247 : decode cL_law 247 = .ok (.iconst 0, 1) := by decide +kernel
theorem dL_law_248 : decode cL_law 248 = .ok (.ireturn, 1) := by decide +kernel
theorem dL_law_249 : decode cL_law 249 = .ok (.aload_n 1, 1) := by decide +kernel
theorem dL_law_250 : decode cL_law 250 = .ok (.aload_n 0, 1) := by decide +kernel
theorem dL_law_251 : decode cL_law 251 = .ok (.iload_n 3, 1) := by decide +kernel
theorem dL_law_252 : decode cL_law 252 = .ok (.iconst 1, 1) := by decide +kernel
theorem dL_law_253 : decode cL_law 253 = .ok (.iadd, 1) := by decide +kernel
theorem dL_law_254 : decode cL_law 254 = .ok (.iaload, 1) := by decide +kernel
theorem dL_law_255 : decode cL_law 255 = .ok (.aload_n 0, 1) := by decide +kernel
theorem dL_law_256 : decode cL_law 256 = .ok (.iload_n 3, 1) := by decide +kernel
theorem dL_law_257 : decode cL_law 257 = .ok (.iconst 2, 1) := by decide +kernel
theorem dL_law_258 : decode cL_law 258 = .ok (.iadd, 1) := by decide +kernel
theorem dL_law_259 : decode cL_law 259 = .ok (.iaload, 1) := by decide +kernel
theorem dL_law_260 : decode cL_law 260 = .ok (.aload_n 0, 1) := by decide +kernel
theorem dL_law_261 : decode cL_law 261 = .ok (.iload_n 3, 1) := by decide +kernel
theorem dL_law_262 : decode cL_law 262 = .ok (.iconst 3, 1) := by decide +kernel
theorem dL_law_263 : decode cL_law 263 = .ok (.iadd, 1) := by decide +kernel
theorem dL_law_264 : decode cL_law 264 = .ok (.iaload, 1) := by decide +kernel
theorem dL_law_265 : decode cL_law 265 = .ok (.invokevirtual 18, 3) := by decide +kernel
theorem dL_law_268 : decode cL_law 268 = .ok (.aload_n 2, 1) := by decide +kernel
theorem dL_law_269 : decode cL_law 269 = .ok (.aload_n 0, 1) := by decide +kernel
theorem dL_law_270 : decode cL_law 270 = .ok (.iload_n 3, 1) := by decide +kernel
theorem dL_law_271 : decode cL_law 271 = .ok (.iconst 1, 1) := by decide +kernel
theorem dL_law_272 : decode cL_law 272 = .ok (.iadd, 1) := by decide +kernel
theorem dL_law_273 : decode cL_law 273 = .ok (.iaload, 1) := by decide +kernel
theorem dL_law_274 : decode cL_law 274 = .ok (.aload_n 0, 1) := by decide +kernel
theorem dL_law_275 : decode cL_law 275 = .ok (.iload_n 3, 1) := by decide +kernel
theorem dL_law_276 : decode cL_law 276 = .ok (.iconst 2, 1) := by decide +kernel
theorem dL_law_277 : decode cL_law 277 = .ok (.iadd, 1) := by decide +kernel
theorem dL_law_278 : decode cL_law 278 = .ok (.iaload, 1) := by decide +kernel
theorem dL_law_279 : decode cL_law 279 = .ok (.aload_n 0, 1) := by decide +kernel
theorem dL_law_280 : decode cL_law 280 = .ok (.iload_n 3, 1) := by decide +kernel
theorem dL_law_281 : decode cL_law 281 = .ok (.iconst 3, 1) := by decide +kernel
theorem dL_law_282 : decode cL_law 282 = .ok (.iadd, 1) := by decide +kernel
theorem dL_law_283 : decode cL_law 283 = .ok (.iaload, 1) := by decide +kernel
theorem dL_law_284 : decode cL_law 284 = .ok (.invokevirtual 22, 3) := by decide +kernel
theorem dL_law_287 : decode cL_law 287 = .ok (.if_icmp .eq 1028, 3) := by decide +kernel
theorem dL_law_290 : decode cL_law 290 = .ok (.iconst 0, 1) := by decide +kernel
theorem dL_law_291 : decode cL_law 291 = .ok (.ireturn, 1) := by decide +kernel
theorem dL_law_292 : decode cL_law 292 = .ok (.aload_n 1, 1) := by decide +kernel
theorem dL_law_293 : decode cL_law 293 = .ok (.aload_n 0, 1) := by decide +kernel
theorem dL_law_294 : decode cL_law 294 = .ok (.iload_n 3, 1) := by decide +kernel
theorem dL_law_295 : decode cL_law 295 = .ok (.iconst 1, 1) := by decide +kernel
theorem dL_law_296 : decode cL_law 296 = .ok (.iadd, 1) := by decide +kernel
theorem dL_law_297 : decode cL_law 297 = .ok (.iaload, 1) := by decide +kernel
theorem dL_law_298 : decode cL_law 298 = .ok (.aload_n 0, 1) := by decide +kernel
theorem dL_law_299 : decode cL_law 299 = .ok (.iload_n 3, 1) := by decide +kernel
theorem dL_law_300 : decode cL_law 300 = .ok (.iconst 2, 1) := by decide +kernel
theorem dL_law_301 : decode cL_law 301 = .ok (.iadd, 1) := by decide +kernel
theorem dL_law_302 : decode cL_law 302 = .ok (.iaload, 1) := by decide +kernel
theorem dL_law_303 : decode cL_law 303 = .ok (.invokevirtual 23, 3) := by decide +kernel
theorem dL_law_306 : decode cL_law 306 = .ok (.aload_n 2, 1) := by decide +kernel
theorem dL_law_307 : decode cL_law 307 = .ok (.aload_n 0, 1) := by decide +kernel
theorem dL_law_308 : decode cL_law 308 = .ok (.iload_n 3, 1) := by decide +kernel
theorem dL_law_309 : decode cL_law 309 = .ok (.iconst 1, 1) := by decide +kernel
theorem dL_law_310 : decode cL_law 310 = .ok (.iadd, 1) := by decide +kernel
theorem dL_law_311 : decode cL_law 311 = .ok (.iaload, 1) := by decide +kernel
theorem dL_law_312 : decode cL_law 312 = .ok (.aload_n 0, 1) := by decide +kernel
theorem dL_law_313 : decode cL_law 313 = .ok (.iload_n 3, 1) := by decide +kernel
theorem dL_law_314 : decode cL_law 314 = .ok (.iconst 2, 1) := by decide +kernel
theorem dL_law_315 : decode cL_law 315 = .ok (.iadd, 1) := by decide +kernel
theorem dL_law_316 : decode cL_law 316 = .ok (.iaload, 1) := by decide +kernel
theorem dL_law_317 : decode cL_law 317 = .ok (.invokevirtual 26, 3) := by decide +kernel
theorem dL_law_320 : decode cL_law 320 = .ok (.if_icmp .eq 995, 3) := by decide +kernel
theorem dL_law_323 : decode cL_law 323 = .ok (.iconst 0, 1) := by decide +kernel
theorem dL_law_324 : decode cL_law 324 = .ok (.ireturn, 1) := by decide +kernel
theorem dL_law_325 : decode cL_law 325 = .ok (.aload_n 1, 1) := by decide +kernel
theorem dL_law_326 : decode cL_law 326 = .ok (.aload_n 0, 1) := by decide +kernel
theorem dL_law_327 : decode cL_law 327 = .ok (.iload_n 3, 1) := by decide +kernel
theorem dL_law_328 : decode cL_law 328 = .ok (.iconst 1, 1) := by decide +kernel
theorem dL_law_329 : decode cL_law 329 = .ok (.iadd, 1) := by decide +kernel
theorem dL_law_330 : decode cL_law 330 = .ok (.iaload, 1) := by decide +kernel
theorem dL_law_331 : decode cL_law 331 = .ok (.invokevirtual 27, 3) := by decide +kernel
theorem dL_law_334 : decode cL_law 334 = .ok (.aload_n 2, 1) := by decide +kernel
theorem dL_law_335 : decode cL_law 335 = .ok (.aload_n 0, 1) := by decide +kernel
theorem dL_law_336 : decode cL_law 336 = .ok (.iload_n 3, 1) := by decide +kernel
theorem dL_law_337 : decode cL_law 337 = .ok (.iconst 1, 1) := by decide +kernel
theorem dL_law_338 : decode cL_law 338 = .ok (.iadd, 1) := by decide +kernel
theorem dL_law_339 : decode cL_law 339 = .ok (.iaload, 1) := by decide +kernel
theorem dL_law_340 : decode cL_law 340 = .ok (.invokevirtual 31, 3) := by decide +kernel
theorem dL_law_343 : decode cL_law 343 = .ok (.if_icmp .eq 972, 3) := by decide +kernel
theorem dL_law_346 : decode cL_law 346 = .ok (.iconst 0, 1) := by decide +kernel
theorem dL_law_347 : decode cL_law 347 = .ok (.ireturn, 1) := by decide +kernel
theorem dL_law_348 : decode cL_law 348 = .ok (.aload_n 1, 1) := by decide +kernel
theorem dL_law_349 : decode cL_law 349 = .ok (.aload_n 0, 1) := by decide +kernel
theorem dL_law_350 : decode cL_law 350 = .ok (.iload_n 3, 1) := by decide +kernel
theorem dL_law_351 : decode cL_law 351 = .ok (.iconst 1, 1) := by decide +kernel
theorem dL_law_352 : decode cL_law 352 = .ok (.iadd, 1) := by decide +kernel
theorem dL_law_353 : decode cL_law 353 = .ok (.iaload, 1) := by decide +kernel
theorem dL_law_354 : decode cL_law 354 = .ok (.aload_n 0, 1) := by decide +kernel
theorem dL_law_355 : decode cL_law 355 = .ok (.iload_n 3, 1) := by decide +kernel
theorem dL_law_356 : decode cL_law 356 = .ok (.iconst 2, 1) := by decide +kernel
theorem dL_law_357 : decode cL_law 357 = .ok (.iadd, 1) := by decide +kernel
theorem dL_law_358 : decode cL_law 358 = .ok (.iaload, 1) := by decide +kernel
theorem dL_law_359 : decode cL_law 359 = .ok (.aload_n 0, 1) := by decide +kernel
theorem dL_law_360 : decode cL_law 360 = .ok (.iload_n 3, 1) := by decide +kernel
theorem dL_law_361 : decode cL_law 361 = .ok (.iconst 3, 1) := by decide +kernel
theorem dL_law_362 : decode cL_law 362 = .ok (.iadd, 1) := by decide +kernel
theorem dL_law_363 : decode cL_law 363 = .ok (.iaload, 1) := by decide +kernel
theorem dL_law_364 : decode cL_law 364 = .ok (.aload_n 0, 1) := by decide +kernel
theorem dL_law_365 : decode cL_law 365 = .ok (.iload_n 3, 1) := by decide +kernel
theorem dL_law_366 : decode cL_law 366 = .ok (.iconst 4, 1) := by decide +kernel
theorem dL_law_367 : decode cL_law 367 = .ok (.iadd, 1) := by decide +kernel
theorem dL_law_368 : decode cL_law 368 = .ok (.iaload, 1) := by decide +kernel
theorem dL_law_369 : decode cL_law 369 = .ok (.aload_n 0, 1) := by decide +kernel
theorem dL_law_370 : decode cL_law 370 = .ok (.iload_n 3, 1) := by decide +kernel
theorem dL_law_371 : decode cL_law 371 = .ok (.iconst 5, 1) := by decide +kernel
theorem dL_law_372 : decode cL_law 372 = .ok (.iadd, 1) := by decide +kernel
theorem dL_law_373 : decode cL_law 373 = .ok (.iaload, 1) := by decide +kernel
theorem dL_law_374 : decode cL_law 374 = .ok (.invokevirtual 32, 3) := by decide +kernel
theorem dL_law_377 : decode cL_law 377 = .ok (.aload_n 2, 1) := by decide +kernel
theorem dL_law_378 : decode cL_law 378 = .ok (.aload_n 0, 1) := by decide +kernel
theorem dL_law_379 : decode cL_law 379 = .ok (.iload_n 3, 1) := by decide +kernel
theorem dL_law_380 : decode cL_law 380 = .ok (.iconst 1, 1) := by decide +kernel
theorem dL_law_381 : decode cL_law 381 = .ok (.iadd, 1) := by decide +kernel
theorem dL_law_382 : decode cL_law 382 = .ok (.iaload, 1) := by decide +kernel
theorem dL_law_383 : decode cL_law 383 = .ok (.aload_n 0, 1) := by decide +kernel
theorem dL_law_384 : decode cL_law 384 = .ok (.iload_n 3, 1) := by decide +kernel
theorem dL_law_385 : decode cL_law 385 = .ok (.iconst 2, 1) := by decide +kernel
theorem dL_law_386 : decode cL_law 386 = .ok (.iadd, 1) := by decide +kernel
theorem dL_law_387 : decode cL_law 387 = .ok (.iaload, 1) := by decide +kernel
theorem dL_law_388 : decode cL_law 388 = .ok (.aload_n 0, 1) := by decide +kernel
theorem dL_law_389 : decode cL_law 389 = .ok (.iload_n 3, 1) := by decide +kernel
theorem dL_law_390 : decode cL_law 390 = .ok (.iconst 3, 1) := by decide +kernel
theorem dL_law_391 : decode cL_law 391 = .ok (.iadd, 1) := by decide +kernel
theorem dL_law_392 : decode cL_law 392 = .ok (.iaload, 1) := by decide +kernel
theorem dL_law_393 : decode cL_law 393 = .ok (.aload_n 0, 1) := by decide +kernel
theorem dL_law_394 : decode cL_law 394 = .ok (.iload_n 3, 1) := by decide +kernel
theorem dL_law_395 : decode cL_law 395 = .ok (.iconst 4, 1) := by decide +kernel
theorem dL_law_396 : decode cL_law 396 = .ok (.iadd, 1) := by decide +kernel
theorem dL_law_397 : decode cL_law 397 = .ok (.iaload, 1) := by decide +kernel
theorem dL_law_398 : decode cL_law 398 = .ok (.aload_n 0, 1) := by decide +kernel
theorem dL_law_399 : decode cL_law 399 = .ok (.iload_n 3, 1) := by decide +kernel
theorem dL_law_400 : decode cL_law 400 = .ok (.iconst 5, 1) := by decide +kernel
theorem dL_law_401 : decode cL_law 401 = .ok (.iadd, 1) := by decide +kernel
theorem dL_law_402 : decode cL_law 402 = .ok (.iaload, 1) := by decide +kernel
theorem dL_law_403 : decode cL_law 403 = .ok (.invokevirtual 36, 3) := by decide +kernel
theorem dL_law_406 : decode cL_law 406 = .ok (.if_icmp .eq 909, 3) := by decide +kernel
theorem dL_law_409 : decode cL_law 409 = .ok (.iconst 0, 1) := by decide +kernel
theorem dL_law_410 : decode cL_law 410 = .ok (.ireturn, 1) := by decide +kernel
theorem dL_law_411 : decode cL_law 411 = .ok (.aload_n 1, 1) := by decide +kernel
theorem dL_law_412 : decode cL_law 412 = .ok (.aload_n 0, 1) := by decide +kernel
theorem dL_law_413 : decode cL_law 413 = .ok (.iload_n 3, 1) := by decide +kernel
theorem dL_law_414 : decode cL_law 414 = .ok (.iconst 1, 1) := by decide +kernel
theorem dL_law_415 : decode cL_law 415 = .ok (.iadd, 1) := by decide +kernel
theorem dL_law_416 : decode cL_law 416 = .ok (.iaload, 1) := by decide +kernel
theorem dL_law_417 : decode cL_law 417 = .ok (.invokevirtual 37, 3) := by decide +kernel
theorem dL_law_420 : decode cL_law 420 = .ok (.aload_n 2, 1) := by decide +kernel
theorem dL_law_421 : decode cL_law 421 = .ok (.aload_n 0, 1) := by decide +kernel
theorem dL_law_422 : decode cL_law 422 = .ok (.iload_n 3, 1) := by decide +kernel
theorem dL_law_423 : decode cL_law 423 = .ok (.iconst 1, 1) := by decide +kernel
theorem dL_law_424 : decode cL_law 424 = .ok (.iadd, 1) := by decide +kernel
theorem dL_law_425 : decode cL_law 425 = .ok (.iaload, 1) := by decide +kernel
theorem dL_law_426 : decode cL_law 426 = .ok (.invokevirtual 40, 3) := by decide +kernel
theorem dL_law_429 : decode cL_law 429 = .ok (.if_icmp .eq 886, 3) := by decide +kernel
theorem dL_law_432 : decode cL_law 432 = .ok (.iconst 0, 1) := by decide +kernel
theorem dL_law_433 : decode cL_law 433 = .ok (.ireturn, 1) := by decide +kernel
theorem dL_law_434 : decode cL_law 434 = .ok (.aload_n 1, 1) := by decide +kernel
theorem dL_law_435 : decode cL_law 435 = .ok (.aload_n 0, 1) := by decide +kernel
theorem dL_law_436 : decode cL_law 436 = .ok (.iload_n 3, 1) := by decide +kernel
theorem dL_law_437 : decode cL_law 437 = .ok (.iconst 1, 1) := by decide +kernel
theorem dL_law_438 : decode cL_law 438 = .ok (.iadd, 1) := by decide +kernel
theorem dL_law_439 : decode cL_law 439 = .ok (.iaload, 1) := by decide +kernel
theorem dL_law_440 : decode cL_law 440 = .ok (.aload_n 0, 1) := by decide +kernel
theorem dL_law_441 : decode cL_law 441 = .ok (.iload_n 3, 1) := by decide +kernel
theorem dL_law_442 : decode cL_law 442 = .ok (.iconst 2, 1) := by decide +kernel
theorem dL_law_443 : decode cL_law 443 = .ok (.iadd, 1) := by decide +kernel
theorem dL_law_444 : decode cL_law 444 = .ok (.iaload, 1) := by decide +kernel
theorem dL_law_445 : decode cL_law 445 = .ok (.invokevirtual 41, 3) := by decide +kernel
theorem dL_law_448 : decode cL_law 448 = .ok (.aload_n 2, 1) := by decide +kernel
theorem dL_law_449 : decode cL_law 449 = .ok (.aload_n 0, 1) := by decide +kernel
theorem dL_law_450 : decode cL_law 450 = .ok (.iload_n 3, 1) := by decide +kernel
theorem dL_law_451 : decode cL_law 451 = .ok (.iconst 1, 1) := by decide +kernel
theorem dL_law_452 : decode cL_law 452 = .ok (.iadd, 1) := by decide +kernel
theorem dL_law_453 : decode cL_law 453 = .ok (.iaload, 1) := by decide +kernel
theorem dL_law_454 : decode cL_law 454 = .ok (.aload_n 0, 1) := by decide +kernel
theorem dL_law_455 : decode cL_law 455 = .ok (.iload_n 3, 1) := by decide +kernel
theorem dL_law_456 : decode cL_law 456 = .ok (.iconst 2, 1) := by decide +kernel
theorem dL_law_457 : decode cL_law 457 = .ok (.iadd, 1) := by decide +kernel
theorem dL_law_458 : decode cL_law 458 = .ok (.iaload, 1) := by decide +kernel
theorem dL_law_459 : decode cL_law 459 = .ok (.invokevirtual 44, 3) := by decide +kernel
theorem dL_law_462 : decode cL_law 462 = .ok (.if_icmp .eq 853, 3) := by decide +kernel
theorem dL_law_465 : decode cL_law 465 = .ok (.iconst 0, 1) := by decide +kernel
theorem dL_law_466 : decode cL_law 466 = .ok (.ireturn, 1) := by decide +kernel
theorem dL_law_467 : decode cL_law 467 = .ok (.aload_n 1, 1) := by decide +kernel
theorem dL_law_468 : decode cL_law 468 = .ok (.aload_n 0, 1) := by decide +kernel
theorem dL_law_469 : decode cL_law 469 = .ok (.iload_n 3, 1) := by decide +kernel
theorem dL_law_470 : decode cL_law 470 = .ok (.iconst 1, 1) := by decide +kernel
theorem dL_law_471 : decode cL_law 471 = .ok (.iadd, 1) := by decide +kernel
theorem dL_law_472 : decode cL_law 472 = .ok (.iaload, 1) := by decide +kernel
theorem dL_law_473 : decode cL_law 473 = .ok (.aload_n 0, 1) := by decide +kernel
theorem dL_law_474 : decode cL_law 474 = .ok (.iload_n 3, 1) := by decide +kernel
theorem dL_law_475 : decode cL_law 475 = .ok (.iconst 2, 1) := by decide +kernel
theorem dL_law_476 : decode cL_law 476 = .ok (.iadd, 1) := by decide +kernel
theorem dL_law_477 : decode cL_law 477 = .ok (.iaload, 1) := by decide +kernel
theorem dL_law_478 : decode cL_law 478 = .ok (.aload_n 0, 1) := by decide +kernel
theorem dL_law_479 : decode cL_law 479 = .ok (.iload_n 3, 1) := by decide +kernel
theorem dL_law_480 : decode cL_law 480 = .ok (.iconst 3, 1) := by decide +kernel
theorem dL_law_481 : decode cL_law 481 = .ok (.iadd, 1) := by decide +kernel
theorem dL_law_482 : decode cL_law 482 = .ok (.iaload, 1) := by decide +kernel
theorem dL_law_483 : decode cL_law 483 = .ok (.invokevirtual 45, 3) := by decide +kernel
theorem dL_law_486 : decode cL_law 486 = .ok (.aload_n 2, 1) := by decide +kernel
theorem dL_law_487 : decode cL_law 487 = .ok (.aload_n 0, 1) := by decide +kernel
theorem dL_law_488 : decode cL_law 488 = .ok (.iload_n 3, 1) := by decide +kernel
theorem dL_law_489 : decode cL_law 489 = .ok (.iconst 1, 1) := by decide +kernel
theorem dL_law_490 : decode cL_law 490 = .ok (.iadd, 1) := by decide +kernel
theorem dL_law_491 : decode cL_law 491 = .ok (.iaload, 1) := by decide +kernel
theorem dL_law_492 : decode cL_law 492 = .ok (.aload_n 0, 1) := by decide +kernel
theorem dL_law_493 : decode cL_law 493 = .ok (.iload_n 3, 1) := by decide +kernel
theorem dL_law_494 : decode cL_law 494 = .ok (.iconst 2, 1) := by decide +kernel
theorem dL_law_495 : decode cL_law 495 = .ok (.iadd, 1) := by decide +kernel
theorem dL_law_496 : decode cL_law 496 = .ok (.iaload, 1) := by decide +kernel
theorem dL_law_497 : decode cL_law 497 = .ok (.aload_n 0, 1) := by decide +kernel
theorem dL_law_498 : decode cL_law 498 = .ok (.iload_n 3, 1) := by decide +kernel
theorem dL_law_499 : decode cL_law 499 = .ok (.iconst 3, 1) := by decide +kernel
theorem dL_law_500 : decode cL_law 500 = .ok (.iadd, 1) := by decide +kernel
theorem dL_law_501 : decode cL_law 501 = .ok (.iaload, 1) := by decide +kernel
theorem dL_law_502 : decode cL_law 502 = .ok (.invokevirtual 48, 3) := by decide +kernel
theorem dL_law_505 : decode cL_law 505 = .ok (.if_icmp .eq 810, 3) := by decide +kernel
theorem dL_law_508 : decode cL_law 508 = .ok (.iconst 0, 1) := by decide +kernel
theorem dL_law_509 : decode cL_law 509 = .ok (.ireturn, 1) := by decide +kernel
theorem dL_law_510 : decode cL_law 510 = .ok (.aload_n 1, 1) := by decide +kernel
theorem dL_law_511 : decode cL_law 511 = .ok (.aload_n 0, 1) := by decide +kernel
theorem dL_law_512 : decode cL_law 512 = .ok (.iload_n 3, 1) := by decide +kernel
theorem dL_law_513 : decode cL_law 513 = .ok (.iconst 1, 1) := by decide +kernel
theorem dL_law_514 : decode cL_law 514 = .ok (.iadd, 1) := by decide +kernel
theorem dL_law_515 : decode cL_law 515 = .ok (.iaload, 1) := by decide +kernel
theorem dL_law_516 : decode cL_law 516 = .ok (.invokevirtual 49, 3) := by decide +kernel
theorem dL_law_519 : decode cL_law 519 = .ok (.aload_n 2, 1) := by decide +kernel
theorem dL_law_520 : decode cL_law 520 = .ok (.aload_n 0, 1) := by decide +kernel
theorem dL_law_521 : decode cL_law 521 = .ok (.iload_n 3, 1) := by decide +kernel
theorem dL_law_522 : decode cL_law 522 = .ok (.iconst 1, 1) := by decide +kernel
theorem dL_law_523 : decode cL_law 523 = .ok (.iadd, 1) := by decide +kernel
theorem dL_law_524 : decode cL_law 524 = .ok (.iaload, 1) := by decide +kernel
theorem dL_law_525 : decode cL_law 525 = .ok (.invokevirtual 52, 3) := by decide +kernel
theorem dL_law_528 : decode cL_law 528 = .ok (.if_icmp .eq 787, 3) := by decide +kernel
theorem dL_law_531 : decode cL_law 531 = .ok (.iconst 0, 1) := by decide +kernel
theorem dL_law_532 : decode cL_law 532 = .ok (.ireturn, 1) := by decide +kernel
theorem dL_law_533 : decode cL_law 533 = .ok (.aload_n 1, 1) := by decide +kernel
theorem dL_law_534 : decode cL_law 534 = .ok (.aload_n 0, 1) := by decide +kernel
theorem dL_law_535 : decode cL_law 535 = .ok (.iload_n 3, 1) := by decide +kernel
theorem dL_law_536 : decode cL_law 536 = .ok (.iconst 1, 1) := by decide +kernel
theorem dL_law_537 : decode cL_law 537 = .ok (.iadd, 1) := by decide +kernel
theorem dL_law_538 : decode cL_law 538 = .ok (.iaload, 1) := by decide +kernel
theorem dL_law_539 : decode cL_law 539 = .ok (.invokevirtual 53, 3) := by decide +kernel
theorem dL_law_542 : decode cL_law 542 = .ok (.aload_n 2, 1) := by decide +kernel
theorem dL_law_543 : decode cL_law 543 = .ok (.aload_n 0, 1) := by decide +kernel
theorem dL_law_544 : decode cL_law 544 = .ok (.iload_n 3, 1) := by decide +kernel
theorem dL_law_545 : decode cL_law 545 = .ok (.iconst 1, 1) := by decide +kernel
theorem dL_law_546 : decode cL_law 546 = .ok (.iadd, 1) := by decide +kernel
theorem dL_law_547 : decode cL_law 547 = .ok (.iaload, 1) := by decide +kernel
theorem dL_law_548 : decode cL_law 548 = .ok (.invokevirtual 56, 3) := by decide +kernel
theorem dL_law_551 : decode cL_law 551 = .ok (.if_icmp .eq 764, 3) := by decide +kernel
theorem dL_law_554 : decode cL_law 554 = .ok (.iconst 0, 1) := by decide +kernel
theorem dL_law_555 : decode cL_law 555 = .ok (.ireturn, 1) := by decide +kernel
theorem dL_law_556 : decode cL_law 556 = .ok (.aload_n 1, 1) := by decide +kernel
theorem dL_law_557 : decode cL_law 557 = .ok (.aload_n 0, 1) := by decide +kernel
theorem dL_law_558 : decode cL_law 558 = .ok (.iload_n 3, 1) := by decide +kernel
theorem dL_law_559 : decode cL_law 559 = .ok (.iconst 1, 1) := by decide +kernel
theorem dL_law_560 : decode cL_law 560 = .ok (.iadd, 1) := by decide +kernel
theorem dL_law_561 : decode cL_law 561 = .ok (.iaload, 1) := by decide +kernel
theorem dL_law_562 : decode cL_law 562 = .ok (.aload_n 0, 1) := by decide +kernel
theorem dL_law_563 : decode cL_law 563 = .ok (.iload_n 3, 1) := by decide +kernel
theorem dL_law_564 : decode cL_law 564 = .ok (.iconst 2, 1) := by decide +kernel
theorem dL_law_565 : decode cL_law 565 = .ok (.iadd, 1) := by decide +kernel
theorem dL_law_566 : decode cL_law 566 = .ok (.iaload, 1) := by decide +kernel
theorem dL_law_567 : decode cL_law 567 = .ok (.invokevirtual 57, 3) := by decide +kernel
theorem dL_law_570 : decode cL_law 570 = .ok (.aload_n 2, 1) := by decide +kernel
theorem dL_law_571 : decode cL_law 571 = .ok (.aload_n 0, 1) := by decide +kernel
theorem dL_law_572 : decode cL_law 572 = .ok (.iload_n 3, 1) := by decide +kernel
theorem dL_law_573 : decode cL_law 573 = .ok (.iconst 1, 1) := by decide +kernel
theorem dL_law_574 : decode cL_law 574 = .ok (.iadd, 1) := by decide +kernel
theorem dL_law_575 : decode cL_law 575 = .ok (.iaload, 1) := by decide +kernel
theorem dL_law_576 : decode cL_law 576 = .ok (.aload_n 0, 1) := by decide +kernel
theorem dL_law_577 : decode cL_law 577 = .ok (.iload_n 3, 1) := by decide +kernel
theorem dL_law_578 : decode cL_law 578 = .ok (.iconst 2, 1) := by decide +kernel
theorem dL_law_579 : decode cL_law 579 = .ok (.iadd, 1) := by decide +kernel
theorem dL_law_580 : decode cL_law 580 = .ok (.iaload, 1) := by decide +kernel
theorem dL_law_581 : decode cL_law 581 = .ok (.invokevirtual 60, 3) := by decide +kernel
theorem dL_law_584 : decode cL_law 584 = .ok (.if_icmp .eq 731, 3) := by decide +kernel
theorem dL_law_587 : decode cL_law 587 = .ok (.iconst 0, 1) := by decide +kernel
theorem dL_law_588 : decode cL_law 588 = .ok (.ireturn, 1) := by decide +kernel
theorem dL_law_589 : decode cL_law 589 = .ok (.aload_n 1, 1) := by decide +kernel
theorem dL_law_590 : decode cL_law 590 = .ok (.aload_n 0, 1) := by decide +kernel
theorem dL_law_591 : decode cL_law 591 = .ok (.iload_n 3, 1) := by decide +kernel
theorem dL_law_592 : decode cL_law 592 = .ok (.iconst 1, 1) := by decide +kernel
theorem dL_law_593 : decode cL_law 593 = .ok (.iadd, 1) := by decide +kernel
theorem dL_law_594 : decode cL_law 594 = .ok (.iaload, 1) := by decide +kernel
theorem dL_law_595 : decode cL_law 595 = .ok (.aload_n 0, 1) := by decide +kernel
theorem dL_law_596 : decode cL_law 596 = .ok (.iload_n 3, 1) := by decide +kernel
theorem dL_law_597 : decode cL_law 597 = .ok (.iconst 2, 1) := by decide +kernel
theorem dL_law_598 : decode cL_law 598 = .ok (.iadd, 1) := by decide +kernel
theorem dL_law_599 : decode cL_law 599 = .ok (.iaload, 1) := by decide +kernel
theorem dL_law_600 : decode cL_law 600 = .ok (.invokevirtual 61, 3) := by decide +kernel
theorem dL_law_603 : decode cL_law 603 = .ok (.aload_n 2, 1) := by decide +kernel
theorem dL_law_604 : decode cL_law 604 = .ok (.aload_n 0, 1) := by decide +kernel
theorem dL_law_605 : decode cL_law 605 = .ok (.iload_n 3, 1) := by decide +kernel
theorem dL_law_606 : decode cL_law 606 = .ok (.iconst 1, 1) := by decide +kernel
theorem dL_law_607 : decode cL_law 607 = .ok (.iadd, 1) := by decide +kernel
theorem dL_law_608 : decode cL_law 608 = .ok (.iaload, 1) := by decide +kernel
theorem dL_law_609 : decode cL_law 609 = .ok (.aload_n 0, 1) := by decide +kernel
theorem dL_law_610 : decode cL_law 610 = .ok (.iload_n 3, 1) := by decide +kernel
theorem dL_law_611 : decode cL_law 611 = .ok (.iconst 2, 1) := by decide +kernel
theorem dL_law_612 : decode cL_law 612 = .ok (.iadd, 1) := by decide +kernel
theorem dL_law_613 : decode cL_law 613 = .ok (.iaload, 1) := by decide +kernel
theorem dL_law_614 : decode cL_law 614 = .ok (.invokevirtual 64, 3) := by decide +kernel
theorem dL_law_617 : decode cL_law 617 = .ok (.if_icmp .eq 698, 3) := by decide +kernel
theorem dL_law_620 : decode cL_law 620 = .ok (.iconst 0, 1) := by decide +kernel
theorem dL_law_621 : decode cL_law 621 = .ok (.ireturn, 1) := by decide +kernel
theorem dL_law_622 : decode cL_law 622 = .ok (.aload_n 1, 1) := by decide +kernel
theorem dL_law_623 : decode cL_law 623 = .ok (.aload_n 0, 1) := by decide +kernel
theorem dL_law_624 : decode cL_law 624 = .ok (.iload_n 3, 1) := by decide +kernel
theorem dL_law_625 : decode cL_law 625 = .ok (.iconst 1, 1) := by decide +kernel
theorem dL_law_626 : decode cL_law 626 = .ok (.iadd, 1) := by decide +kernel
theorem dL_law_627 : decode cL_law 627 = .ok (.iaload, 1) := by decide +kernel
theorem dL_law_628 : decode cL_law 628 = .ok (.invokevirtual 65, 3) := by decide +kernel
theorem dL_law_631 : decode cL_law 631 = .ok (.aload_n 2, 1) := by decide +kernel
theorem dL_law_632 : decode cL_law 632 = .ok (.aload_n 0, 1) := by decide +kernel
theorem dL_law_633 : decode cL_law 633 = .ok (.iload_n 3, 1) := by decide +kernel
theorem dL_law_634 : decode cL_law 634 = .ok (.iconst 1, 1) := by decide +kernel
theorem dL_law_635 : decode cL_law 635 = .ok (.iadd, 1) := by decide +kernel
theorem dL_law_636 : decode cL_law 636 = .ok (.iaload, 1) := by decide +kernel
theorem dL_law_637 : decode cL_law 637 = .ok (.invokevirtual 68, 3) := by decide +kernel
theorem dL_law_640 : decode cL_law 640 = .ok (.if_icmp .eq 675, 3) := by decide +kernel
theorem dL_law_643 : decode cL_law 643 = .ok (.iconst 0, 1) := by decide +kernel
theorem dL_law_644 : decode cL_law 644 = .ok (.ireturn, 1) := by decide +kernel
theorem dL_law_645 : decode cL_law 645 = .ok (.aload_n 1, 1) := by decide +kernel
theorem dL_law_646 : decode cL_law 646 = .ok (.invokevirtual 69, 3) := by decide +kernel
theorem dL_law_649 : decode cL_law 649 = .ok (.aload_n 2, 1) := by decide +kernel
theorem dL_law_650 : decode cL_law 650 = .ok (.invokevirtual 73, 3) := by decide +kernel
theorem dL_law_653 : decode cL_law 653 = .ok (.if_icmp .eq 662, 3) := by decide +kernel
theorem dL_law_656 : decode cL_law 656 = .ok (.iconst 0, 1) := by decide +kernel
theorem dL_law_657 : decode cL_law 657 = .ok (.ireturn, 1) := by decide +kernel
theorem dL_law_658 : decode cL_law 658 = .ok (.aload_n 1, 1) := by decide +kernel
theorem dL_law_659 : decode cL_law 659 = .ok (.aload_n 0, 1) := by decide +kernel
theorem dL_law_660 : decode cL_law 660 = .ok (.iload_n 3, 1) := by decide +kernel
theorem dL_law_661 : decode cL_law 661 = .ok (.iconst 1, 1) := by decide +kernel
theorem dL_law_662 : decode cL_law 662 = .ok (.iadd, 1) := by decide +kernel
theorem dL_law_663 : decode cL_law 663 = .ok (.iaload, 1) := by decide +kernel
theorem dL_law_664 : decode cL_law 664 = .ok (.aload_n 0, 1) := by decide +kernel
theorem dL_law_665 : decode cL_law 665 = .ok (.iload_n 3, 1) := by decide +kernel
theorem dL_law_666 : decode cL_law 666 = .ok (.iconst 2, 1) := by decide +kernel
theorem dL_law_667 : decode cL_law 667 = .ok (.iadd, 1) := by decide +kernel
theorem dL_law_668 : decode cL_law 668 = .ok (.iaload, 1) := by decide +kernel
theorem dL_law_669 : decode cL_law 669 = .ok (.invokevirtual 74, 3) := by decide +kernel
theorem dL_law_672 : decode cL_law 672 = .ok (.aload_n 2, 1) := by decide +kernel
theorem dL_law_673 : decode cL_law 673 = .ok (.aload_n 0, 1) := by decide +kernel
theorem dL_law_674 : decode cL_law 674 = .ok (.iload_n 3, 1) := by decide +kernel
theorem dL_law_675 : decode cL_law 675 = .ok (.iconst 1, 1) := by decide +kernel
theorem dL_law_676 : decode cL_law 676 = .ok (.iadd, 1) := by decide +kernel
theorem dL_law_677 : decode cL_law 677 = .ok (.iaload, 1) := by decide +kernel
theorem dL_law_678 : decode cL_law 678 = .ok (.aload_n 0, 1) := by decide +kernel
theorem dL_law_679 : decode cL_law 679 = .ok (.iload_n 3, 1) := by decide +kernel
theorem dL_law_680 : decode cL_law 680 = .ok (.iconst 2, 1) := by decide +kernel
theorem dL_law_681 : decode cL_law 681 = .ok (.iadd, 1) := by decide +kernel
theorem dL_law_682 : decode cL_law 682 = .ok (.iaload, 1) := by decide +kernel
theorem dL_law_683 : decode cL_law 683 = .ok (.invokevirtual 77, 3) := by decide +kernel
theorem dL_law_686 : decode cL_law 686 = .ok (.if_icmp .eq 629, 3) := by decide +kernel
theorem dL_law_689 : decode cL_law 689 = .ok (.iconst 0, 1) := by decide +kernel
theorem dL_law_690 : decode cL_law 690 = .ok (.ireturn, 1) := by decide +kernel
theorem dL_law_691 : decode cL_law 691 = .ok (.aload_n 1, 1) := by decide +kernel
theorem dL_law_692 : decode cL_law 692 = .ok (.aload_n 0, 1) := by decide +kernel
theorem dL_law_693 : decode cL_law 693 = .ok (.iload_n 3, 1) := by decide +kernel
theorem dL_law_694 : decode cL_law 694 = .ok (.iconst 1, 1) := by decide +kernel
theorem dL_law_695 : decode cL_law 695 = .ok (.iadd, 1) := by decide +kernel
theorem dL_law_696 : decode cL_law 696 = .ok (.iaload, 1) := by decide +kernel
theorem dL_law_697 : decode cL_law 697 = .ok (.aload_n 0, 1) := by decide +kernel
theorem dL_law_698 : decode cL_law 698 = .ok (.iload_n 3, 1) := by decide +kernel
theorem dL_law_699 : decode cL_law 699 = .ok (.iconst 2, 1) := by decide +kernel
theorem dL_law_700 : decode cL_law 700 = .ok (.iadd, 1) := by decide +kernel
theorem dL_law_701 : decode cL_law 701 = .ok (.iaload, 1) := by decide +kernel
theorem dL_law_702 : decode cL_law 702 = .ok (.invokevirtual 78, 3) := by decide +kernel
theorem dL_law_705 : decode cL_law 705 = .ok (.aload_n 2, 1) := by decide +kernel
theorem dL_law_706 : decode cL_law 706 = .ok (.aload_n 0, 1) := by decide +kernel
theorem dL_law_707 : decode cL_law 707 = .ok (.iload_n 3, 1) := by decide +kernel
theorem dL_law_708 : decode cL_law 708 = .ok (.iconst 1, 1) := by decide +kernel
theorem dL_law_709 : decode cL_law 709 = .ok (.iadd, 1) := by decide +kernel
theorem dL_law_710 : decode cL_law 710 = .ok (.iaload, 1) := by decide +kernel
theorem dL_law_711 : decode cL_law 711 = .ok (.aload_n 0, 1) := by decide +kernel
theorem dL_law_712 : decode cL_law 712 = .ok (.iload_n 3, 1) := by decide +kernel
theorem dL_law_713 : decode cL_law 713 = .ok (.iconst 2, 1) := by decide +kernel
theorem dL_law_714 : decode cL_law 714 = .ok (.iadd, 1) := by decide +kernel
theorem dL_law_715 : decode cL_law 715 = .ok (.iaload, 1) := by decide +kernel
theorem dL_law_716 : decode cL_law 716 = .ok (.invokevirtual 81, 3) := by decide +kernel
theorem dL_law_719 : decode cL_law 719 = .ok (.if_icmp .eq 596, 3) := by decide +kernel
theorem dL_law_722 : decode cL_law 722 = .ok (.iconst 0, 1) := by decide +kernel
theorem dL_law_723 : decode cL_law 723 = .ok (.ireturn, 1) := by decide +kernel
theorem dL_law_724 : decode cL_law 724 = .ok (.aload_n 1, 1) := by decide +kernel
theorem dL_law_725 : decode cL_law 725 = .ok (.aload_n 0, 1) := by decide +kernel
theorem dL_law_726 : decode cL_law 726 = .ok (.iload_n 3, 1) := by decide +kernel
theorem dL_law_727 : decode cL_law 727 = .ok (.iconst 1, 1) := by decide +kernel
theorem dL_law_728 : decode cL_law 728 = .ok (.iadd, 1) := by decide +kernel
theorem dL_law_729 : decode cL_law 729 = .ok (.iaload, 1) := by decide +kernel
theorem dL_law_730 : decode cL_law 730 = .ok (.invokevirtual 82, 3) := by decide +kernel
theorem dL_law_733 : decode cL_law 733 = .ok (.aload_n 2, 1) := by decide +kernel
theorem dL_law_734 : decode cL_law 734 = .ok (.aload_n 0, 1) := by decide +kernel
theorem dL_law_735 : decode cL_law 735 = .ok (.iload_n 3, 1) := by decide +kernel
theorem dL_law_736 : decode cL_law 736 = .ok (.iconst 1, 1) := by decide +kernel
theorem dL_law_737 : decode cL_law 737 = .ok (.iadd, 1) := by decide +kernel
theorem dL_law_738 : decode cL_law 738 = .ok (.iaload, 1) := by decide +kernel
theorem dL_law_739 : decode cL_law 739 = .ok (.invokevirtual 85, 3) := by decide +kernel
theorem dL_law_742 : decode cL_law 742 = .ok (.if_icmp .eq 573, 3) := by decide +kernel
theorem dL_law_745 : decode cL_law 745 = .ok (.iconst 0, 1) := by decide +kernel
theorem dL_law_746 : decode cL_law 746 = .ok (.ireturn, 1) := by decide +kernel
theorem dL_law_747 : decode cL_law 747 = .ok (.aload_n 1, 1) := by decide +kernel
theorem dL_law_748 : decode cL_law 748 = .ok (.aload_n 0, 1) := by decide +kernel
theorem dL_law_749 : decode cL_law 749 = .ok (.iload_n 3, 1) := by decide +kernel
theorem dL_law_750 : decode cL_law 750 = .ok (.iconst 1, 1) := by decide +kernel
theorem dL_law_751 : decode cL_law 751 = .ok (.iadd, 1) := by decide +kernel
theorem dL_law_752 : decode cL_law 752 = .ok (.iaload, 1) := by decide +kernel
theorem dL_law_753 : decode cL_law 753 = .ok (.invokevirtual 86, 3) := by decide +kernel
theorem dL_law_756 : decode cL_law 756 = .ok (.aload_n 2, 1) := by decide +kernel
theorem dL_law_757 : decode cL_law 757 = .ok (.aload_n 0, 1) := by decide +kernel
theorem dL_law_758 : decode cL_law 758 = .ok (.iload_n 3, 1) := by decide +kernel
theorem dL_law_759 : decode cL_law 759 = .ok (.iconst 1, 1) := by decide +kernel
theorem dL_law_760 : decode cL_law 760 = .ok (.iadd, 1) := by decide +kernel
theorem dL_law_761 : decode cL_law 761 = .ok (.iaload, 1) := by decide +kernel
theorem dL_law_762 : decode cL_law 762 = .ok (.invokevirtual 89, 3) := by decide +kernel
theorem dL_law_765 : decode cL_law 765 = .ok (.if_icmp .eq 550, 3) := by decide +kernel
theorem dL_law_768 : decode cL_law 768 = .ok (.iconst 0, 1) := by decide +kernel
theorem dL_law_769 : decode cL_law 769 = .ok (.ireturn, 1) := by decide +kernel
theorem dL_law_770 : decode cL_law 770 = .ok (.aload_n 1, 1) := by decide +kernel
theorem dL_law_771 : decode cL_law 771 = .ok (.aload_n 0, 1) := by decide +kernel
theorem dL_law_772 : decode cL_law 772 = .ok (.iload_n 3, 1) := by decide +kernel
theorem dL_law_773 : decode cL_law 773 = .ok (.iconst 1, 1) := by decide +kernel
theorem dL_law_774 : decode cL_law 774 = .ok (.iadd, 1) := by decide +kernel
theorem dL_law_775 : decode cL_law 775 = .ok (.iaload, 1) := by decide +kernel
theorem dL_law_776 : decode cL_law 776 = .ok (.invokevirtual 90, 3) := by decide +kernel
theorem dL_law_779 : decode cL_law 779 = .ok (.aload_n 2, 1) := by decide +kernel
theorem dL_law_780 : decode cL_law 780 = .ok (.aload_n 0, 1) := by decide +kernel
theorem dL_law_781 : decode cL_law 781 = .ok (.iload_n 3, 1) := by decide +kernel
theorem dL_law_782 : decode cL_law 782 = .ok (.iconst 1, 1) := by decide +kernel
theorem dL_law_783 : decode cL_law 783 = .ok (.iadd, 1) := by decide +kernel
theorem dL_law_784 : decode cL_law 784 = .ok (.iaload, 1) := by decide +kernel
theorem dL_law_785 : decode cL_law 785 = .ok (.invokevirtual 93, 3) := by decide +kernel
theorem dL_law_788 : decode cL_law 788 = .ok (.if_icmp .eq 527, 3) := by decide +kernel
theorem dL_law_791 : decode cL_law 791 = .ok (.iconst 0, 1) := by decide +kernel
theorem dL_law_792 : decode cL_law 792 = .ok (.ireturn, 1) := by decide +kernel
theorem dL_law_793 : decode cL_law 793 = .ok (.aload_n 1, 1) := by decide +kernel
theorem dL_law_794 : decode cL_law 794 = .ok (.invokevirtual 94, 3) := by decide +kernel
theorem dL_law_797 : decode cL_law 797 = .ok (.aload_n 2, 1) := by decide +kernel
theorem dL_law_798 : decode cL_law 798 = .ok (.invokevirtual 97, 3) := by decide +kernel
theorem dL_law_801 : decode cL_law 801 = .ok (.if_icmp .eq 514, 3) := by decide +kernel
theorem dL_law_804 : decode cL_law 804 = .ok (.iconst 0, 1) := by decide +kernel
theorem dL_law_805 : decode cL_law 805 = .ok (.ireturn, 1) := by decide +kernel
theorem dL_law_806 : decode cL_law 806 = .ok (.aload_n 1, 1) := by decide +kernel
theorem dL_law_807 : decode cL_law 807 = .ok (.invokevirtual 98, 3) := by decide +kernel
theorem dL_law_810 : decode cL_law 810 = .ok (.aload_n 2, 1) := by decide +kernel
theorem dL_law_811 : decode cL_law 811 = .ok (.invokevirtual 101, 3) := by decide +kernel
theorem dL_law_814 : decode cL_law 814 = .ok (.if_icmp .eq 501, 3) := by decide +kernel
theorem dL_law_817 : decode cL_law 817 = .ok (.iconst 0, 1) := by decide +kernel
theorem dL_law_818 : decode cL_law 818 = .ok (.ireturn, 1) := by decide +kernel
theorem dL_law_819 : decode cL_law 819 = .ok (.aload_n 1, 1) := by decide +kernel
theorem dL_law_820 : decode cL_law 820 = .ok (.aload_n 0, 1) := by decide +kernel
theorem dL_law_821 : decode cL_law 821 = .ok (.iload_n 3, 1) := by decide +kernel
theorem dL_law_822 : decode cL_law 822 = .ok (.iconst 1, 1) := by decide +kernel
theorem dL_law_823 : decode cL_law 823 = .ok (.iadd, 1) := by decide +kernel
theorem dL_law_824 : decode cL_law 824 = .ok (.iaload, 1) := by decide +kernel
theorem dL_law_825 : decode cL_law 825 = .ok (.aload_n 0, 1) := by decide +kernel
theorem dL_law_826 : decode cL_law 826 = .ok (.iload_n 3, 1) := by decide +kernel
theorem dL_law_827 : decode cL_law 827 = .ok (.iconst 2, 1) := by decide +kernel
theorem dL_law_828 : decode cL_law 828 = .ok (.iadd, 1) := by decide +kernel
theorem dL_law_829 : decode cL_law 829 = .ok (.iaload, 1) := by decide +kernel
theorem dL_law_830 : decode cL_law 830 = .ok (.invokevirtual 102, 3) := by decide +kernel
theorem dL_law_833 : decode cL_law 833 = .ok (.aload_n 2, 1) := by decide +kernel
theorem dL_law_834 : decode cL_law 834 = .ok (.aload_n 0, 1) := by decide +kernel
theorem dL_law_835 : decode cL_law 835 = .ok (.iload_n 3, 1) := by decide +kernel
theorem dL_law_836 : decode cL_law 836 = .ok (.iconst 1, 1) := by decide +kernel
theorem dL_law_837 : decode cL_law 837 = .ok (.iadd, 1) := by decide +kernel
theorem dL_law_838 : decode cL_law 838 = .ok (.iaload, 1) := by decide +kernel
theorem dL_law_839 : decode cL_law 839 = .ok (.aload_n 0, 1) := by decide +kernel
theorem dL_law_840 : decode cL_law 840 = .ok (.iload_n 3, 1) := by decide +kernel
theorem dL_law_841 : decode cL_law 841 = .ok (.iconst 2, 1) := by decide +kernel
theorem dL_law_842 : decode cL_law 842 = .ok (.iadd, 1) := by decide +kernel
theorem dL_law_843 : decode cL_law 843 = .ok (.iaload, 1) := by decide +kernel
theorem dL_law_844 : decode cL_law 844 = .ok (.invokevirtual 105, 3) := by decide +kernel
theorem dL_law_847 : decode cL_law 847 = .ok (.if_icmp .eq 468, 3) := by decide +kernel
theorem dL_law_850 : decode cL_law 850 = .ok (.iconst 0, 1) := by decide +kernel
theorem dL_law_851 : decode cL_law 851 = .ok (.ireturn, 1) := by decide +kernel
theorem dL_law_852 : decode cL_law 852 = .ok (.aload_n 1, 1) := by decide +kernel
theorem dL_law_853 : decode cL_law 853 = .ok (.invokevirtual 106, 3) := by decide +kernel
theorem dL_law_856 : decode cL_law 856 = .ok (.aload_n 2, 1) := by decide +kernel
theorem dL_law_857 : decode cL_law 857 = .ok (.invokevirtual 109, 3) := by decide +kernel
theorem dL_law_860 : decode cL_law 860 = .ok (.if_icmp .eq 455, 3) := by decide +kernel
theorem dL_law_863 : decode cL_law 863 = .ok (.iconst 0, 1) := by decide +kernel
theorem dL_law_864 : decode cL_law 864 = .ok (.ireturn, 1) := by decide +kernel
theorem dL_law_865 : decode cL_law 865 = .ok (.aload_n 1, 1) := by decide +kernel
theorem dL_law_866 : decode cL_law 866 = .ok (.aload_n 0, 1) := by decide +kernel
theorem dL_law_867 : decode cL_law 867 = .ok (.iload_n 3, 1) := by decide +kernel
theorem dL_law_868 : decode cL_law 868 = .ok (.iconst 1, 1) := by decide +kernel
theorem dL_law_869 : decode cL_law 869 = .ok (.iadd, 1) := by decide +kernel
theorem dL_law_870 : decode cL_law 870 = .ok (.iaload, 1) := by decide +kernel
theorem dL_law_871 : decode cL_law 871 = .ok (.invokevirtual 110, 3) := by decide +kernel
theorem dL_law_874 : decode cL_law 874 = .ok (.aload_n 2, 1) := by decide +kernel
theorem dL_law_875 : decode cL_law 875 = .ok (.aload_n 0, 1) := by decide +kernel
theorem dL_law_876 : decode cL_law 876 = .ok (.iload_n 3, 1) := by decide +kernel
theorem dL_law_877 : decode cL_law 877 = .ok (.iconst 1, 1) := by decide +kernel
theorem dL_law_878 : decode cL_law 878 = .ok (.iadd, 1) := by decide +kernel
theorem dL_law_879 : decode cL_law 879 = .ok (.iaload, 1) := by decide +kernel
theorem dL_law_880 : decode cL_law 880 = .ok (.invokevirtual 113, 3) := by decide +kernel
theorem dL_law_883 : decode cL_law 883 = .ok (.if_icmp .eq 432, 3) := by decide +kernel
theorem dL_law_886 : decode cL_law 886 = .ok (.iconst 0, 1) := by decide +kernel
theorem dL_law_887 : decode cL_law 887 = .ok (.ireturn, 1) := by decide +kernel
theorem dL_law_888 : decode cL_law 888 = .ok (.aload_n 1, 1) := by decide +kernel
theorem dL_law_889 : decode cL_law 889 = .ok (.aload_n 0, 1) := by decide +kernel
theorem dL_law_890 : decode cL_law 890 = .ok (.iload_n 3, 1) := by decide +kernel
theorem dL_law_891 : decode cL_law 891 = .ok (.iconst 1, 1) := by decide +kernel
theorem dL_law_892 : decode cL_law 892 = .ok (.iadd, 1) := by decide +kernel
theorem dL_law_893 : decode cL_law 893 = .ok (.iaload, 1) := by decide +kernel
theorem dL_law_894 : decode cL_law 894 = .ok (.aload_n 0, 1) := by decide +kernel
theorem dL_law_895 : decode cL_law 895 = .ok (.iload_n 3, 1) := by decide +kernel
theorem dL_law_896 : decode cL_law 896 = .ok (.iconst 2, 1) := by decide +kernel
theorem dL_law_897 : decode cL_law 897 = .ok (.iadd, 1) := by decide +kernel
theorem dL_law_898 : decode cL_law 898 = .ok (.iaload, 1) := by decide +kernel
theorem dL_law_899 : decode cL_law 899 = .ok (.invokevirtual 114, 3) := by decide +kernel
theorem dL_law_902 : decode cL_law 902 = .ok (.aload_n 2, 1) := by decide +kernel
theorem dL_law_903 : decode cL_law 903 = .ok (.aload_n 0, 1) := by decide +kernel
theorem dL_law_904 : decode cL_law 904 = .ok (.iload_n 3, 1) := by decide +kernel
theorem dL_law_905 : decode cL_law 905 = .ok (.iconst 1, 1) := by decide +kernel
theorem dL_law_906 : decode cL_law 906 = .ok (.iadd, 1) := by decide +kernel
theorem dL_law_907 : decode cL_law 907 = .ok (.iaload, 1) := by decide +kernel
theorem dL_law_908 : decode cL_law 908 = .ok (.aload_n 0, 1) := by decide +kernel
theorem dL_law_909 : decode cL_law 909 = .ok (.iload_n 3, 1) := by decide +kernel
theorem dL_law_910 : decode cL_law 910 = .ok (.iconst 2, 1) := by decide +kernel
theorem dL_law_911 : decode cL_law 911 = .ok (.iadd, 1) := by decide +kernel
theorem dL_law_912 : decode cL_law 912 = .ok (.iaload, 1) := by decide +kernel
theorem dL_law_913 : decode cL_law 913 = .ok (.invokevirtual 117, 3) := by decide +kernel
theorem dL_law_916 : decode cL_law 916 = .ok (.if_icmp .eq 399, 3) := by decide +kernel
theorem dL_law_919 : decode cL_law 919 = .ok (.iconst 0, 1) := by decide +kernel
theorem dL_law_920 : decode cL_law 920 = .ok (.ireturn, 1) := by decide +kernel
theorem dL_law_921 : decode cL_law 921 = .ok (.aload_n 1, 1) := by decide +kernel
theorem dL_law_922 : decode cL_law 922 = .ok (.invokevirtual 118, 3) := by decide +kernel
theorem dL_law_925 : decode cL_law 925 = .ok (.aload_n 2, 1) := by decide +kernel
theorem dL_law_926 : decode cL_law 926 = .ok (.invokevirtual 121, 3) := by decide +kernel
theorem dL_law_929 : decode cL_law 929 = .ok (.if_icmp .eq 386, 3) := by decide +kernel
theorem dL_law_932 : decode cL_law 932 = .ok (.iconst 0, 1) := by decide +kernel
theorem dL_law_933 : decode cL_law 933 = .ok (.ireturn, 1) := by decide +kernel
theorem dL_law_934 : decode cL_law 934 = .ok (.aload_n 1, 1) := by decide +kernel
theorem dL_law_935 : decode cL_law 935 = .ok (.aload_n 0, 1) := by decide +kernel
theorem dL_law_936 : decode cL_law 936 = .ok (.iload_n 3, 1) := by decide +kernel
theorem dL_law_937 : decode cL_law 937 = .ok (.iconst 1, 1) := by decide +kernel
theorem dL_law_938 : decode cL_law 938 = .ok (.iadd, 1) := by decide +kernel
theorem dL_law_939 : decode cL_law 939 = .ok (.iaload, 1) := by decide +kernel
theorem dL_law_940 : decode cL_law 940 = .ok (.invokevirtual 122, 3) := by decide +kernel
theorem dL_law_943 : decode cL_law 943 = .ok (.aload_n 2, 1) := by decide +kernel
theorem dL_law_944 : decode cL_law 944 = .ok (.aload_n 0, 1) := by decide +kernel
theorem dL_law_945 : decode cL_law 945 = .ok (.iload_n 3, 1) := by decide +kernel
theorem dL_law_946 : decode cL_law 946 = .ok (.iconst 1, 1) := by decide +kernel
theorem dL_law_947 : decode cL_law 947 = .ok (.iadd, 1) := by decide +kernel
theorem dL_law_948 : decode cL_law 948 = .ok (.iaload, 1) := by decide +kernel
theorem dL_law_949 : decode cL_law 949 = .ok (.invokevirtual 125, 3) := by decide +kernel
theorem dL_law_952 : decode cL_law 952 = .ok (.if_icmp .eq 363, 3) := by decide +kernel
theorem dL_law_955 : decode cL_law 955 = .ok (.iconst 0, 1) := by decide +kernel
theorem dL_law_956 : decode cL_law 956 = .ok (.ireturn, 1) := by decide +kernel
theorem dL_law_957 : decode cL_law 957 = .ok (.aload_n 1, 1) := by decide +kernel
theorem dL_law_958 : decode cL_law 958 = .ok (.aload_n 0, 1) := by decide +kernel
theorem dL_law_959 : decode cL_law 959 = .ok (.iload_n 3, 1) := by decide +kernel
theorem dL_law_960 : decode cL_law 960 = .ok (.iconst 1, 1) := by decide +kernel
theorem dL_law_961 : decode cL_law 961 = .ok (.iadd, 1) := by decide +kernel
theorem dL_law_962 : decode cL_law 962 = .ok (.iaload, 1) := by decide +kernel
theorem dL_law_963 : decode cL_law 963 = .ok (.aload_n 0, 1) := by decide +kernel
theorem dL_law_964 : decode cL_law 964 = .ok (.iload_n 3, 1) := by decide +kernel
theorem dL_law_965 : decode cL_law 965 = .ok (.iconst 2, 1) := by decide +kernel
theorem dL_law_966 : decode cL_law 966 = .ok (.iadd, 1) := by decide +kernel
theorem dL_law_967 : decode cL_law 967 = .ok (.iaload, 1) := by decide +kernel
theorem dL_law_968 : decode cL_law 968 = .ok (.invokevirtual 126, 3) := by decide +kernel
theorem dL_law_971 : decode cL_law 971 = .ok (.aload_n 2, 1) := by decide +kernel
theorem dL_law_972 : decode cL_law 972 = .ok (.aload_n 0, 1) := by decide +kernel
theorem dL_law_973 : decode cL_law 973 = .ok (.iload_n 3, 1) := by decide +kernel
theorem dL_law_974 : decode cL_law 974 = .ok (.iconst 1, 1) := by decide +kernel
theorem dL_law_975 : decode cL_law 975 = .ok (.iadd, 1) := by decide +kernel
theorem dL_law_976 : decode cL_law 976 = .ok (.iaload, 1) := by decide +kernel
theorem dL_law_977 : decode cL_law 977 = .ok (.aload_n 0, 1) := by decide +kernel
theorem dL_law_978 : decode cL_law 978 = .ok (.iload_n 3, 1) := by decide +kernel
theorem dL_law_979 : decode cL_law 979 = .ok (.iconst 2, 1) := by decide +kernel
theorem dL_law_980 : decode cL_law 980 = .ok (.iadd, 1) := by decide +kernel
theorem dL_law_981 : decode cL_law 981 = .ok (.iaload, 1) := by decide +kernel
theorem dL_law_982 : decode cL_law 982 = .ok (.invokevirtual 129, 3) := by decide +kernel
theorem dL_law_985 : decode cL_law 985 = .ok (.if_icmp .eq 330, 3) := by decide +kernel
theorem dL_law_988 : decode cL_law 988 = .ok (.iconst 0, 1) := by decide +kernel
theorem dL_law_989 : decode cL_law 989 = .ok (.ireturn, 1) := by decide +kernel
theorem dL_law_990 : decode cL_law 990 = .ok (.aload_n 1, 1) := by decide +kernel
theorem dL_law_991 : decode cL_law 991 = .ok (.aload_n 0, 1) := by decide +kernel
theorem dL_law_992 : decode cL_law 992 = .ok (.iload_n 3, 1) := by decide +kernel
theorem dL_law_993 : decode cL_law 993 = .ok (.iconst 1, 1) := by decide +kernel
theorem dL_law_994 : decode cL_law 994 = .ok (.iadd, 1) := by decide +kernel
theorem dL_law_995 : decode cL_law 995 = .ok (.iaload, 1) := by decide +kernel
theorem dL_law_996 : decode cL_law 996 = .ok (.aload_n 0, 1) := by decide +kernel
theorem dL_law_997 : decode cL_law 997 = .ok (.iload_n 3, 1) := by decide +kernel
theorem dL_law_998 : decode cL_law 998 = .ok (.iconst 2, 1) := by decide +kernel
theorem dL_law_999 : decode cL_law 999 = .ok (.iadd, 1) := by decide +kernel
theorem dL_law_1000 : decode cL_law 1000 = .ok (.iaload, 1) := by decide +kernel
theorem dL_law_1001 : decode cL_law 1001 = .ok (.invokevirtual 130, 3) := by decide +kernel
theorem dL_law_1004 : decode cL_law 1004 = .ok (.aload_n 2, 1) := by decide +kernel
theorem dL_law_1005 : decode cL_law 1005 = .ok (.aload_n 0, 1) := by decide +kernel
theorem dL_law_1006 : decode cL_law 1006 = .ok (.iload_n 3, 1) := by decide +kernel
theorem dL_law_1007 : decode cL_law 1007 = .ok (.iconst 1, 1) := by decide +kernel
theorem dL_law_1008 : decode cL_law 1008 = .ok (.iadd, 1) := by decide +kernel
theorem dL_law_1009 : decode cL_law 1009 = .ok (.iaload, 1) := by decide +kernel
theorem dL_law_1010 : decode cL_law 1010 = .ok (.aload_n 0, 1) := by decide +kernel
theorem dL_law_1011 : decode cL_law 1011 = .ok (.iload_n 3, 1) := by decide +kernel
theorem dL_law_1012 : decode cL_law 1012 = .ok (.iconst 2, 1) := by decide +kernel
theorem dL_law_1013 : decode cL_law 1013 = .ok (.iadd, 1) := by decide +kernel
theorem dL_law_1014 : decode cL_law 1014 = .ok (.iaload, 1) := by decide +kernel
theorem dL_law_1015 : decode cL_law 1015 = .ok (.invokevirtual 133, 3) := by decide +kernel
theorem dL_law_1018 : decode cL_law 1018 = .ok (.if_icmp .eq 297, 3) := by decide +kernel
theorem dL_law_1021 : decode cL_law 1021 = .ok (.iconst 0, 1) := by decide +kernel
theorem dL_law_1022 : decode cL_law 1022 = .ok (.ireturn, 1) := by decide +kernel
theorem dL_law_1023 : decode cL_law 1023 = .ok (.aload_n 1, 1) := by decide +kernel
theorem dL_law_1024 : decode cL_law 1024 = .ok (.aload_n 0, 1) := by decide +kernel
theorem dL_law_1025 : decode cL_law 1025 = .ok (.iload_n 3, 1) := by decide +kernel
theorem dL_law_1026 : decode cL_law 1026 = .ok (.iconst 1, 1) := by decide +kernel
theorem dL_law_1027 : decode cL_law 1027 = .ok (.iadd, 1) := by decide +kernel
theorem dL_law_1028 : decode cL_law 1028 = .ok (.iaload, 1) := by decide +kernel
theorem dL_law_1029 : decode cL_law 1029 = .ok (.invokevirtual 134, 3) := by decide +kernel
theorem dL_law_1032 : decode cL_law 1032 = .ok (.aload_n 2, 1) := by decide +kernel
theorem dL_law_1033 : decode cL_law 1033 = .ok (.aload_n 0, 1) := by decide +kernel
theorem dL_law_1034 : decode cL_law 1034 = .ok (.iload_n 3, 1) := by decide +kernel
theorem dL_law_1035 : decode cL_law 1035 = .ok (.iconst 1, 1) := by decide +kernel
theorem dL_law_1036 : decode cL_law 1036 = .ok (.iadd, 1) := by decide +kernel
theorem dL_law_1037 : decode cL_law 1037 = .ok (.iaload, 1) := by decide +kernel
theorem dL_law_1038 : decode cL_law 1038 = .ok (.invokevirtual 137, 3) := by decide +kernel
theorem dL_law_1041 : decode cL_law 1041 = .ok (.if_icmp .eq 274, 3) := by decide +kernel
theorem dL_law_1044 : decode cL_law 1044 = .ok (.iconst 0, 1) := by decide +kernel
theorem dL_law_1045 : decode cL_law 1045 = .ok (.ireturn, 1) := by decide +kernel
theorem dL_law_1046 : decode cL_law 1046 = .ok (.aload_n 1, 1) := by decide +kernel
theorem dL_law_1047 : decode cL_law 1047 = .ok (.aload_n 0, 1) := by decide +kernel
theorem dL_law_1048 : decode cL_law 1048 = .ok (.iload_n 3, 1) := by decide +kernel
theorem dL_law_1049 : decode cL_law 1049 = .ok (.iconst 1, 1) := by decide +kernel
theorem dL_law_1050 : decode cL_law 1050 = .ok (.iadd, 1) := by decide +kernel
theorem dL_law_1051 : decode cL_law 1051 = .ok (.iaload, 1) := by decide +kernel
theorem dL_law_1052 : decode cL_law 1052 = .ok (.aload_n 0, 1) := by decide +kernel
theorem dL_law_1053 : decode cL_law 1053 = .ok (.iload_n 3, 1) := by decide +kernel
theorem dL_law_1054 : decode cL_law 1054 = .ok (.iconst 2, 1) := by decide +kernel
theorem dL_law_1055 : decode cL_law 1055 = .ok (.iadd, 1) := by decide +kernel
theorem dL_law_1056 : decode cL_law 1056 = .ok (.iaload, 1) := by decide +kernel
theorem dL_law_1057 : decode cL_law 1057 = .ok (.invokevirtual 138, 3) := by decide +kernel
theorem dL_law_1060 : decode cL_law 1060 = .ok (.aload_n 2, 1) := by decide +kernel
theorem dL_law_1061 : decode cL_law 1061 = .ok (.aload_n 0, 1) := by decide +kernel
theorem dL_law_1062 : decode cL_law 1062 = .ok (.iload_n 3, 1) := by decide +kernel
theorem dL_law_1063 : decode cL_law 1063 = .ok (.iconst 1, 1) := by decide +kernel
theorem dL_law_1064 : decode cL_law 1064 = .ok (.iadd, 1) := by decide +kernel
theorem dL_law_1065 : decode cL_law 1065 = .ok (.iaload, 1) := by decide +kernel
theorem dL_law_1066 : decode cL_law 1066 = .ok (.aload_n 0, 1) := by decide +kernel
theorem dL_law_1067 : decode cL_law 1067 = .ok (.iload_n 3, 1) := by decide +kernel
theorem dL_law_1068 : decode cL_law 1068 = .ok (.iconst 2, 1) := by decide +kernel
theorem dL_law_1069 : decode cL_law 1069 = .ok (.iadd, 1) := by decide +kernel
theorem dL_law_1070 : decode cL_law 1070 = .ok (.iaload, 1) := by decide +kernel
theorem dL_law_1071 : decode cL_law 1071 = .ok (.invokevirtual 141, 3) := by decide +kernel
theorem dL_law_1074 : decode cL_law 1074 = .ok (.if_icmp .eq 241, 3) := by decide +kernel
theorem dL_law_1077 : decode cL_law 1077 = .ok (.iconst 0, 1) := by decide +kernel
theorem dL_law_1078 : decode cL_law 1078 = .ok (.ireturn, 1) := by decide +kernel
theorem dL_law_1079 : decode cL_law 1079 = .ok (.aload_n 1, 1) := by decide +kernel
theorem dL_law_1080 : decode cL_law 1080 = .ok (.aload_n 0, 1) := by decide +kernel
theorem dL_law_1081 : decode cL_law 1081 = .ok (.iload_n 3, 1) := by decide +kernel
theorem dL_law_1082 : decode cL_law 1082 = .ok (.iconst 1, 1) := by decide +kernel
theorem dL_law_1083 : decode cL_law 1083 = .ok (.iadd, 1) := by decide +kernel
theorem dL_law_1084 : decode cL_law 1084 = .ok (.iaload, 1) := by decide +kernel
theorem dL_law_1085 : decode cL_law 1085 = .ok (.aload_n 0, 1) := by decide +kernel
theorem dL_law_1086 : decode cL_law 1086 = .ok (.iload_n 3, 1) := by decide +kernel
theorem dL_law_1087 : decode cL_law 1087 = .ok (.iconst 2, 1) := by decide +kernel
theorem dL_law_1088 : decode cL_law 1088 = .ok (.iadd, 1) := by decide +kernel
theorem dL_law_1089 : decode cL_law 1089 = .ok (.iaload, 1) := by decide +kernel
theorem dL_law_1090 : decode cL_law 1090 = .ok (.invokevirtual 142, 3) := by decide +kernel
theorem dL_law_1093 : decode cL_law 1093 = .ok (.aload_n 2, 1) := by decide +kernel
theorem dL_law_1094 : decode cL_law 1094 = .ok (.aload_n 0, 1) := by decide +kernel
theorem dL_law_1095 : decode cL_law 1095 = .ok (.iload_n 3, 1) := by decide +kernel
theorem dL_law_1096 : decode cL_law 1096 = .ok (.iconst 1, 1) := by decide +kernel
theorem dL_law_1097 : decode cL_law 1097 = .ok (.iadd, 1) := by decide +kernel
theorem dL_law_1098 : decode cL_law 1098 = .ok (.iaload, 1) := by decide +kernel
theorem dL_law_1099 : decode cL_law 1099 = .ok (.aload_n 0, 1) := by decide +kernel
theorem dL_law_1100 : decode cL_law 1100 = .ok (.iload_n 3, 1) := by decide +kernel
theorem dL_law_1101 : decode cL_law 1101 = .ok (.iconst 2, 1) := by decide +kernel
theorem dL_law_1102 : decode cL_law 1102 = .ok (.iadd, 1) := by decide +kernel
theorem dL_law_1103 : decode cL_law 1103 = .ok (.iaload, 1) := by decide +kernel
theorem dL_law_1104 : decode cL_law 1104 = .ok (.invokevirtual 145, 3) := by decide +kernel
theorem dL_law_1107 : decode cL_law 1107 = .ok (.if_icmp .eq 208, 3) := by decide +kernel
theorem dL_law_1110 : decode cL_law 1110 = .ok (.iconst 0, 1) := by decide +kernel
theorem dL_law_1111 : decode cL_law 1111 = .ok (.ireturn, 1) := by decide +kernel
theorem dL_law_1112 : decode cL_law 1112 = .ok (.aload_n 1, 1) := by decide +kernel
theorem dL_law_1113 : decode cL_law 1113 = .ok (.aload_n 0, 1) := by decide +kernel
theorem dL_law_1114 : decode cL_law 1114 = .ok (.iload_n 3, 1) := by decide +kernel
theorem dL_law_1115 : decode cL_law 1115 = .ok (.iconst 1, 1) := by decide +kernel
theorem dL_law_1116 : decode cL_law 1116 = .ok (.iadd, 1) := by decide +kernel
theorem dL_law_1117 : decode cL_law 1117 = .ok (.iaload, 1) := by decide +kernel
theorem dL_law_1118 : decode cL_law 1118 = .ok (.aload_n 0, 1) := by decide +kernel
theorem dL_law_1119 : decode cL_law 1119 = .ok (.iload_n 3, 1) := by decide +kernel
theorem dL_law_1120 : decode cL_law 1120 = .ok (.iconst 2, 1) := by decide +kernel
theorem dL_law_1121 : decode cL_law 1121 = .ok (.iadd, 1) := by decide +kernel
theorem dL_law_1122 : decode cL_law 1122 = .ok (.iaload, 1) := by decide +kernel
theorem dL_law_1123 : decode cL_law 1123 = .ok (.invokevirtual 146, 3) := by decide +kernel
theorem dL_law_1126 : decode cL_law 1126 = .ok (.aload_n 2, 1) := by decide +kernel
theorem dL_law_1127 : decode cL_law 1127 = .ok (.aload_n 0, 1) := by decide +kernel
theorem dL_law_1128 : decode cL_law 1128 = .ok (.iload_n 3, 1) := by decide +kernel
theorem dL_law_1129 : decode cL_law 1129 = .ok (.iconst 1, 1) := by decide +kernel
theorem dL_law_1130 : decode cL_law 1130 = .ok (.iadd, 1) := by decide +kernel
theorem dL_law_1131 : decode cL_law 1131 = .ok (.iaload, 1) := by decide +kernel
theorem dL_law_1132 : decode cL_law 1132 = .ok (.aload_n 0, 1) := by decide +kernel
theorem dL_law_1133 : decode cL_law 1133 = .ok (.iload_n 3, 1) := by decide +kernel
theorem dL_law_1134 : decode cL_law 1134 = .ok (.iconst 2, 1) := by decide +kernel
theorem dL_law_1135 : decode cL_law 1135 = .ok (.iadd, 1) := by decide +kernel
theorem dL_law_1136 : decode cL_law 1136 = .ok (.iaload, 1) := by decide +kernel
theorem dL_law_1137 : decode cL_law 1137 = .ok (.invokevirtual 149, 3) := by decide +kernel
theorem dL_law_1140 : decode cL_law 1140 = .ok (.if_icmp .eq 175, 3) := by decide +kernel
theorem dL_law_1143 : decode cL_law 1143 = .ok (.iconst 0, 1) := by decide +kernel
theorem dL_law_1144 : decode cL_law 1144 = .ok (.ireturn, 1) := by decide +kernel
theorem dL_law_1145 : decode cL_law 1145 = .ok (.aload_n 1, 1) := by decide +kernel
theorem dL_law_1146 : decode cL_law 1146 = .ok (.aload_n 0, 1) := by decide +kernel
theorem dL_law_1147 : decode cL_law 1147 = .ok (.iload_n 3, 1) := by decide +kernel
theorem dL_law_1148 : decode cL_law 1148 = .ok (.iconst 1, 1) := by decide +kernel
theorem dL_law_1149 : decode cL_law 1149 = .ok (.iadd, 1) := by decide +kernel
theorem dL_law_1150 : decode cL_law 1150 = .ok (.iaload, 1) := by decide +kernel
theorem dL_law_1151 : decode cL_law 1151 = .ok (.invokevirtual 150, 3) := by decide +kernel
theorem dL_law_1154 : decode cL_law 1154 = .ok (.aload_n 2, 1) := by decide +kernel
theorem dL_law_1155 : decode cL_law 1155 = .ok (.aload_n 0, 1) := by decide +kernel
theorem dL_law_1156 : decode cL_law 1156 = .ok (.iload_n 3, 1) := by decide +kernel
theorem dL_law_1157 : decode cL_law 1157 = .ok (.iconst 1, 1) := by decide +kernel
theorem dL_law_1158 : decode cL_law 1158 = .ok (.iadd, 1) := by decide +kernel
theorem dL_law_1159 : decode cL_law 1159 = .ok (.iaload, 1) := by decide +kernel
theorem dL_law_1160 : decode cL_law 1160 = .ok (.invokevirtual 153, 3) := by decide +kernel
theorem dL_law_1163 : decode cL_law 1163 = .ok (.if_icmp .eq 152, 3) := by decide +kernel
theorem dL_law_1166 : decode cL_law 1166 = .ok (.iconst 0, 1) := by decide +kernel
theorem dL_law_1167 : decode cL_law 1167 = .ok (.ireturn, 1) := by decide +kernel
theorem dL_law_1168 : decode cL_law 1168 = .ok (.aload_n 1, 1) := by decide +kernel
theorem dL_law_1169 : decode cL_law 1169 = .ok (.aload_n 0, 1) := by decide +kernel
theorem dL_law_1170 : decode cL_law 1170 = .ok (.iload_n 3, 1) := by decide +kernel
theorem dL_law_1171 : decode cL_law 1171 = .ok (.iconst 1, 1) := by decide +kernel
theorem dL_law_1172 : decode cL_law 1172 = .ok (.iadd, 1) := by decide +kernel
theorem dL_law_1173 : decode cL_law 1173 = .ok (.iaload, 1) := by decide +kernel
theorem dL_law_1174 : decode cL_law 1174 = .ok (.aload_n 0, 1) := by decide +kernel
theorem dL_law_1175 : decode cL_law 1175 = .ok (.iload_n 3, 1) := by decide +kernel
theorem dL_law_1176 : decode cL_law 1176 = .ok (.iconst 2, 1) := by decide +kernel
theorem dL_law_1177 : decode cL_law 1177 = .ok (.iadd, 1) := by decide +kernel
theorem dL_law_1178 : decode cL_law 1178 = .ok (.iaload, 1) := by decide +kernel
theorem dL_law_1179 : decode cL_law 1179 = .ok (.invokevirtual 154, 3) := by decide +kernel
theorem dL_law_1182 : decode cL_law 1182 = .ok (.aload_n 2, 1) := by decide +kernel
theorem dL_law_1183 : decode cL_law 1183 = .ok (.aload_n 0, 1) := by decide +kernel
theorem dL_law_1184 : decode cL_law 1184 = .ok (.iload_n 3, 1) := by decide +kernel
theorem dL_law_1185 : decode cL_law 1185 = .ok (.iconst 1, 1) := by decide +kernel
theorem dL_law_1186 : decode cL_law 1186 = .ok (.iadd, 1) := by decide +kernel
theorem dL_law_1187 : decode cL_law 1187 = .ok (.iaload, 1) := by decide +kernel
theorem dL_law_1188 : decode cL_law 1188 = .ok (.aload_n 0, 1) := by decide +kernel
theorem dL_law_1189 : decode cL_law 1189 = .ok (.iload_n 3, 1) := by decide +kernel
theorem dL_law_1190 : decode cL_law 1190 = .ok (.iconst 2, 1) := by decide +kernel
theorem dL_law_1191 : decode cL_law 1191 = .ok (.iadd, 1) := by decide +kernel
theorem dL_law_1192 : decode cL_law 1192 = .ok (.iaload, 1) := by decide +kernel
theorem dL_law_1193 : decode cL_law 1193 = .ok (.invokevirtual 157, 3) := by decide +kernel
theorem dL_law_1196 : decode cL_law 1196 = .ok (.if_icmp .eq 119, 3) := by decide +kernel
theorem dL_law_1199 : decode cL_law 1199 = .ok (.iconst 0, 1) := by decide +kernel
theorem dL_law_1200 : decode cL_law 1200 = .ok (.ireturn, 1) := by decide +kernel
theorem dL_law_1201 : decode cL_law 1201 = .ok (.aload_n 1, 1) := by decide +kernel
theorem dL_law_1202 : decode cL_law 1202 = .ok (.invokevirtual 158, 3) := by decide +kernel
theorem dL_law_1205 : decode cL_law 1205 = .ok (.aload_n 2, 1) := by decide +kernel
theorem dL_law_1206 : decode cL_law 1206 = .ok (.invokevirtual 161, 3) := by decide +kernel
theorem dL_law_1209 : decode cL_law 1209 = .ok (.if_icmp .eq 106, 3) := by decide +kernel
theorem dL_law_1212 : decode cL_law 1212 = .ok (.iconst 0, 1) := by decide +kernel
theorem dL_law_1213 : decode cL_law 1213 = .ok (.ireturn, 1) := by decide +kernel
theorem dL_law_1214 : decode cL_law 1214 = .ok (.aload_n 1, 1) := by decide +kernel
theorem dL_law_1215 : decode cL_law 1215 = .ok (.invokevirtual 162, 3) := by decide +kernel
theorem dL_law_1218 : decode cL_law 1218 = .ok (.aload_n 2, 1) := by decide +kernel
theorem dL_law_1219 : decode cL_law 1219 = .ok (.invokevirtual 166, 3) := by decide +kernel
theorem dL_law_1222 : decode cL_law 1222 = .ok (.lcmp, 1) := by decide +kernel
theorem dL_law_1223 : decode cL_law 1223 = .ok (.ifCond .eq 92, 3) := by decide +kernel
theorem dL_law_1226 : decode cL_law 1226 = .ok (.iconst 0, 1) := by decide +kernel
theorem dL_law_1227 : decode cL_law 1227 = .ok (.ireturn, 1) := by decide +kernel
theorem dL_law_1228 : decode cL_law 1228 = .ok (.aload_n 1, 1) := by decide +kernel
theorem dL_law_1229 : decode cL_law 1229 = .ok (.invokevirtual 167, 3) := by decide +kernel
theorem dL_law_1232 : decode cL_law 1232 = .ok (.aload_n 2, 1) := by decide +kernel
theorem dL_law_1233 : decode cL_law 1233 = .ok (.invokevirtual 170, 3) := by decide +kernel
theorem dL_law_1236 : decode cL_law 1236 = .ok (.lcmp, 1) := by decide +kernel
theorem dL_law_1237 : decode cL_law 1237 = .ok (.ifCond .eq 78, 3) := by decide +kernel
theorem dL_law_1240 : decode cL_law 1240 = .ok (.iconst 0, 1) := by decide +kernel
theorem dL_law_1241 : decode cL_law 1241 = .ok (.ireturn, 1) := by decide +kernel
theorem dL_law_1242 : decode cL_law 1242 = .ok (.aload_n 1, 1) := by decide +kernel
theorem dL_law_1243 : decode cL_law 1243 = .ok (.aload_n 0, 1) := by decide +kernel
theorem dL_law_1244 : decode cL_law 1244 = .ok (.iload_n 3, 1) := by decide +kernel
theorem dL_law_1245 : decode cL_law 1245 = .ok (.iconst 1, 1) := by decide +kernel
theorem dL_law_1246 : decode cL_law 1246 = .ok (.iadd, 1) := by decide +kernel
theorem dL_law_1247 : decode cL_law 1247 = .ok (.iaload, 1) := by decide +kernel
theorem dL_law_1248 : decode cL_law 1248 = .ok (.invokevirtual 171, 3) := by decide +kernel
theorem dL_law_1251 : decode cL_law 1251 = .ok (.aload_n 2, 1) := by decide +kernel
theorem dL_law_1252 : decode cL_law 1252 = .ok (.aload_n 0, 1) := by decide +kernel
theorem dL_law_1253 : decode cL_law 1253 = .ok (.iload_n 3, 1) := by decide +kernel
theorem dL_law_1254 : decode cL_law 1254 = .ok (.iconst 1, 1) := by decide +kernel
theorem dL_law_1255 : decode cL_law 1255 = .ok (.iadd, 1) := by decide +kernel
theorem dL_law_1256 : decode cL_law 1256 = .ok (.iaload, 1) := by decide +kernel
theorem dL_law_1257 : decode cL_law 1257 = .ok (.invokevirtual 174, 3) := by decide +kernel
theorem dL_law_1260 : decode cL_law 1260 = .ok (.if_icmp .eq 55, 3) := by decide +kernel
theorem dL_law_1263 : decode cL_law 1263 = .ok (.iconst 0, 1) := by decide +kernel
theorem dL_law_1264 : decode cL_law 1264 = .ok (.ireturn, 1) := by decide +kernel
theorem dL_law_1265 : decode cL_law 1265 = .ok (.aload_n 1, 1) := by decide +kernel
theorem dL_law_1266 : decode cL_law 1266 = .ok (.invokevirtual 175, 3) := by decide +kernel
theorem dL_law_1269 : decode cL_law 1269 = .ok (.aload_n 2, 1) := by decide +kernel
theorem dL_law_1270 : decode cL_law 1270 = .ok (.invokevirtual 178, 3) := by decide +kernel
theorem dL_law_1273 : decode cL_law 1273 = .ok (.if_icmp .eq 42, 3) := by decide +kernel
theorem dL_law_1276 : decode cL_law 1276 = .ok (.iconst 0, 1) := by decide +kernel
theorem dL_law_1277 : decode cL_law 1277 = .ok (.ireturn, 1) := by decide +kernel
theorem dL_law_1278 : decode cL_law 1278 = .ok (.aload_n 1, 1) := by decide +kernel
theorem dL_law_1279 : decode cL_law 1279 = .ok (.aload_n 0, 1) := by decide +kernel
theorem dL_law_1280 : decode cL_law 1280 = .ok (.iload_n 3, 1) := by decide +kernel
theorem dL_law_1281 : decode cL_law 1281 = .ok (.iconst 1, 1) := by decide +kernel
theorem dL_law_1282 : decode cL_law 1282 = .ok (.iadd, 1) := by decide +kernel
theorem dL_law_1283 : decode cL_law 1283 = .ok (.iaload, 1) := by decide +kernel
theorem dL_law_1284 : decode cL_law 1284 = .ok (.invokevirtual 179, 3) := by decide +kernel
theorem dL_law_1287 : decode cL_law 1287 = .ok (.aload_n 2, 1) := by decide +kernel
theorem dL_law_1288 : decode cL_law 1288 = .ok (.aload_n 0, 1) := by decide +kernel
theorem dL_law_1289 : decode cL_law 1289 = .ok (.iload_n 3, 1) := by decide +kernel
theorem dL_law_1290 : decode cL_law 1290 = .ok (.iconst 1, 1) := by decide +kernel
theorem dL_law_1291 : decode cL_law 1291 = .ok (.iadd, 1) := by decide +kernel
theorem dL_law_1292 : decode cL_law 1292 = .ok (.iaload, 1) := by decide +kernel
theorem dL_law_1293 : decode cL_law 1293 = .ok (.invokevirtual 182, 3) := by decide +kernel
theorem dL_law_1296 : decode cL_law 1296 = .ok (.if_icmp .eq 19, 3) := by decide +kernel
theorem dL_law_1299 : decode cL_law 1299 = .ok (.iconst 0, 1) := by decide +kernel
theorem dL_law_1300 : decode cL_law 1300 = .ok (.ireturn, 1) := by decide +kernel
theorem dL_law_1301 : decode cL_law 1301 = .ok (.aload_n 1, 1) := by decide +kernel
theorem dL_law_1302 : decode cL_law 1302 = .ok (.invokevirtual 183, 3) := by decide +kernel
theorem dL_law_1305 : decode cL_law 1305 = .ok (.aload_n 2, 1) := by decide +kernel
theorem dL_law_1306 : decode cL_law 1306 = .ok (.invokevirtual 186, 3) := by decide +kernel
theorem dL_law_1309 : decode cL_law 1309 = .ok (.lcmp, 1) := by decide +kernel
theorem dL_law_1310 : decode cL_law 1310 = .ok (.ifCond .eq 5, 3) := by decide +kernel
theorem dL_law_1313 : decode cL_law 1313 = .ok (.iconst 0, 1) := by decide +kernel
theorem dL_law_1314 : decode cL_law 1314 = .ok (.ireturn, 1) := by decide +kernel
theorem dL_law_1315 : decode cL_law 1315 = .ok (.iinc 3 6, 3) := by decide +kernel
theorem dL_law_1318 : decode cL_law 1318 = .ok (.goto (-1300), 3) := by decide +kernel
theorem dL_law_1321 : decode cL_law 1321 = .ok (.iconst 1, 1) := by decide +kernel
theorem dL_law_1322 : decode cL_law 1322 = .ok (.ireturn, 1) := by decide +kernel
end
section
/-! the state of both classes as two functions: ints and longs by place and slot; the references are fixed -/
abbrev Sg : Type := (Nat → Nat → Int32) × (Nat → Nat → Int64)
abbrev Gl : Type := ((va_G × (Nat → Nat)) × (Nat → ClassId)) × (Nat × (Nat → Int32))
def gD (G : Gl) : va_G := G.1.1.1
def gA (G : Gl) (k : Nat) : Nat := G.1.1.2 k
def gC (G : Gl) (t : Nat) : ClassId := G.1.2 t
def gL (G : Gl) : Nat := G.2.1
def gX (G : Gl) : Nat → Int32 := G.2.2
/-- what stands at a place: 0 .. 5 an object of that class, 10 ints, 11 booleans, 12 Rows, 13 Lands -/
def kd (k : Nat) : Nat :=
  if k < 8 then (match k with
    | 0 => 4
    | 1 => 12
    | 2 => 12
    | 3 => 13
    | 4 => 2
    | 5 => 10
    | 6 => 10
    | _ => 5)
  else if k < 18 then 3
  else if k < 28 then 10
  else if k < 88 then (if (k - 28) % 12 = 0 then 1 else if (k - 28) % 12 = 6 then 0 else 10)
  else if k = 96 then 11 else if k < 104 then 10 else 99
def ln (k : Nat) : Nat :=
  if k < 8 then (match k with
    | 1 => 6
    | 2 => 4
    | 3 => 3
    | 5 => 56
    | _ => 6)
  else if k < 24 then 40
  else if k < 28 then 60
  else if k < 88 then (if (k - 28) % 12 < 6 then 6 else 40)
  else match k - 88 with
    | 0 => 6
    | 1 => 240
    | 2 => 40
    | 3 => 4
    | 4 => 240
    | 5 => 400
    | 6 => 400
    | 7 => 1200
    | 8 => 3
    | 9 => 6
    | 10 => 6
    | 11 => 62
    | _ => 7
def rf (k i : Nat) : Nat :=
  if k < 8 then (match k with
    | 0 => (match i with
      | 0 => 1
      | 1 => 2
      | 2 => 28
      | 3 => 3
      | 4 => 40
      | 5 => 4
      | 6 => 5
      | _ => 6)
    | 1 => 8 + i
    | 2 => 14 + i
    | 3 => 52 + 12 * i
    | _ => if i < 10 then 88 + i else 84 + i)
  else if k < 18 then k + 10
  else if (k - 28) % 12 = 0 then k + (i - 8) else k + (i + 1)
def cN (c : Nat) : Nat := match c with
  | 0 => 6
  | 1 => 15
  | 2 => 1
  | 3 => 2
  | 4 => 12
  | _ => 22
def cC (c : Nat) : String := match c with
  | 0 => RX0
  | 1 => RX1
  | 2 => RX2
  | 3 => RX3
  | 4 => RX4
  | _ => RX5
def cT (c : Nat) : u_T := match c with
  | 0 => TX0
  | 1 => TX1
  | 2 => TX2
  | 3 => TX3
  | 4 => TX4
  | _ => TX5
def cTy (c : Nat) : Nat → FieldType := match c with
  | 0 => tyX0
  | 1 => tyX1
  | 2 => tyX2
  | 3 => tyX3
  | 4 => tyX4
  | _ => tyX5
/-- of what sort a field is: 0 int, 1 long, 2 reference -/
def fk (c i : Nat) : Nat := match c with
  | 0 => if i < 5 then 2 else 0
  | 1 => if i < 9 then 0 else 2
  | 2 => 0
  | 3 => if i = 0 then 2 else 0
  | 4 => if i < 8 then 2 else if i < 10 then 0 else 1
  | _ => if i < 10 then 2 else if i < 12 then 0 else if i < 14 then 1 else if i < 20 then 2 else 0
def vlu (G : Gl) (S : Sg) (k i : Nat) : Value := if fk (kd k) i = 0 then .int (S.1 k i) else if fk (kd k) i = 1 then .long (S.2 k i) else .ref (gA G (rf k i))
def ent (G : Gl) (S : Sg) (k : Nat) : va_E :=
  if kd k < 6 then .inr (kd k, (List.range (cN (kd k))).map (vlu G S k))
  else .inl (gC G (kd k - 10), (ln k, if kd k < 12 then .inl (S.1 k) else .inr (.inr (.inr (.inr (fun i => some (gA G (rf k i))))))))
def wld (G : Gl) (S : Sg) : va_W := (List.range 104).map (fun k => (gA G k, ent G S k))
def tyL (G : Gl) : List (ClassId × FieldType) := [(gC G 0, .int), (gC G 1, .boolean), (gC G 2, .object "ShyStrip$Row"), (gC G 3, .object "ShyStrip$Land")]
def Aw (G : Gl) : Nat → Prop := fun q => ∃ k, k < 104 ∧ q = gA G k
def letF (k : Nat) : Value := .int (match k with
  | 0 => 112
  | 1 => 111
  | 2 => 108
  | 3 => 104
  | 4 => 116
  | _ => 102)
def u2 {α : Type} (f : Nat → Nat → α) (k i : Nat) (v : α) : Nat → Nat → α := fun a b => if a = k ∧ b = i then v else f a b
theorem u2_o {α : Type} (f : Nat → Nat → α) {k i : Nat} {v : α} {a : Nat} (h : a ≠ k) : u2 f k i v a = f a := by
  funext b
  simp [u2, h]
theorem u2_s {α : Type} (f : Nat → Nat → α) {k i : Nat} {v : α} : u2 f k i v k i = v := by simp [u2]
theorem u2_n {α : Type} (f : Nat → Nat → α) {k i : Nat} {v : α} {b : Nat} (h : b ≠ i) : u2 f k i v k b = f k b := by simp [u2, h]
theorem kd_lt {k : Nat} (h : kd k < 14) : k < 104 := by
  apply Classical.byContradiction
  intro hk
  have : kd k = 99 := by
    unfold kd
    rw [if_neg (by omega), if_neg (by omega), if_neg (by omega), if_neg (by omega), if_neg (by omega), if_neg (by omega)]
  omega
def gtb : List Cond := lw_tbl.filter goodWord
theorem inl0 : ∀ w ∈ u_ws RX0 TX0 6, w ∈ gtb := by decide +kernel
theorem inl1 : ∀ w ∈ u_ws RX1 TX1 15, w ∈ gtb := by decide +kernel
theorem inl2 : ∀ w ∈ u_ws RX2 TX2 1, w ∈ gtb := by decide +kernel
theorem inl3 : ∀ w ∈ u_ws RX3 TX3 2, w ∈ gtb := by decide +kernel
theorem inl4 : ∀ w ∈ u_ws RX4 TX4 12, w ∈ gtb := by decide +kernel
theorem inl5 : ∀ w ∈ u_ws RX5 TX5 22, w ∈ gtb := by decide +kernel
def ClsOk (c : Nat) : Prop := vwCl[c]? = some (cC c, cT c, cN c) ∧ (∀ w ∈ u_ws (cC c) (cT c) (cN c), w ∈ gtb) ∧ (∀ k, k < cN c → parseFieldDescriptor (cT c k).2.2.1 = some (cTy c k)) ∧ (∀ a, a < cN c → ∀ b, b < cN c → a ≠ b → (cT c a).2.1 ≠ (cT c b).2.1)
theorem cls_ok {c : Nat} (h : c < 6) : ClsOk c := by
  rcases (show c = 0 ∨ c = 1 ∨ c = 2 ∨ c = 3 ∨ c = 4 ∨ c = 5 by omega) with rfl | rfl | rfl | rfl | rfl | rfl
  · exact ⟨rfl, inl0, tyX0_ok, nmX0⟩
  · exact ⟨rfl, inl1, tyX1_ok, nmX1⟩
  · exact ⟨rfl, inl2, tyX2_ok, nmX2⟩
  · exact ⟨rfl, inl3, tyX3_ok, nmX3⟩
  · exact ⟨rfl, inl4, tyX4_ok, nmX4⟩
  · exact ⟨rfl, inl5, tyX5_ok, nmX5⟩
theorem tbl_in : GoodIn gtb gtb := fun _ hw => ⟨hw, good_of_word (List.mem_filter.mp hw).2⟩
theorem map_range_set {α : Type} (f g : Nat → α) (n i : Nat) (x : α) (hi : i < n) (h1 : g i = x) (h2 : ∀ a, a ≠ i → g a = f a) : (List.range n).map g = ((List.range n).map f).set i x := by
  apply List.ext_getElem?
  intro a
  by_cases ha : a = i
  · subst ha
    rw [List.getElem?_set_self (by simpa using hi)]
    simp [hi, h1]
  · rw [List.getElem?_set_ne (Ne.symm ha)]
    by_cases hl : a < n
    · simp [hl, h2 a ha]
    · rw [List.getElem?_eq_none (by simp; omega), List.getElem?_eq_none (by simp; omega)]
theorem wld_at (G : Gl) (S : Sg) {k : Nat} (hk : k < 104) : (wld G S)[k]? = some (gA G k, ent G S k) := by
  simp [wld, hk]
theorem wld_upd (G : Gl) {S S' : Sg} {k : Nat} {e : va_E} (hk : k < 104) (he : ent G S' k = e) (ho : ∀ j, j ≠ k → ent G S' j = ent G S j) : wld G S' = (wld G S).set k (gA G k, e) :=
  map_range_set _ _ 104 k _ hk (by rw [he]) (fun a ha => by rw [ho a ha])
theorem ent_congr (G : Gl) {S S' : Sg} {j : Nat} (h1 : S'.1 j = S.1 j) (h2 : S'.2 j = S.2 j) : ent G S' j = ent G S j := by
  have hv : vlu G S' j = vlu G S j := by
    funext i
    unfold vlu
    rw [h1, h2]
  unfold ent
  rw [hv, h1]
theorem ent_obj (G : Gl) (S : Sg) {k c : Nat} (h : kd k = c) (hc : c < 6) : ent G S k = .inr (c, (List.range (cN c)).map (vlu G S k)) := by
  unfold ent
  rw [h, if_pos hc]
theorem ent_arr (G : Gl) (S : Sg) {k c : Nat} (h : kd k = c) (h1 : 10 ≤ c) (hc : c < 12) : ent G S k = .inl (gC G (c - 10), (ln k, .inl (S.1 k))) := by
  unfold ent
  rw [h, if_neg (by omega), if_pos hc]
theorem ent_rarr (G : Gl) (S : Sg) {k c : Nat} (h : kd k = c) (h1 : 12 ≤ c) : ent G S k = .inl (gC G (c - 10), (ln k, .inr (.inr (.inr (.inr (fun i => some (gA G (rf k i)))))))) := by
  unfold ent
  rw [h, if_neg (by omega), if_neg (by omega)]
theorem wld_putI (G : Gl) (S : Sg) {k c i : Nat} {v : Int32} (h : kd k = c) (hc : c < 6) (hi : i < cN c) (hf : fk c i = 0) : wld G (u2 S.1 k i v, S.2) = (wld G S).set k (gA G k, .inr (c, ((List.range (cN c)).map (vlu G S k)).set i (.int v))) := by
  refine wld_upd G (kd_lt (by omega)) ?_ (fun j hj => ent_congr G (u2_o _ hj) rfl)
  rw [ent_obj G _ h hc]
  congr 2
  refine map_range_set _ _ _ i _ hi ?_ (fun a ha => ?_)
  · unfold vlu
    rw [h, if_pos hf]
    show Value.int (u2 S.1 k i v k i) = _
    rw [u2_s]
  · unfold vlu
    show (if fk (kd k) a = 0 then Value.int (u2 S.1 k i v k a) else _) = _
    rw [u2_n _ ha]
theorem wld_putL (G : Gl) (S : Sg) {k c i : Nat} {v : Int64} (h : kd k = c) (hc : c < 6) (hi : i < cN c) (hf : fk c i = 1) : wld G (S.1, u2 S.2 k i v) = (wld G S).set k (gA G k, .inr (c, ((List.range (cN c)).map (vlu G S k)).set i (.long v))) := by
  refine wld_upd G (kd_lt (by omega)) ?_ (fun j hj => ent_congr G rfl (u2_o _ hj))
  rw [ent_obj G _ h hc]
  congr 2
  refine map_range_set _ _ _ i _ hi ?_ (fun a ha => ?_)
  · unfold vlu
    rw [h, if_neg (by omega), if_pos hf]
    show Value.long (u2 S.2 k i v k i) = _
    rw [u2_s]
  · unfold vlu
    show (if fk (kd k) a = 0 then Value.int (S.1 k a) else if fk (kd k) a = 1 then Value.long (u2 S.2 k i v k a) else _) = _
    rw [u2_n _ ha]
theorem wld_ast (G : Gl) (S : Sg) {k c i : Nat} {v : Int32} (h : kd k = c) (h1 : 10 ≤ c) (hc : c < 12) : wld G (u2 S.1 k i v, S.2) = (wld G S).set k (gA G k, .inl (gC G (c - 10), (ln k, .inl (upd (S.1 k) i v)))) := by
  refine wld_upd G (kd_lt (by omega)) ?_ (fun j hj => ent_congr G (u2_o _ hj) rfl)
  rw [ent_arr G _ h h1 hc]
  have : (u2 S.1 k i v, S.2).1 k = upd (S.1 k) i v := by
    funext b
    simp [u2, upd]
  rw [this]
/-- a whole row of ints anew -/
def u1 (f : Nat → Nat → Int32) (k : Nat) (g : Nat → Int32) : Nat → Nat → Int32 := fun a => if a = k then g else f a
theorem wld_row (G : Gl) (S : Sg) {k c : Nat} {g : Nat → Int32} (h : kd k = c) (h1 : 10 ≤ c) (hc : c < 12) : wld G (u1 S.1 k g, S.2) = (wld G S).set k (gA G k, .inl (gC G (c - 10), (ln k, .inl g))) := by
  refine wld_upd G (kd_lt (by omega)) ?_ (fun j hj => ent_congr G (by simp [u1, hj]) rfl)
  rw [ent_arr G _ h h1 hc]
  have : (u1 S.1 k g, S.2).1 k = g := by simp [u1]
  rw [this]
theorem wld_D (G : Gl) (S : Sg) {A : Nat → Prop} (hinj : ∀ i j, i < 104 → j < 104 → gA G i = gA G j → i = j) (hA : ∀ q, Aw G q → A q) : va_D A (wld G S) := by
  have key : ∀ (k : Nat) (q : Nat × va_E), (wld G S)[k]? = some q → k < 104 ∧ q.1 = gA G k := by
    intro k q hq
    have hk : k < 104 := by
      have := (List.getElem?_eq_some_iff.mp hq).1
      simpa [wld] using this
    rw [wld_at G S hk] at hq
    cases hq
    exact ⟨hk, rfl⟩
  refine ⟨fun i j p q hi hj hpq => ?_, fun k q hq => ?_⟩
  · obtain ⟨a1, a2⟩ := key i p hi
    obtain ⟨b1, b2⟩ := key j q hj
    exact hinj i j a1 b1 (by rw [← a2, ← b2]; exact hpq)
  · obtain ⟨a1, a2⟩ := key k q hq
    exact hA _ ⟨k, a1, a2⟩
end
section
/-! Ev: a method's frame at a place of its code, locals and stack by places of the world, comes to its end with Q -/
abbrev Mt : Type := MethodName × ByteArray × Nat × Option FieldType
def cv (G : Gl) (v : Value) : Value := match v with
  | .ref k => .ref (gA G k)
  | w => w
def lcs (G : Gl) : Nat → List (Option Value) → List (Nat × Value)
  | _, [] => []
  | i, none :: t => lcs G (i + 1) t
  | i, some v :: t => (i, cv G v) :: lcs G (i + 1) t
theorem lcs_mem (G : Gl) : ∀ (ls : List (Option Value)) (a i : Nat) (w : Value), (i, w) ∈ lcs G a ls ↔ ∃ j v, ls[j]? = some (some v) ∧ i = a + j ∧ w = cv G v
  | [], a, i, w => by simp [lcs]
  | none :: t, a, i, w => by
    unfold lcs
    rw [lcs_mem G t (a + 1) i w]
    constructor
    · rintro ⟨j, v, h1, h2, h3⟩
      exact ⟨j + 1, v, by simpa using h1, by omega, h3⟩
    · rintro ⟨j, v, h1, h2, h3⟩
      cases j with
      | zero => simp at h1
      | succ j => exact ⟨j, v, by simpa using h1, by omega, h3⟩
  | some v0 :: t, a, i, w => by
    unfold lcs
    rw [List.mem_cons, lcs_mem G t (a + 1) i w]
    constructor
    · rintro (h | ⟨j, v, h1, h2, h3⟩)
      · cases h
        exact ⟨0, v0, by simp, by omega, rfl⟩
      · exact ⟨j + 1, v, by simpa using h1, by omega, h3⟩
    · rintro ⟨j, v, h1, h2, h3⟩
      cases j with
      | zero =>
        simp at h1
        subst h1
        exact Or.inl (by rw [h2, h3]; rfl)
      | succ j => exact Or.inr ⟨j, v, by simpa using h1, by omega, h3⟩
theorem lv_less {la : Array Slot} {n : Nat} {l l' : List (Nat × Value)} (h : lv_has la n l) (hs : ∀ q ∈ l', q ∈ l) : lv_has la n l' := ⟨h.1, h.2.1, fun q hq => h.2.2 q (hs q hq)⟩
theorem lc_at {G : Gl} {la : Array Slot} {n i : Nat} {ls : List (Option Value)} {v : Value} (h : lv_has la n (lcs G 0 ls)) (hi : ls[i]? = some (some v)) : la[i]? = some (.val (cv G v)) :=
  h.2.2 (i, cv G v) ((lcs_mem G ls 0 i _).mpr ⟨i, v, hi, by omega, rfl⟩)
theorem cv_cat (G : Gl) (v : Value) : (cv G v).category = v.category := by cases v <;> rfl
/-- no long stands right ahead of a local -/
def okS (ls : List (Option Value)) (i : Nat) : Bool := match i with
  | 0 => true
  | i + 1 => match ls[i]? with
    | some (some v) => v.category != 2
    | _ => true
theorem lc_set {G : Gl} {ls : List (Option Value)} {i : Nat} {v : Value} (hok : okS ls i = true) : ∀ q ∈ lcs G 0 (ls.set i (some v)), q ∈ (i, cv G v) :: (lcs G 0 ls).filter (fun q => !(q.1 == i) && !(q.1 + 1 == i && q.2.category == 2)) := by
  rintro ⟨j, w⟩ hq
  obtain ⟨j', u, h1, h2, h3⟩ := (lcs_mem G _ 0 j w).mp hq
  obtain rfl : j = j' := by omega
  by_cases hj : j = i
  · subst hj
    rw [List.getElem?_set] at h1
    split at h1
    · split at h1
      · cases h1
        rw [h3]
        exact List.mem_cons_self
      · cases h1
    · rename_i hne
      exact absurd rfl hne
  · rw [List.getElem?_set_ne (Ne.symm hj)] at h1
    refine List.mem_cons_of_mem _ (List.mem_filter.mpr ⟨(lcs_mem G ls 0 j w).mpr ⟨j, u, h1, by omega, h3⟩, ?_⟩)
    simp only [Bool.and_eq_true, Bool.not_eq_true', beq_eq_false_iff_ne, ne_eq, Bool.and_eq_false_iff]
    refine ⟨hj, ?_⟩
    by_cases h4 : j + 1 = i
    · right
      subst h4
      simp only [okS, h1, bne_iff_ne, ne_eq] at hok
      rw [h3, cv_cat]
      exact hok
    · exact Or.inl h4
theorem lc_set2 {G : Gl} {ls : List (Option Value)} {i : Nat} {v : Value} (hok : okS ls i = true) : ∀ q ∈ lcs G 0 ((ls.set i (some v)).set (i + 1) none), q ∈ (i, cv G v) :: (lcs G 0 ls).filter (fun q => !(q.1 == i) && (!(q.1 == i + 1) && !(q.1 + 1 == i && q.2.category == 2))) := by
  rintro ⟨j, w⟩ hq
  obtain ⟨j', u, h1, h2, h3⟩ := (lcs_mem G _ 0 j w).mp hq
  obtain rfl : j = j' := by omega
  have hj1 : j ≠ i + 1 := by
    intro h
    subst h
    rw [List.getElem?_set] at h1
    split at h1
    · split at h1
      · cases h1
      · cases h1
    · rename_i hne
      exact absurd rfl hne
  rw [List.getElem?_set_ne (Ne.symm hj1)] at h1
  by_cases hj : j = i
  · subst hj
    rw [List.getElem?_set] at h1
    split at h1
    · split at h1
      · cases h1
        rw [h3]
        exact List.mem_cons_self
      · cases h1
    · rename_i hne
      exact absurd rfl hne
  · rw [List.getElem?_set_ne (Ne.symm hj)] at h1
    refine List.mem_cons_of_mem _ (List.mem_filter.mpr ⟨(lcs_mem G ls 0 j w).mpr ⟨j, u, h1, by omega, h3⟩, ?_⟩)
    simp only [Bool.and_eq_true, Bool.not_eq_true', beq_eq_false_iff_ne, ne_eq, Bool.and_eq_false_iff]
    refine ⟨hj, hj1, ?_⟩
    by_cases h4 : j + 1 = i
    · right
      subst h4
      simp only [okS, h1, bne_iff_ne, ne_eq] at hok
      rw [h3, cv_cat]
      exact hok
    · exact Or.inl h4
def Kn (A : Nat → Prop) (G : Gl) (U : State) (H : Heap) : Prop := va_K (gD G) vwCl (tyL G) U ∧ va_Z "ShyStrip" "LETTERS" "[I" (.ref (gA G 200)) A U H ∧ va_T .int (gA G 200) 6 letF A U H
theorem Kn.moved {A : Nat → Prop} {G : Gl} {u U : State} {H : Heap} (hvm : u.vm.Alike U.vm) (h : Kn A G u H) : Kn A G U H := ⟨va_K.moved hvm h.1, va_Z.moved hvm h.2.1, va_T.moved hvm h.2.2⟩
theorem Kn.kept {A : Nat → Prop} {G : Gl} {U : State} {H H1 : Heap} (h : Kn A G U H) (hq : ∀ a : Nat, a < H.size → ¬ A a → H1[a]? = H[a]?) : Kn A G U H1 := ⟨h.1, h.2.1.kept hq, h.2.2.kept hq⟩
theorem Kn.narrow {A B : Nat → Prop} {G : Gl} {U : State} {H : Heap} (h : Kn A G U H) (hAB : ∀ q, B q → A q) : Kn B G U H := ⟨h.1, h.2.1.narrow hAB, h.2.2.narrow hAB⟩
def Wd (G : Gl) (S : Sg) (H : Heap) : Prop := va_P (gD G) vwCl (wld G S) H
/-- what stays the same all along a method's run -/
def Cx (G : Gl) (μ : Mt) (d : Nat) (A : Nat → Prop) (p : Program) (R : Room) (s : State) (m : MethodId) (args : Array Value) (c : Code) (cells slots : Nat) : Prop :=
  p.tables.exec = Jvm.exec ∧ c.code = μ.2.1 ∧ c.maxLocals = μ.2.2.1 ∧ s.vm.findClass μ.1.cls = some m.cls ∧ (∀ w ∈ gtb, w.before args s = true) ∧
  (d + 1 ≤ R.frames ∧ 100 * (d + 1) ≤ R.locals ∧ cells ≤ R.cells ∧ slots ≤ R.slots) ∧ (∀ q, Aw G q → A q) ∧ (∀ i j, i < 104 → j < 104 → gA G i = gA G j → i = j) ∧ Kn A G s s.heap ∧
  (μ.1.name = "law" → va_X (gA G 201) (gL G) (gX G) s s.heap ∧ gA G 201 < s.heap.size ∧ ¬ A (gA G 201))
/-- the code's return at a place, of a value -/
def RetAt (μ : Mt) (pc : Nat) (v : Option Value) : Prop := match v with
  | none => decode μ.2.1 pc = .ok (.return_, 1) ∧ μ.2.2.2 = none
  | some (.int x) => decode μ.2.1 pc = .ok (.ireturn, 1) ∧ ∃ ty, μ.2.2.2 = some ty ∧ narrow ty (.int x) = .int x
  | some (.long _) => decode μ.2.1 pc = .ok (.lreturn, 1) ∧ μ.2.2.2 = some .long
  | _ => False
def vL (v : Option Value) : List Value := match v with
  | none => []
  | some w => [w]
def Ev (G : Gl) (l : Launch) (μ : Mt) (d pc : Nat) (ls : List (Option Value)) (st : List Value) (S : Sg) (Q : Option Value → Sg → Prop) : Prop :=
  ∀ {A : Nat → Prop} {p : Program} {e : Env} {R : Room} {s : State} {m : MethodId} {args : Array Value} {below : List Frame} {meth : Method} {c : Code} {H : Heap} {locs : List Loc} {cells slots : Nat} {Z : State → Prop} {la : Array Slot},
    Cx G μ d A p R s m args c cells slots → Wd G S H → va_S A s.heap H locs → lv_has la μ.2.2.1 (lcs G 0 ls) →
    (∀ (v : Option Value) (S' : Sg) (H' : Heap) (locs' : List Loc) (pc' : Nat) (la' : Array Slot), Q v S' → Wd G S' H' → va_S A s.heap H' locs' → RetAt μ pc' v → W p l e R s m args below meth c H' locs' cells slots Z (F0 m pc' la' (vL v))) →
    W p l e R s m args below meth c H locs cells slots Z (F0 m pc la (st.map (cv G)))
/-- the locals at the entry -/
def ini : Nat → List Value → List (Option Value)
  | n, [] => List.replicate n none
  | n, v :: t => if v.category = 2 then some v :: none :: ini (n - 2) t else some v :: ini (n - 1) t
theorem ini_sub (G : Gl) : ∀ (as : List Value) (n a : Nat), ∀ q ∈ lcs G a (ini n as), q ∈ lv_args a (as.map (cv G))
  | [], n, a => by
    intro q hq
    obtain ⟨i, w⟩ := q
    obtain ⟨j, v, h1, -⟩ := (lcs_mem G _ a i w).mp hq
    unfold ini at h1
    rw [List.getElem?_replicate] at h1
    split at h1 <;> cases h1
  | v :: t, n, a => by
    intro q hq
    unfold ini at hq
    split at hq
    · rename_i hc
      unfold lcs at hq
      simp only [List.map_cons, lv_args, cv_cat, if_pos hc]
      rcases List.mem_cons.mp hq with h | h
      · rw [h]
        exact List.mem_cons_self
      · unfold lcs at h
        exact List.mem_cons_of_mem _ (ini_sub G t _ _ q h)
    · rename_i hc
      unfold lcs at hq
      simp only [List.map_cons, lv_args, cv_cat, if_neg hc]
      rcases List.mem_cons.mp hq with h | h
      · rw [h]
        exact List.mem_cons_self
      · exact List.mem_cons_of_mem _ (ini_sub G t _ _ q h)
/-- a method's contract: from its entry -/
def Ct (G : Gl) (l : Launch) (μ : Mt) (d : Nat) (as : List Value) (S : Sg) (Q : Option Value → Sg → Prop) : Prop := Ev G l μ d 0 (ini μ.2.2.1 as) [] S Q
def rmD (d : Nat) : Room := { frames := d + 1, cells := 0, slots := 0, locals := 100 * (d + 1) }
def PcD (G : Gl) (as : List Value) (S : Sg) : Array Value → State → Prop := va_Pc (as.map (cv G)) (fun U => Wd G S U.heap ∧ (∀ i j, i < 104 → j < 104 → gA G i = gA G j → i = j) ∧ Kn (Aw G) G U U.heap)
def QcD (G : Gl) (Q : Option Value → Sg → Prop) : Array Value → State → Outcome → State → Prop := fun _ st oc t => (∃ (v : Option Value) (S' : Sg), oc = .returned v ∧ Q v S' ∧ Wd G S' t.heap ∧ (vL v).map (cv G) = vL v) ∧ va_F (Aw G) st t
theorem pcD_blind (G : Gl) (as : List Value) (S : Sg) : FrameBlind (PcD G as S) := by
  intro a U g mk h
  obtain ⟨h1, h2, h3, h4⟩ := h
  exact ⟨h1, h2, h3, Kn.moved (u := U) (U := U.calling g mk a) (Vm.Alike.refl U.vm) h4⟩
/-- the lengths of a call's values fit the callee's locals -/
def MtOk (μ : Mt) (n : Nat) : Prop := plainName μ.1.cls = true ∧ μ.1.name ≠ "law" ∧ n ≤ μ.2.2.1
theorem ct_met {G : Gl} {l : Launch} {μ : Mt} {d : Nat} {as : List Value} {S : Sg} {Q : Option Value → Sg → Prop} (hok : MtOk μ (lg_sl as).length) (h : Ct G l μ d as S Q) :
    Met l μ.1 (Cond.code μ.1 μ.2.1 μ.2.2.1 μ.2.2.2 :: gtb) (rmD d) (PcD G as S) (QcD G Q) 0 0 (Aw G) := by
  refine Met.ofW (cc := μ.2.1) (maxL := μ.2.2.1) (ret := μ.2.2.2) hok.1 rfl ?_
  intro p e s m args below meth c s₁ B hml hv
  obtain ⟨rfl, hW, hinj, hK⟩ := hv
  have hx := B.exec
  have hb := B.bytes
  have hr := B.returns
  have hts0 := atoms_spec (ws := Cond.code μ.1 μ.2.1 μ.2.2.1 μ.2.2.2 :: gtb) B.pre
  have hts : ∀ w ∈ gtb, w.before ((as.map (cv G)).toArray) s = true := fun w hw => hts0 w (List.mem_cons_of_mem _ hw)
  have hown : s.vm.findClass μ.1.cls = some m.cls := findClass_of_methodNamed B.named
  have hlocks := B.notSynchronized
  have hlen : (lg_sl (as.map (cv G))).length = (lg_sl as).length := by
    clear hW hok h hts0 hts B
    induction as with
    | nil => rfl
    | cons v t ih =>
      simp only [lg_sl, List.map_cons, List.flatMap_cons, List.length_append, cv_cat] at ih ⊢
      rw [ih]
      split <;> rfl
  have hl := lv_entry (as.map (cv G)) (n := μ.2.2.1) (by rw [hlen]; exact hok.2.2)
  rw [lg_entry_eq]
  generalize (lg_sl (as.map (cv G)) ++ List.replicate (μ.2.2.1 - (lg_sl (as.map (cv G))).length) Slot.unset).toArray = la at hl ⊢
  have hl2 : lv_has la μ.2.2.1 (lcs G 0 (ini μ.2.2.1 as)) := lv_less hl (ini_sub G as _ 0)
  refine h (A := Aw G) ⟨hx, hb, hml, hown, hts, ⟨Nat.le_refl _, Nat.le_refl _, Nat.le_refl _, Nat.le_refl _⟩, fun _ h => h, hinj, hK, fun q => absurd q hok.2.1⟩ hW va_S.rf hl2 ?_
  intro v S' H' locs' pc' la' hQ hW' hS' hR
  have hq : ∀ t : State, t.heap = H' → s.WarmedH t.vm → QcD G Q ((as.map (cv G)).toArray) s (.returned v) t := by
    intro t ht hvm
    have hvv : (vL v).map (cv G) = vL v := by
      cases v with
      | none => rfl
      | some w =>
        cases w with
        | ref a => exact False.elim hR
        | _ => rfl
    exact ⟨⟨v, S', rfl, hQ, by rw [ht]; exact hW', hvv⟩, by rw [ht]; exact hS'.1, fun q h1 h2 => by rw [ht]; exact hS'.2.1 q h1 h2⟩
  cases v with
  | none => exact W.vret hx hb (by rw [hr]; exact hR.2) hq hS'.2.2 hR.1 hlocks
  | some v =>
    cases v with
    | int x =>
      obtain ⟨h1, ty, h2, h3⟩ := hR
      exact W.zret hx hb (ty := ty) (by rw [hr]; exact h2) h3 hq hS'.2.2 h1 hlocks
    | long x => exact W.lret hx hb (by rw [hr]; exact hR.2) hq hS'.2.2 hR.1 hlocks
    | _ => exact False.elim hR
end
section
/-! the rules: an instruction each -/
section rules
variable {G : Gl} {l : Launch} {μ : Mt} {d pc : Nat} {ls : List (Option Value)} {st : List Value} {S : Sg} {Q : Option Value → Sg → Prop}
/-- an index that is a number below a length -/
def ix (i : Int32) (n len : Nat) : Prop := ¬ i < 0 ∧ i.toNatClampNeg = n ∧ n < len
theorem ix_in {i : Int32} {n len : Nat} (h : ix i n len) : vp_in i len := fun q => q.elim h.1 (fun z => absurd h.2.2 (by rw [← h.2.1]; exact Nat.not_lt.mpr z))
theorem ix_nI {n len : Nat} (h : n < len) (hb : len ≤ 2147483648) : ix (nI n) n len := ⟨nI_pos (by omega), nI_clamp (by omega), h⟩
theorem ix_i {i : Int32} {n len : Nat} (e : i = nI n) (h : n < len) (hb : len ≤ 2147483648) : ix i n len := e ▸ ix_nI h hb

theorem r_iconst {n : Int} {v : Int32} (hd : decode μ.2.1 pc = .ok (.iconst n, 1)) (hv : Int32.ofInt n = v) (h : Ev G l μ d (pc + 1) ls (.int v :: st) S Q) : Ev G l μ d pc ls (st) S Q := by
  intro A p e R s m args below meth c H locs cells slots Z la C hW hS hl hend
  exact lv_iconst C.1 C.2.1 hd hv (h C hW hS hl hend)
theorem r_bipush {n : Int} {v : Int32} (hd : decode μ.2.1 pc = .ok (.bipush n, 2)) (hv : (Int8.ofInt n).toInt32 = v) (h : Ev G l μ d (pc + 2) ls (.int v :: st) S Q) : Ev G l μ d pc ls (st) S Q := by
  intro A p e R s m args below meth c H locs cells slots Z la C hW hS hl hend
  exact lv_bipush C.1 C.2.1 hd hv (h C hW hS hl hend)
theorem r_sipush {n : Int} {v : Int32} (hd : decode μ.2.1 pc = .ok (.sipush n, 3)) (hv : (Int16.ofInt n).toInt32 = v) (h : Ev G l μ d (pc + 3) ls (.int v :: st) S Q) : Ev G l μ d pc ls (st) S Q := by
  intro A p e R s m args below meth c H locs cells slots Z la C hW hS hl hend
  exact lv_sipush C.1 C.2.1 hd hv (h C hW hS hl hend)
theorem r_lconst {n : Fin 2} {v : Int64} (hd : decode μ.2.1 pc = .ok (.lconst n, 1)) (hv : Int64.ofNat (n : Nat) = v) (h : Ev G l μ d (pc + 1) ls (.long v :: st) S Q) : Ev G l μ d pc ls (st) S Q := by
  intro A p e R s m args below meth c H locs cells slots Z la C hW hS hl hend
  exact lv_lconst C.1 C.2.1 hd hv (h C hW hS hl hend)
theorem r_iload_n {k : Fin 4} {i : Nat} {x : Int32} (hd : decode μ.2.1 pc = .ok (.iload_n k, 1)) (hi : (k : Nat) = i) (hl0 : ls[i]? = some (some (.int x))) (h : Ev G l μ d (pc + 1) ls (.int x :: st) S Q) : Ev G l μ d pc ls (st) S Q := by
  intro A p e R s m args below meth c H locs cells slots Z la C hW hS hl hend
  exact lv_iload_n C.1 C.2.1 hd hi (lc_at hl hl0) (h C hW hS hl hend)
theorem r_iload {i : Nat} {x : Int32} (hd : decode μ.2.1 pc = .ok (.iload i, 2)) (hl0 : ls[i]? = some (some (.int x))) (h : Ev G l μ d (pc + 2) ls (.int x :: st) S Q) : Ev G l μ d pc ls (st) S Q := by
  intro A p e R s m args below meth c H locs cells slots Z la C hW hS hl hend
  exact lv_iload C.1 C.2.1 hd (lc_at hl hl0) (h C hW hS hl hend)
theorem r_lload_n {k : Fin 4} {i : Nat} {x : Int64} (hd : decode μ.2.1 pc = .ok (.lload_n k, 1)) (hi : (k : Nat) = i) (hl0 : ls[i]? = some (some (.long x))) (h : Ev G l μ d (pc + 1) ls (.long x :: st) S Q) : Ev G l μ d pc ls (st) S Q := by
  intro A p e R s m args below meth c H locs cells slots Z la C hW hS hl hend
  exact lv_lload_n C.1 C.2.1 hd hi (lc_at hl hl0) (h C hW hS hl hend)
theorem r_lload {i : Nat} {x : Int64} (hd : decode μ.2.1 pc = .ok (.lload i, 2)) (hl0 : ls[i]? = some (some (.long x))) (h : Ev G l μ d (pc + 2) ls (.long x :: st) S Q) : Ev G l μ d pc ls (st) S Q := by
  intro A p e R s m args below meth c H locs cells slots Z la C hW hS hl hend
  exact lv_lload C.1 C.2.1 hd (lc_at hl hl0) (h C hW hS hl hend)
theorem r_aload_n {k : Fin 4} {i x : Nat} (hd : decode μ.2.1 pc = .ok (.aload_n k, 1)) (hi : (k : Nat) = i) (hl0 : ls[i]? = some (some (.ref x))) (h : Ev G l μ d (pc + 1) ls (.ref x :: st) S Q) : Ev G l μ d pc ls (st) S Q := by
  intro A p e R s m args below meth c H locs cells slots Z la C hW hS hl hend
  exact lv_aload_n C.1 C.2.1 hd hi (lc_at hl hl0) (h C hW hS hl hend)
theorem r_aload {i x : Nat} (hd : decode μ.2.1 pc = .ok (.aload i, 2)) (hl0 : ls[i]? = some (some (.ref x))) (h : Ev G l μ d (pc + 2) ls (.ref x :: st) S Q) : Ev G l μ d pc ls (st) S Q := by
  intro A p e R s m args below meth c H locs cells slots Z la C hW hS hl hend
  exact lv_aload C.1 C.2.1 hd (lc_at hl hl0) (h C hW hS hl hend)
theorem r_istore_n {k : Fin 4} {i : Nat} {x : Int32} {ls' : List (Option Value)} (hd : decode μ.2.1 pc = .ok (.istore_n k, 1)) (hi : (k : Nat) = i) (hn : i < μ.2.2.1) (hok : okS ls i = true) (hls : (ls.set i (some (.int x))) = ls') (h : Ev G l μ d (pc + 1) ls' st S Q) : Ev G l μ d pc ls (.int x :: st) S Q := by
  intro A p e R s m args below meth c H locs cells slots Z la C hW hS hl hend
  subst hls
  exact lv_istore_n C.1 C.2.1 hd hi hl hn rfl (fun ls2 hl2 => h C hW hS (lv_less hl2 (lc_set hok)) hend)
theorem r_istore {i : Nat} {x : Int32} {ls' : List (Option Value)} (hd : decode μ.2.1 pc = .ok (.istore i, 2))  (hn : i < μ.2.2.1) (hok : okS ls i = true) (hls : (ls.set i (some (.int x))) = ls') (h : Ev G l μ d (pc + 2) ls' st S Q) : Ev G l μ d pc ls (.int x :: st) S Q := by
  intro A p e R s m args below meth c H locs cells slots Z la C hW hS hl hend
  subst hls
  exact lv_istore C.1 C.2.1 hd hl hn rfl (fun ls2 hl2 => h C hW hS (lv_less hl2 (lc_set hok)) hend)
theorem r_lstore_n {k : Fin 4} {i : Nat} {x : Int64} {ls' : List (Option Value)} (hd : decode μ.2.1 pc = .ok (.lstore_n k, 1)) (hi : (k : Nat) = i) (hn : i + 1 < μ.2.2.1) (hok : okS ls i = true) (hls : ((ls.set i (some (.long x))).set (i + 1) none) = ls') (h : Ev G l μ d (pc + 1) ls' st S Q) : Ev G l μ d pc ls (.long x :: st) S Q := by
  intro A p e R s m args below meth c H locs cells slots Z la C hW hS hl hend
  subst hls
  exact lv_lstore_n C.1 C.2.1 hd hi hl hn rfl (fun ls2 hl2 => h C hW hS (lv_less hl2 (lc_set2 hok)) hend)
theorem r_lstore {i : Nat} {x : Int64} {ls' : List (Option Value)} (hd : decode μ.2.1 pc = .ok (.lstore i, 2))  (hn : i + 1 < μ.2.2.1) (hok : okS ls i = true) (hls : ((ls.set i (some (.long x))).set (i + 1) none) = ls') (h : Ev G l μ d (pc + 2) ls' st S Q) : Ev G l μ d pc ls (.long x :: st) S Q := by
  intro A p e R s m args below meth c H locs cells slots Z la C hW hS hl hend
  subst hls
  exact lv_lstore C.1 C.2.1 hd hl hn rfl (fun ls2 hl2 => h C hW hS (lv_less hl2 (lc_set2 hok)) hend)
theorem r_astore_n {k : Fin 4} {i x : Nat} {ls' : List (Option Value)} (hd : decode μ.2.1 pc = .ok (.astore_n k, 1)) (hi : (k : Nat) = i) (hn : i < μ.2.2.1) (hok : okS ls i = true) (hls : (ls.set i (some (.ref x))) = ls') (h : Ev G l μ d (pc + 1) ls' st S Q) : Ev G l μ d pc ls (.ref x :: st) S Q := by
  intro A p e R s m args below meth c H locs cells slots Z la C hW hS hl hend
  subst hls
  exact lv_astore_n C.1 C.2.1 hd hi hl hn rfl (fun ls2 hl2 => h C hW hS (lv_less hl2 (lc_set hok)) hend)
theorem r_astore {i x : Nat} {ls' : List (Option Value)} (hd : decode μ.2.1 pc = .ok (.astore i, 2))  (hn : i < μ.2.2.1) (hok : okS ls i = true) (hls : (ls.set i (some (.ref x))) = ls') (h : Ev G l μ d (pc + 2) ls' st S Q) : Ev G l μ d pc ls (.ref x :: st) S Q := by
  intro A p e R s m args below meth c H locs cells slots Z la C hW hS hl hend
  subst hls
  exact lv_astore C.1 C.2.1 hd hl hn rfl (fun ls2 hl2 => h C hW hS (lv_less hl2 (lc_set hok)) hend)
theorem lc_place {G : Gl} {ls : List (Option Value)} {i : Nat} {v : Value} (h : ls[i]? = some (some v)) : ∃ k : Nat, (lcs G 0 ls)[k]? = some (i, cv G v) := by
  have hm : (i, cv G v) ∈ lcs G 0 ls := (lcs_mem G ls 0 i _).mpr ⟨i, v, h, by omega, rfl⟩
  exact List.getElem?_of_mem hm
theorem r_iinc {i : Nat} {n : Int} {x y : Int32} {ls' : List (Option Value)} (hd : decode μ.2.1 pc = .ok (.iinc i n, 3)) (hl0 : ls[i]? = some (some (.int x))) (hv : Int32.ofInt n = y) (hn : i < μ.2.2.1) (hok : okS ls i = true) (hls : ls.set i (some (.int (x + y))) = ls') (h : Ev G l μ d (pc + 3) ls' st S Q) : Ev G l μ d pc ls st S Q := by
  intro A p e R s m args below meth c H locs cells slots Z la C hW hS hl hend
  subst hls
  subst hv
  obtain ⟨k, hk⟩ := lc_place (G := G) hl0
  exact lv_iinc (v := x + Int32.ofInt n) C.1 C.2.1 hd hl hk rfl hn rfl (fun ls2 hl2 => h C hW hS (lv_less hl2 (lc_set hok)) hend)
theorem r_iadd {x y : Int32} (hd : decode μ.2.1 pc = .ok (.iadd, 1))  (h : Ev G l μ d (pc + 1) ls (.int (x + y) :: st) S Q) : Ev G l μ d pc ls (.int y :: .int x :: st) S Q := by
  intro A p e R s m args below meth c H locs cells slots Z la C hW hS hl hend
  exact lv_iadd C.1 C.2.1 hd (h C hW hS hl hend)
theorem r_isub {x y : Int32} (hd : decode μ.2.1 pc = .ok (.isub, 1))  (h : Ev G l μ d (pc + 1) ls (.int (x - y) :: st) S Q) : Ev G l μ d pc ls (.int y :: .int x :: st) S Q := by
  intro A p e R s m args below meth c H locs cells slots Z la C hW hS hl hend
  exact lv_isub C.1 C.2.1 hd (h C hW hS hl hend)
theorem r_imul {x y : Int32} (hd : decode μ.2.1 pc = .ok (.imul, 1))  (h : Ev G l μ d (pc + 1) ls (.int (x * y) :: st) S Q) : Ev G l μ d pc ls (.int y :: .int x :: st) S Q := by
  intro A p e R s m args below meth c H locs cells slots Z la C hW hS hl hend
  exact lv_imul C.1 C.2.1 hd (h C hW hS hl hend)
theorem r_iand {x y : Int32} (hd : decode μ.2.1 pc = .ok (.iand, 1))  (h : Ev G l μ d (pc + 1) ls (.int (x &&& y) :: st) S Q) : Ev G l μ d pc ls (.int y :: .int x :: st) S Q := by
  intro A p e R s m args below meth c H locs cells slots Z la C hW hS hl hend
  exact lv_iand C.1 C.2.1 hd (h C hW hS hl hend)
theorem r_ior {x y : Int32} (hd : decode μ.2.1 pc = .ok (.ior, 1))  (h : Ev G l μ d (pc + 1) ls (.int (x ||| y) :: st) S Q) : Ev G l μ d pc ls (.int y :: .int x :: st) S Q := by
  intro A p e R s m args below meth c H locs cells slots Z la C hW hS hl hend
  exact lv_ior C.1 C.2.1 hd (h C hW hS hl hend)
theorem r_ixor {x y : Int32} (hd : decode μ.2.1 pc = .ok (.ixor, 1))  (h : Ev G l μ d (pc + 1) ls (.int (x ^^^ y) :: st) S Q) : Ev G l μ d pc ls (.int y :: .int x :: st) S Q := by
  intro A p e R s m args below meth c H locs cells slots Z la C hW hS hl hend
  exact lv_ixor C.1 C.2.1 hd (h C hW hS hl hend)
theorem r_ishl {x y : Int32} (hd : decode μ.2.1 pc = .ok (.ishl, 1))  (h : Ev G l μ d (pc + 1) ls (.int (x <<< (y &&& 31)) :: st) S Q) : Ev G l μ d pc ls (.int y :: .int x :: st) S Q := by
  intro A p e R s m args below meth c H locs cells slots Z la C hW hS hl hend
  exact lv_ishl C.1 C.2.1 hd (h C hW hS hl hend)
theorem r_ishr {x y : Int32} (hd : decode μ.2.1 pc = .ok (.ishr, 1))  (h : Ev G l μ d (pc + 1) ls (.int (x >>> (y &&& 31)) :: st) S Q) : Ev G l μ d pc ls (.int y :: .int x :: st) S Q := by
  intro A p e R s m args below meth c H locs cells slots Z la C hW hS hl hend
  exact lv_ishr C.1 C.2.1 hd (h C hW hS hl hend)
theorem r_idiv {x y : Int32} (hd : decode μ.2.1 pc = .ok (.idiv, 1)) (hne : ¬ y = 0) (h : Ev G l μ d (pc + 1) ls (.int (x / y) :: st) S Q) : Ev G l μ d pc ls (.int y :: .int x :: st) S Q := by
  intro A p e R s m args below meth c H locs cells slots Z la C hW hS hl hend
  exact lv_idiv C.1 C.2.1 hd hne (h C hW hS hl hend)
theorem r_irem {x y : Int32} (hd : decode μ.2.1 pc = .ok (.irem, 1)) (hne : ¬ y = 0) (h : Ev G l μ d (pc + 1) ls (.int (x - x / y * y) :: st) S Q) : Ev G l μ d pc ls (.int y :: .int x :: st) S Q := by
  intro A p e R s m args below meth c H locs cells slots Z la C hW hS hl hend
  exact lv_irem C.1 C.2.1 hd hne (h C hW hS hl hend)
theorem r_ineg {x : Int32} (hd : decode μ.2.1 pc = .ok (.ineg, 1))  (h : Ev G l μ d (pc + 1) ls (.int (0 - x) :: st) S Q) : Ev G l μ d pc ls (.int x :: st) S Q := by
  intro A p e R s m args below meth c H locs cells slots Z la C hW hS hl hend
  exact lv_ineg C.1 C.2.1 hd (h C hW hS hl hend)
theorem r_iushr {x y : Int32} (hd : decode μ.2.1 pc = .ok (.iushr, 1))  (h : Ev G l μ d (pc + 1) ls (.int ((x.toUInt32 >>> (y.toUInt32 &&& Int32.toUInt32 31)).toInt32) :: st) S Q) : Ev G l μ d pc ls (.int y :: .int x :: st) S Q := by
  intro A p e R s m args below meth c H locs cells slots Z la C hW hS hl hend
  exact lv_iushr C.1 C.2.1 hd rfl (h C hW hS hl hend)
theorem r_ladd {x y : Int64} (hd : decode μ.2.1 pc = .ok (.ladd, 1))  (h : Ev G l μ d (pc + 1) ls (.long (x + y) :: st) S Q) : Ev G l μ d pc ls (.long y :: .long x :: st) S Q := by
  intro A p e R s m args below meth c H locs cells slots Z la C hW hS hl hend
  exact lv_ladd C.1 C.2.1 hd (h C hW hS hl hend)
theorem r_lmul {x y : Int64} (hd : decode μ.2.1 pc = .ok (.lmul, 1))  (h : Ev G l μ d (pc + 1) ls (.long (x * y) :: st) S Q) : Ev G l μ d pc ls (.long y :: .long x :: st) S Q := by
  intro A p e R s m args below meth c H locs cells slots Z la C hW hS hl hend
  exact lv_lmul C.1 C.2.1 hd (h C hW hS hl hend)
theorem r_ldiv {x y : Int64} (hd : decode μ.2.1 pc = .ok (.ldiv, 1)) (hne : ¬ y = 0) (h : Ev G l μ d (pc + 1) ls (.long (x / y) :: st) S Q) : Ev G l μ d pc ls (.long y :: .long x :: st) S Q := by
  intro A p e R s m args below meth c H locs cells slots Z la C hW hS hl hend
  exact lv_ldiv C.1 C.2.1 hd hne (h C hW hS hl hend)
theorem r_lrem {x y : Int64} (hd : decode μ.2.1 pc = .ok (.lrem, 1)) (hne : ¬ y = 0) (h : Ev G l μ d (pc + 1) ls (.long (x - x / y * y) :: st) S Q) : Ev G l μ d pc ls (.long y :: .long x :: st) S Q := by
  intro A p e R s m args below meth c H locs cells slots Z la C hW hS hl hend
  exact lv_lrem C.1 C.2.1 hd hne (h C hW hS hl hend)
theorem r_i2l {x : Int32} (hd : decode μ.2.1 pc = .ok (.i2l, 1))  (h : Ev G l μ d (pc + 1) ls (.long x.toInt64 :: st) S Q) : Ev G l μ d pc ls (.int x :: st) S Q := by
  intro A p e R s m args below meth c H locs cells slots Z la C hW hS hl hend
  exact lv_i2l C.1 C.2.1 hd rfl (h C hW hS hl hend)
theorem r_l2i {x : Int64} (hd : decode μ.2.1 pc = .ok (.l2i, 1))  (h : Ev G l μ d (pc + 1) ls (.int x.toInt32 :: st) S Q) : Ev G l μ d pc ls (.long x :: st) S Q := by
  intro A p e R s m args below meth c H locs cells slots Z la C hW hS hl hend
  exact lv_l2i C.1 C.2.1 hd rfl (h C hW hS hl hend)
theorem r_i2b {x : Int32} (hd : decode μ.2.1 pc = .ok (.i2b, 1))  (h : Ev G l μ d (pc + 1) ls (.int x.toInt8.toInt32 :: st) S Q) : Ev G l μ d pc ls (.int x :: st) S Q := by
  intro A p e R s m args below meth c H locs cells slots Z la C hW hS hl hend
  exact lv_i2b C.1 C.2.1 hd rfl (h C hW hS hl hend)
theorem r_lcmp {x y : Int64} (hd : decode μ.2.1 pc = .ok (.lcmp, 1))  (h : Ev G l μ d (pc + 1) ls (.int (lg_cmp x y) :: st) S Q) : Ev G l μ d pc ls (.long y :: .long x :: st) S Q := by
  intro A p e R s m args below meth c H locs cells slots Z la C hW hS hl hend
  exact W.lcmp C.1 C.2.1 hd (h C hW hS hl hend)
theorem r_dup {v : Value} (hd : decode μ.2.1 pc = .ok (.dup, 1)) (hv : v.category = 1) (h : Ev G l μ d (pc + 1) ls (v :: v :: st) S Q) : Ev G l μ d pc ls (v :: st) S Q := by
  intro A p e R s m args below meth c H locs cells slots Z la C hW hS hl hend
  exact lv_dup C.1 C.2.1 hd (by rw [cv_cat]; exact hv) (h C hW hS hl hend)
theorem r_dup2_11 {v w : Value} (hd : decode μ.2.1 pc = .ok (.dup2, 1)) (hv : v.category = 1) (hw : w.category = 1) (h : Ev G l μ d (pc + 1) ls (v :: w :: v :: w :: st) S Q) : Ev G l μ d pc ls (v :: w :: st) S Q := by
  intro A p e R s m args below meth c H locs cells slots Z la C hW hS hl hend
  exact lv_dup2_11 C.1 C.2.1 hd (by rw [cv_cat]; exact hv) (by rw [cv_cat]; exact hw) (h C hW hS hl hend)
theorem r_dup2_2 {v : Value} (hd : decode μ.2.1 pc = .ok (.dup2, 1)) (hv : v.category = 2) (h : Ev G l μ d (pc + 1) ls (v :: v :: st) S Q) : Ev G l μ d pc ls (v :: st) S Q := by
  intro A p e R s m args below meth c H locs cells slots Z la C hW hS hl hend
  exact lv_dup2_2 C.1 C.2.1 hd (by rw [cv_cat]; exact hv) (h C hW hS hl hend)
theorem r_if_eq {x : Int32} {off : Int} {tgt : Nat} (hd : decode μ.2.1 pc = .ok (.ifCond .eq off, 3)) (ht : (pc : Int) + off = (tgt : Int)) (h : (x = 0 → Ev G l μ d tgt ls st S Q) ∧ (¬ (x = 0) → Ev G l μ d (pc + 3) ls st S Q)) : Ev G l μ d pc ls (.int x :: st) S Q := by
  intro A p e R s m args below meth c H locs cells slots Z la C hW hS hl hend
  exact lv_if_eq C.1 C.2.1 hd ht (fun q => h.1 (by simpa using q) C hW hS hl hend) (fun q => h.2 (by simpa using q) C hW hS hl hend)
theorem r_icmp_eq {x y : Int32} {off : Int} {tgt : Nat} (hd : decode μ.2.1 pc = .ok (.if_icmp .eq off, 3)) (ht : (pc : Int) + off = (tgt : Int)) (h : (x = y → Ev G l μ d tgt ls st S Q) ∧ (¬ (x = y) → Ev G l μ d (pc + 3) ls st S Q)) : Ev G l μ d pc ls (.int y :: .int x :: st) S Q := by
  intro A p e R s m args below meth c H locs cells slots Z la C hW hS hl hend
  exact lv_icmp_eq C.1 C.2.1 hd ht (fun q => h.1 (by simpa using q) C hW hS hl hend) (fun q => h.2 (by simpa using q) C hW hS hl hend)
theorem r_if_ne {x : Int32} {off : Int} {tgt : Nat} (hd : decode μ.2.1 pc = .ok (.ifCond .ne off, 3)) (ht : (pc : Int) + off = (tgt : Int)) (h : (¬ x = 0 → Ev G l μ d tgt ls st S Q) ∧ (¬ (¬ x = 0) → Ev G l μ d (pc + 3) ls st S Q)) : Ev G l μ d pc ls (.int x :: st) S Q := by
  intro A p e R s m args below meth c H locs cells slots Z la C hW hS hl hend
  exact lv_if_ne C.1 C.2.1 hd ht (fun q => h.1 (by simpa using q) C hW hS hl hend) (fun q => h.2 (by simpa using q) C hW hS hl hend)
theorem r_icmp_ne {x y : Int32} {off : Int} {tgt : Nat} (hd : decode μ.2.1 pc = .ok (.if_icmp .ne off, 3)) (ht : (pc : Int) + off = (tgt : Int)) (h : (¬ x = y → Ev G l μ d tgt ls st S Q) ∧ (¬ (¬ x = y) → Ev G l μ d (pc + 3) ls st S Q)) : Ev G l μ d pc ls (.int y :: .int x :: st) S Q := by
  intro A p e R s m args below meth c H locs cells slots Z la C hW hS hl hend
  exact lv_icmp_ne C.1 C.2.1 hd ht (fun q => h.1 (by simpa using q) C hW hS hl hend) (fun q => h.2 (by simpa using q) C hW hS hl hend)
theorem r_if_lt {x : Int32} {off : Int} {tgt : Nat} (hd : decode μ.2.1 pc = .ok (.ifCond .lt off, 3)) (ht : (pc : Int) + off = (tgt : Int)) (h : (x < 0 → Ev G l μ d tgt ls st S Q) ∧ (¬ (x < 0) → Ev G l μ d (pc + 3) ls st S Q)) : Ev G l μ d pc ls (.int x :: st) S Q := by
  intro A p e R s m args below meth c H locs cells slots Z la C hW hS hl hend
  exact lv_if_lt C.1 C.2.1 hd ht (fun q => h.1 (by simpa using q) C hW hS hl hend) (fun q => h.2 (by simpa using q) C hW hS hl hend)
theorem r_icmp_lt {x y : Int32} {off : Int} {tgt : Nat} (hd : decode μ.2.1 pc = .ok (.if_icmp .lt off, 3)) (ht : (pc : Int) + off = (tgt : Int)) (h : (x < y → Ev G l μ d tgt ls st S Q) ∧ (¬ (x < y) → Ev G l μ d (pc + 3) ls st S Q)) : Ev G l μ d pc ls (.int y :: .int x :: st) S Q := by
  intro A p e R s m args below meth c H locs cells slots Z la C hW hS hl hend
  exact lv_icmp_lt C.1 C.2.1 hd ht (fun q => h.1 (by simpa using q) C hW hS hl hend) (fun q => h.2 (by simpa using q) C hW hS hl hend)
theorem r_if_ge {x : Int32} {off : Int} {tgt : Nat} (hd : decode μ.2.1 pc = .ok (.ifCond .ge off, 3)) (ht : (pc : Int) + off = (tgt : Int)) (h : (0 ≤ x → Ev G l μ d tgt ls st S Q) ∧ (¬ (0 ≤ x) → Ev G l μ d (pc + 3) ls st S Q)) : Ev G l μ d pc ls (.int x :: st) S Q := by
  intro A p e R s m args below meth c H locs cells slots Z la C hW hS hl hend
  exact lv_if_ge C.1 C.2.1 hd ht (fun q => h.1 (by simpa using q) C hW hS hl hend) (fun q => h.2 (by simpa using q) C hW hS hl hend)
theorem r_icmp_ge {x y : Int32} {off : Int} {tgt : Nat} (hd : decode μ.2.1 pc = .ok (.if_icmp .ge off, 3)) (ht : (pc : Int) + off = (tgt : Int)) (h : (y ≤ x → Ev G l μ d tgt ls st S Q) ∧ (¬ (y ≤ x) → Ev G l μ d (pc + 3) ls st S Q)) : Ev G l μ d pc ls (.int y :: .int x :: st) S Q := by
  intro A p e R s m args below meth c H locs cells slots Z la C hW hS hl hend
  exact lv_icmp_ge C.1 C.2.1 hd ht (fun q => h.1 (by simpa using q) C hW hS hl hend) (fun q => h.2 (by simpa using q) C hW hS hl hend)
theorem r_if_gt {x : Int32} {off : Int} {tgt : Nat} (hd : decode μ.2.1 pc = .ok (.ifCond .gt off, 3)) (ht : (pc : Int) + off = (tgt : Int)) (h : (0 < x → Ev G l μ d tgt ls st S Q) ∧ (¬ (0 < x) → Ev G l μ d (pc + 3) ls st S Q)) : Ev G l μ d pc ls (.int x :: st) S Q := by
  intro A p e R s m args below meth c H locs cells slots Z la C hW hS hl hend
  exact lv_if_gt C.1 C.2.1 hd ht (fun q => h.1 (by simpa using q) C hW hS hl hend) (fun q => h.2 (by simpa using q) C hW hS hl hend)
theorem r_icmp_gt {x y : Int32} {off : Int} {tgt : Nat} (hd : decode μ.2.1 pc = .ok (.if_icmp .gt off, 3)) (ht : (pc : Int) + off = (tgt : Int)) (h : (y < x → Ev G l μ d tgt ls st S Q) ∧ (¬ (y < x) → Ev G l μ d (pc + 3) ls st S Q)) : Ev G l μ d pc ls (.int y :: .int x :: st) S Q := by
  intro A p e R s m args below meth c H locs cells slots Z la C hW hS hl hend
  exact lv_icmp_gt C.1 C.2.1 hd ht (fun q => h.1 (by simpa using q) C hW hS hl hend) (fun q => h.2 (by simpa using q) C hW hS hl hend)
theorem r_if_le {x : Int32} {off : Int} {tgt : Nat} (hd : decode μ.2.1 pc = .ok (.ifCond .le off, 3)) (ht : (pc : Int) + off = (tgt : Int)) (h : (x ≤ 0 → Ev G l μ d tgt ls st S Q) ∧ (¬ (x ≤ 0) → Ev G l μ d (pc + 3) ls st S Q)) : Ev G l μ d pc ls (.int x :: st) S Q := by
  intro A p e R s m args below meth c H locs cells slots Z la C hW hS hl hend
  exact lv_if_le C.1 C.2.1 hd ht (fun q => h.1 (by simpa using q) C hW hS hl hend) (fun q => h.2 (by simpa using q) C hW hS hl hend)
theorem r_icmp_le {x y : Int32} {off : Int} {tgt : Nat} (hd : decode μ.2.1 pc = .ok (.if_icmp .le off, 3)) (ht : (pc : Int) + off = (tgt : Int)) (h : (x ≤ y → Ev G l μ d tgt ls st S Q) ∧ (¬ (x ≤ y) → Ev G l μ d (pc + 3) ls st S Q)) : Ev G l μ d pc ls (.int y :: .int x :: st) S Q := by
  intro A p e R s m args below meth c H locs cells slots Z la C hW hS hl hend
  exact lv_icmp_le C.1 C.2.1 hd ht (fun q => h.1 (by simpa using q) C hW hS hl hend) (fun q => h.2 (by simpa using q) C hW hS hl hend)
theorem r_goto {off : Int} {tgt : Nat} (hd : decode μ.2.1 pc = .ok (.goto off, 3)) (ht : (pc : Int) + off = (tgt : Int)) (h : Ev G l μ d tgt ls st S Q) : Ev G l μ d pc ls st S Q := by
  intro A p e R s m args below meth c H locs cells slots Z la C hW hS hl hend
  exact lv_goto C.1 C.2.1 hd ht (h C hW hS hl hend)
theorem r_ldcw {index : Nat} {v : Int32} (hd : decode μ.2.1 pc = .ok (.ldc_w index, 3)) (hw : Cond.constant μ.1.cls index v ∈ gtb) (h : Ev G l μ d (pc + 3) ls (.int v :: st) S Q) : Ev G l μ d pc ls st S Q := by
  intro A p e R s m args below meth c H locs cells slots Z la C hW hS hl hend
  exact lv_ldcw C.1 C.2.1 C.2.2.2.1 (C.2.2.2.2.1 _ hw) hd (h C hW hS hl hend)
theorem r_ldc {index : Nat} {v : Int32} (hd : decode μ.2.1 pc = .ok (.ldc index, 2)) (hw : Cond.constant μ.1.cls index v ∈ gtb) (h : Ev G l μ d (pc + 2) ls (.int v :: st) S Q) : Ev G l μ d pc ls st S Q := by
  intro A p e R s m args below meth c H locs cells slots Z la C hW hS hl hend
  exact lv_ldc C.1 C.2.1 C.2.2.2.1 (C.2.2.2.2.1 _ hw) hd (h C hW hS hl hend)
theorem r_ldc2 {index : Nat} {v : Int64} (hd : decode μ.2.1 pc = .ok (.ldc2_w index, 3)) (hw : Cond.constantLong μ.1.cls index v ∈ gtb) (h : Ev G l μ d (pc + 3) ls (.long v :: st) S Q) : Ev G l μ d pc ls st S Q := by
  intro A p e R s m args below meth c H locs cells slots Z la C hW hS hl hend
  exact lv_ldc2 C.1 C.2.1 C.2.2.2.1 (C.2.2.2.2.1 _ hw) hd (h C hW hS hl hend)
/-- a switch over lo, lo + 1, .. -/
def swc (P : Nat → Prop) (x : Int32) (D : Prop) : List (Int32 × Nat) → Prop
  | [] => D
  | q :: ts => (x = q.1 → P q.2) ∧ (¬ x = q.1 → swc P x D ts)
def swok : Int → List (Int32 × Nat) → Bool
  | _, [] => true
  | lo, q :: ts => q.1.toInt == lo && swok (lo + 1) ts
theorem swc_in {P : Nat → Prop} {x : Int32} {D : Prop} : ∀ (ts : List (Int32 × Nat)) (lo : Int) (j : Nat) (t : Int32 × Nat), swok lo ts = true → swc P x D ts → ts[j]? = some t → x.toInt = lo + j → P t.2
  | [], lo, j, t, _, _, h, _ => by simp at h
  | q :: ts, lo, 0, t, ho, hs, h, hx => by
    simp only [swok, Bool.and_eq_true, beq_iff_eq] at ho
    simp at h
    subst h
    exact hs.1 (Int32.toInt_inj.mp (by rw [ho.1, hx]; simp))
  | q :: ts, lo, j + 1, t, ho, hs, h, hx => by
    simp only [swok, Bool.and_eq_true, beq_iff_eq] at ho
    refine swc_in ts (lo + 1) j t ho.2 (hs.2 (fun e => ?_)) (by simpa using h) (by rw [hx]; push_cast; omega)
    rw [e, ho.1] at hx
    push_cast at hx
    omega
theorem swc_out {P : Nat → Prop} {x : Int32} {D : Prop} : ∀ (ts : List (Int32 × Nat)) (lo : Int), swok lo ts = true → swc P x D ts → (x.toInt < lo ∨ lo + ts.length ≤ x.toInt) → D
  | [], _, _, h, _ => h
  | q :: ts, lo, ho, hs, hx => by
    simp only [swok, Bool.and_eq_true, beq_iff_eq] at ho
    simp only [List.length_cons] at hx
    push_cast at hx
    refine swc_out ts (lo + 1) ho.2 (hs.2 (fun e => ?_)) (by omega)
    rw [e, ho.1] at hx
    omega
theorem r_ts {x : Int32} {lo hi dflt : Int} {offs : Array Int} {len td : Nat} (ts : List (Int32 × Nat)) (hd : decode μ.2.1 pc = .ok (.tableswitch dflt lo hi offs, len)) (hok : swok lo ts = true) (hhi : lo + ts.length = hi + 1) (ho : offs.toList = ts.map (fun q => (q.2 : Int) - pc)) (htd : (pc : Int) + dflt = td)
    (h : swc (fun t => Ev G l μ d t ls st S Q) x (Ev G l μ d td ls st S Q) ts) : Ev G l μ d pc ls (.int x :: st) S Q := by
  intro A p e R s m args below meth c H locs cells slots Z la C hW hS hl hend
  by_cases h1 : x.toInt < lo
  · exact lv_tableOut C.1 C.2.1 hd (Or.inl h1) htd (swc_out ts lo hok h (Or.inl h1) C hW hS hl hend)
  · by_cases h2 : hi < x.toInt
    · exact lv_tableOut C.1 C.2.1 hd (Or.inr h2) htd (swc_out ts lo hok h (Or.inr (by omega)) C hW hS hl hend)
    · have hj : (x.toInt - lo).toNat < ts.length := by omega
      have hq : ts[(x.toInt - lo).toNat]? = some ts[(x.toInt - lo).toNat] := List.getElem?_eq_getElem hj
      generalize hqe : ts[(x.toInt - lo).toNat] = q at hq
      have hoff : offs[(x.toInt - lo).toNat]? = some ((q.2 : Int) - pc) := by
        rw [← Array.getElem?_toList, ho, List.getElem?_map, hq]
        rfl
      exact lv_tableIn C.1 C.2.1 hd h1 h2 hoff (by omega) (swc_in ts lo _ q hok h hq (by omega) C hW hS hl hend)
end rules
end
section
/-! the rules of fields, arrays and calls -/
section mem
variable {G : Gl} {l : Launch} {μ : Mt} {d pc : Nat} {ls : List (Option Value)} {st : List Value} {S : Sg} {Q : Option Value → Sg → Prop}
/-- a place of the constant pool is a field of a class -/
def FL (own : String) (idx c i : Nat) : Prop := Cond.fieldLink own idx (cT c i).1 (cT c i).2.1 (cT c i).2.2.1 ∈ gtb
theorem vlu_I {k c i : Nat} (h : kd k = c) (hf : fk c i = 0) : vlu G S k i = .int (S.1 k i) := by
  unfold vlu
  rw [h, if_pos hf]
theorem vlu_L {k c i : Nat} (h : kd k = c) (hf : fk c i = 1) : vlu G S k i = .long (S.2 k i) := by
  unfold vlu
  rw [h, if_neg (by omega), if_pos hf]
theorem vlu_R {k c i : Nat} (h : kd k = c) (hf : fk c i = 2) : vlu G S k i = .ref (gA G (rf k i)) := by
  unfold vlu
  rw [h, if_neg (by omega), if_neg (by omega)]
theorem fld_at {k c i : Nat} (hi : i < cN c) : ((List.range (cN c)).map (vlu G S k))[i]? = some (vlu G S k i) := by simp [hi]
theorem r_getV {idx k c i : Nat} {v w : Value} (hd : decode μ.2.1 pc = .ok (.getfield idx, 3)) (hF : FL μ.1.cls idx c i) (hk : kd k = c) (hc : c < 6) (hi : i < cN c) (hv : vlu G S k i = w) (hw : cv G v = w) (h : Ev G l μ d (pc + 3) ls (v :: st) S Q) : Ev G l μ d pc ls (.ref k :: st) S Q := by
  intro A p e R s m args below meth c0 H locs cells slots Z la C hW hS hl hend
  obtain ⟨hcl, hin, hty, hnm⟩ := cls_ok hc
  refine va_get C.1 C.2.1 C.2.2.2.2.1 hin C.2.2.2.1 C.2.2.2.2.2.2.2.2.1.1 hW k (ci := c) ?_ hcl i hi (C.2.2.2.2.1 _ hF) (fun _ h => h) (fs := (List.range (cN c)).map (vlu G S k)) (v := w) ?_ hd ?_
  · exact (wld_at G S (kd_lt (by omega))).trans (by rw [ent_obj G S hk hc])
  · rw [fld_at hi, hv]
  · have := h C hW hS hl hend
    rw [List.map_cons, hw] at this
    exact this
theorem r_getI {idx k i : Nat} (c : Nat) (hF : FL μ.1.cls idx c i) (hd : decode μ.2.1 pc = .ok (.getfield idx, 3)) (hk : kd k = c) (hc : c < 6) (hi : i < cN c) (hf : fk c i = 0) (h : Ev G l μ d (pc + 3) ls (.int (S.1 k i) :: st) S Q) : Ev G l μ d pc ls (.ref k :: st) S Q :=
  r_getV hd hF hk hc hi (vlu_I hk hf) rfl h
theorem r_getL {idx k i : Nat} (c : Nat) (hF : FL μ.1.cls idx c i) (hd : decode μ.2.1 pc = .ok (.getfield idx, 3)) (hk : kd k = c) (hc : c < 6) (hi : i < cN c) (hf : fk c i = 1) (h : Ev G l μ d (pc + 3) ls (.long (S.2 k i) :: st) S Q) : Ev G l μ d pc ls (.ref k :: st) S Q :=
  r_getV hd hF hk hc hi (vlu_L hk hf) rfl h
theorem r_getR {idx k i k' : Nat} (c : Nat) (hF : FL μ.1.cls idx c i) (hd : decode μ.2.1 pc = .ok (.getfield idx, 3)) (hk : kd k = c) (hc : c < 6) (hi : i < cN c) (hf : fk c i = 2) (hr : rf k i = k') (h : Ev G l μ d (pc + 3) ls (.ref k' :: st) S Q) : Ev G l μ d pc ls (.ref k :: st) S Q :=
  r_getV hd hF hk hc hi (vlu_R hk hf) (by rw [hr]; rfl) h
theorem r_putI {idx k i : Nat} {v : Int32} (c : Nat) (hF : FL μ.1.cls idx c i) (hd : decode μ.2.1 pc = .ok (.putfield idx, 3)) (hk : kd k = c) (hc : c < 6) (hi : i < cN c) (hf : fk c i = 0) (hfin : (cT c i).2.2.2 = false) (hn : narrow (cTy c i) (.int v) = .int v) (hfit : fits (cTy c i) (.int v) = true) (h : Ev G l μ d (pc + 3) ls st (u2 S.1 k i v, S.2) Q) : Ev G l μ d pc ls (.int v :: .ref k :: st) S Q := by
  intro A p e R s m args below meth c0 H locs cells slots Z la C hW hS hl hend
  obtain ⟨hcl, hin, hty, hnm⟩ := cls_ok hc
  refine va_put (ty := cTy c i) C.1 C.2.1 C.2.2.2.2.1 hin (cTy c) hty hnm C.2.2.2.1 C.2.2.2.2.2.2.2.2.1.1 hW (wld_D G S C.2.2.2.2.2.2.2.1 C.2.2.2.2.2.2.1) hS k (ci := c) ((wld_at G S (kd_lt (by omega))).trans (by rw [ent_obj G S hk hc])) hcl i hi (C.2.2.2.2.1 _ hF) (fun _ h => h) hfin (hty i hi) hn hfit (by simpa using hi) hd ?_
  intro H1 locs1 hP hD hS1
  have hP2 : Wd G (u2 S.1 k i v, S.2) H1 := by
    unfold Wd
    rw [wld_putI G S hk hc hi hf]
    exact hP
  exact h C hP2 hS1 hl hend
theorem r_putL {idx k i : Nat} {v : Int64} (c : Nat) (hF : FL μ.1.cls idx c i) (hd : decode μ.2.1 pc = .ok (.putfield idx, 3)) (hk : kd k = c) (hc : c < 6) (hi : i < cN c) (hf : fk c i = 1) (hfin : (cT c i).2.2.2 = false) (hty0 : cTy c i = .long) (h : Ev G l μ d (pc + 3) ls st (S.1, u2 S.2 k i v) Q) : Ev G l μ d pc ls (.long v :: .ref k :: st) S Q := by
  intro A p e R s m args below meth c0 H locs cells slots Z la C hW hS hl hend
  obtain ⟨hcl, hin, hty, hnm⟩ := cls_ok hc
  refine va_put (ty := cTy c i) C.1 C.2.1 C.2.2.2.2.1 hin (cTy c) hty hnm C.2.2.2.1 C.2.2.2.2.2.2.2.2.1.1 hW (wld_D G S C.2.2.2.2.2.2.2.1 C.2.2.2.2.2.2.1) hS k (ci := c) ((wld_at G S (kd_lt (by omega))).trans (by rw [ent_obj G S hk hc])) hcl i hi (C.2.2.2.2.1 _ hF) (fun _ h => h) hfin (hty i hi) (by rw [hty0]; rfl) (by rw [hty0]; rfl) (by simpa using hi) hd ?_
  intro H1 locs1 hP hD hS1
  have hP2 : Wd G (S.1, u2 S.2 k i v) H1 := by
    unfold Wd
    rw [wld_putL G S hk hc hi hf]
    exact hP
  exact h C hP2 hS1 hl hend
theorem r_iald {k n : Nat} {i : Int32} (hd : decode μ.2.1 pc = .ok (.iaload, 1)) (hk : kd k = 10) (hix : ix i n (ln k)) (h : Ev G l μ d (pc + 1) ls (.int (S.1 k n) :: st) S Q) : Ev G l μ d pc ls (.int i :: .ref k :: st) S Q := by
  intro A p e R s m args below meth c0 H locs cells slots Z la C hW hS hl hend
  refine va_iald C.1 C.2.1 C.2.2.2.2.2.2.2.2.1.1 hW k 0 ((wld_at G S (kd_lt (by omega))).trans (by rw [ent_arr G S hk (by omega) (by omega)])) rfl (ix_in hix) hd ?_
  rw [hix.2.1]
  exact h C hW hS hl hend
theorem r_iast {k n : Nat} {i v : Int32} (hd : decode μ.2.1 pc = .ok (.iastore, 1)) (hk : kd k = 10) (hix : ix i n (ln k)) (h : Ev G l μ d (pc + 1) ls st (u2 S.1 k n v, S.2) Q) : Ev G l μ d pc ls (.int v :: .int i :: .ref k :: st) S Q := by
  intro A p e R s m args below meth c0 H locs cells slots Z la C hW hS hl hend
  refine va_iast C.1 C.2.1 C.2.2.2.2.2.2.2.2.1.1 hW (wld_D G S C.2.2.2.2.2.2.2.1 C.2.2.2.2.2.2.1) hS k 0 ((wld_at G S (kd_lt (by omega))).trans (by rw [ent_arr G S hk (by omega) (by omega)])) rfl (ix_in hix) hd ?_
  intro H1 locs1 hP hD hS1
  rw [hix.2.1] at hP
  have hP2 : Wd G (u2 S.1 k n v, S.2) H1 := by
    unfold Wd
    rw [wld_ast G S hk (by omega) (by omega)]
    exact hP
  exact h C hP2 hS1 hl hend
theorem r_zald {k n : Nat} {i : Int32} (hd : decode μ.2.1 pc = .ok (.baload, 1)) (hk : kd k = 11) (hix : ix i n (ln k)) (h : Ev G l μ d (pc + 1) ls (.int (S.1 k n) :: st) S Q) : Ev G l μ d pc ls (.int i :: .ref k :: st) S Q := by
  intro A p e R s m args below meth c0 H locs cells slots Z la C hW hS hl hend
  refine va_zald C.1 C.2.1 C.2.2.2.2.2.2.2.2.1.1 hW k 1 ((wld_at G S (kd_lt (by omega))).trans (by rw [ent_arr G S hk (by omega) (by omega)])) rfl (ix_in hix) hd ?_
  rw [hix.2.1]
  exact h C hW hS hl hend
theorem r_zast {k n : Nat} {i v : Int32} (hd : decode μ.2.1 pc = .ok (.bastore, 1)) (hk : kd k = 11) (hix : ix i n (ln k)) (hv : vp_nar .boolean v = v) (h : Ev G l μ d (pc + 1) ls st (u2 S.1 k n v, S.2) Q) : Ev G l μ d pc ls (.int v :: .int i :: .ref k :: st) S Q := by
  intro A p e R s m args below meth c0 H locs cells slots Z la C hW hS hl hend
  refine va_zast C.1 C.2.1 C.2.2.2.2.2.2.2.2.1.1 hW (wld_D G S C.2.2.2.2.2.2.2.1 C.2.2.2.2.2.2.1) hS k 1 ((wld_at G S (kd_lt (by omega))).trans (by rw [ent_arr G S hk (by omega) (by omega)])) rfl (ix_in hix) hd ?_
  intro H1 locs1 hP hD hS1
  rw [hix.2.1, hv] at hP
  have hP2 : Wd G (u2 S.1 k n v, S.2) H1 := by
    unfold Wd
    rw [wld_ast G S hk (by omega) (by omega)]
    exact hP
  exact h C hP2 hS1 hl hend
theorem r_aald {k n k' : Nat} {i : Int32} (hd : decode μ.2.1 pc = .ok (.aaload, 1)) (hk : kd k = 12 ∨ kd k = 13) (hix : ix i n (ln k)) (hr : rf k n = k') (h : Ev G l μ d (pc + 1) ls (.ref k' :: st) S Q) : Ev G l μ d pc ls (.int i :: .ref k :: st) S Q := by
  intro A p e R s m args below meth c0 H locs cells slots Z la C hW hS hl hend
  rcases hk with hk | hk
  · refine va_aldq C.1 C.2.1 C.2.2.2.2.2.2.2.2.1.1 hW k 2 ((wld_at G S (kd_lt (by omega))).trans (by rw [ent_rarr G S hk (by omega)])) rfl (ix_in hix) hd ?_
    rw [hix.2.1, hr]
    exact h C hW hS hl hend
  · refine va_aldq C.1 C.2.1 C.2.2.2.2.2.2.2.2.1.1 hW k 3 ((wld_at G S (kd_lt (by omega))).trans (by rw [ent_rarr G S hk (by omega)])) rfl (ix_in hix) hd ?_
    rw [hix.2.1, hr]
    exact h C hW hS hl hend
theorem r_alen {k : Nat} {v : Int32} (hd : decode μ.2.1 pc = .ok (.arraylength, 1)) (hk : 10 ≤ kd k ∧ kd k < 14) (hv : nI (ln k) = v) (h : Ev G l μ d (pc + 1) ls (.int v :: st) S Q) : Ev G l μ d pc ls (.ref k :: st) S Q := by
  intro A p e R s m args below meth c0 H locs cells slots Z la C hW hS hl hend
  have hn : ¬ kd k < 6 := by omega
  rcases (show kd k = 10 ∨ kd k = 11 ∨ kd k = 12 ∨ kd k = 13 by omega) with q | q | q | q
  all_goals
    refine va_alen (x := (ln k, if kd k < 12 then .inl (S.1 k) else .inr (.inr (.inr (.inr (fun i => some (gA G (rf k i)))))))) C.1 C.2.1 C.2.2.2.2.2.2.2.2.1.1 hW k (kd k - 10) ((wld_at G S (kd_lt (by omega))).trans (by unfold ent; rw [if_neg hn])) (by rw [q]; rfl) hv hd ?_
    exact h C hW hS hl hend
theorem r_letters {idx : Nat} (hd : decode μ.2.1 pc = .ok (.getstatic idx, 3)) (hF : Cond.fieldLink μ.1.cls idx "ShyStrip" "LETTERS" "[I" ∈ gtb) (h : Ev G l μ d (pc + 3) ls (.ref 200 :: st) S Q) : Ev G l μ d pc ls st S Q := by
  intro A p e R s m args below meth c0 H locs cells slots Z la C hW hS hl hend
  exact va_gets C.1 C.2.1 C.2.2.2.2.2.2.2.2.1.2.1 hS C.2.2.2.1 (C.2.2.2.2.1 _ hF) (fun _ h => h) hd (h C hW hS hl hend)
theorem r_letter {n : Nat} {i v : Int32} (hd : decode μ.2.1 pc = .ok (.iaload, 1)) (hix : ix i n 6) (hv : letF n = .int v) (h : Ev G l μ d (pc + 1) ls (.int v :: st) S Q) : Ev G l μ d pc ls (.int i :: .ref 200 :: st) S Q := by
  intro A p e R s m args below meth c0 H locs cells slots Z la C hW hS hl hend
  exact va_ti C.1 C.2.1 C.2.2.2.2.2.2.2.2.1.2.2 hS (ix_in hix) (by rw [hix.2.1]; exact hv) hd (h C hW hS hl hend)
theorem r_script {n : Nat} {i : Int32} (hlaw : μ.1.name = "law") (hd : decode μ.2.1 pc = .ok (.iaload, 1)) (hix : ix i n (gL G)) (h : Ev G l μ d (pc + 1) ls (.int (gX G n) :: st) S Q) : Ev G l μ d pc ls (.int i :: .ref 201 :: st) S Q := by
  intro A p e R s m args below meth c0 H locs cells slots Z la C hW hS hl hend
  obtain ⟨hX, hb1, hb2⟩ := C.2.2.2.2.2.2.2.2.2 hlaw
  refine va_sld C.1 C.2.1 hX hb1 hb2 hS (ix_in hix) hd ?_
  rw [hix.2.1]
  exact h C hW hS hl hend
theorem r_scriptLen (hlaw : μ.1.name = "law") (hd : decode μ.2.1 pc = .ok (.arraylength, 1)) (h : Ev G l μ d (pc + 1) ls (.int (nI (gL G)) :: st) S Q) : Ev G l μ d pc ls (.ref 201 :: st) S Q := by
  intro A p e R s m args below meth c0 H locs cells slots Z la C hW hS hl hend
  obtain ⟨hX, hb1, hb2⟩ := C.2.2.2.2.2.2.2.2.2 hlaw
  exact va_slen C.1 C.2.1 hX hb1 hb2 hS hd (h C hW hS hl hend)
theorem r_copy {idx k0 k1 a b n : Nat} {sp dp x : Int32} (hd : decode μ.2.1 pc = .ok (.invokestatic idx, 3)) (hlink : Cond.methodLink μ.1.cls idx arraycopyName ∈ gtb) (hnat : Cond.native arraycopyName ∈ gtb) (hstt : Cond.static arraycopyName ∈ gtb) (hini : Cond.initialized "java/lang/System" ∈ gtb)
    (hk0 : kd k0 = 10) (hk1 : kd k1 = 10) (hsp : sp = nI a) (hdp : dp = nI b) (hx : x = nI n) (h1 : a + n ≤ ln k0) (h2 : b + n ≤ ln k1) (h3 : ln k0 < 2 ^ 31) (h4 : ln k1 < 2 ^ 31) (hst : (st.map fun v => v.category).sum ≤ 8) (h : Ev G l μ d (pc + 3) ls st (u1 S.1 k1 (va_cpy (S.1 k0) (S.1 k1) a b n), S.2) Q) : Ev G l μ d pc ls (.int x :: .int dp :: .ref k1 :: .int sp :: .ref k0 :: st) S Q := by
  intro A p e R s m args below meth c0 H locs cells slots Z la C hW hS hl hend
  subst hsp
  subst hdp
  subst hx
  have ca : (nI a).toNatClampNeg = a := nI_clamp (by omega)
  have cb : (nI b).toNatClampNeg = b := nI_clamp (by omega)
  have cn : (nI n).toNatClampNeg = n := nI_clamp (by omega)
  have hcat : ((st.map (cv G)).map fun v => v.category) = st.map fun v => v.category := by
    rw [List.map_map]
    exact List.map_congr_left (fun v _ => cv_cat G v)
  refine va_copyi (ty := .int) C.1 C.2.1 (C.2.2.1.trans hl.1.symm) C.2.2.2.1 (C.2.2.2.2.1 _ hlink) (C.2.2.2.2.1 _ hnat) (C.2.2.2.2.1 _ hstt) (C.2.2.2.2.1 _ hini) C.2.2.2.2.2.2.2.2.1.1 hW (wld_D G S C.2.2.2.2.2.2.2.1 C.2.2.2.2.2.2.1) hS k0 k1 0 0 ((wld_at G S (kd_lt (by omega))).trans (by rw [ent_arr G S hk0 (by omega) (by omega)])) ((wld_at G S (kd_lt (by omega))).trans (by rw [ent_arr G S hk1 (by omega) (by omega)])) rfl rfl rfl (nI_pos (by omega)) (nI_pos (by omega)) (nI_pos (by omega)) (by rw [ca, cn]; exact h1) (by rw [cb, cn]; exact h2) (fun _ _ => rfl) (by have := C.2.2.2.2.2.1.1; omega) ?_ hd ?_
  · rw [hcat]
    have h5 := C.2.2.2.2.2.1.2.1
    have h6 : nativeFrameWords "java/lang/System" "arraycopy" 5 ≤ 60 := by decide +kernel
    omega
  · intro H1 locs1 hP hD hS1
    rw [ca, cb, cn] at hP
    have hP2 : Wd G (u1 S.1 k1 (va_cpy (S.1 k0) (S.1 k1) a b n), S.2) H1 := by
      unfold Wd
      rw [wld_row G S hk1 (by omega) (by omega)]
      exact hP
    exact h C hP2 hS1 hl hend
/-- a method's ends -/
def QI (P : Int32 → Sg → Prop) : Option Value → Sg → Prop := fun v S => ∃ x, v = some (.int x) ∧ P x S
def QL (P : Int64 → Sg → Prop) : Option Value → Sg → Prop := fun v S => ∃ x, v = some (.long x) ∧ P x S
def QV (P : Sg → Prop) : Option Value → Sg → Prop := fun v S => v = none ∧ P S
theorem r_iret {x : Int32} {P : Int32 → Sg → Prop} (hd : decode μ.2.1 pc = .ok (.ireturn, 1)) (hr : μ.2.2.2 = some .int) (h : P x S) : Ev G l μ d pc ls [.int x] S (QI P) := by
  intro A p e R s m args below meth c0 H locs cells slots Z la C hW hS hl hend
  exact hend (some (.int x)) S H locs pc la ⟨x, rfl, h⟩ hW hS ⟨hd, .int, hr, rfl⟩
theorem r_zret {x : Int32} {P : Int32 → Sg → Prop} (hd : decode μ.2.1 pc = .ok (.ireturn, 1)) (hr : μ.2.2.2 = some .boolean) (hx : narrow .boolean (.int x) = .int x) (h : P x S) : Ev G l μ d pc ls [.int x] S (QI P) := by
  intro A p e R s m args below meth c0 H locs cells slots Z la C hW hS hl hend
  exact hend (some (.int x)) S H locs pc la ⟨x, rfl, h⟩ hW hS ⟨hd, .boolean, hr, hx⟩
theorem r_lret {x : Int64} {P : Int64 → Sg → Prop} (hd : decode μ.2.1 pc = .ok (.lreturn, 1)) (hr : μ.2.2.2 = some .long) (h : P x S) : Ev G l μ d pc ls [.long x] S (QL P) := by
  intro A p e R s m args below meth c0 H locs cells slots Z la C hW hS hl hend
  exact hend (some (.long x)) S H locs pc la ⟨x, rfl, h⟩ hW hS ⟨hd, hr⟩
theorem r_vret {P : Sg → Prop} (hd : decode μ.2.1 pc = .ok (.return_, 1)) (hr : μ.2.2.2 = none) (h : P S) : Ev G l μ d pc ls [] S (QV P) := by
  intro A p e R s m args below meth c0 H locs cells slots Z la C hW hS hl hend
  exact hend none S H locs pc la ⟨rfl, h⟩ hW hS ⟨hd, hr⟩
theorem Ev.mono {Q' : Option Value → Sg → Prop} (hQ : ∀ v S', Q v S' → Q' v S') (h : Ev G l μ d pc ls st S Q) : Ev G l μ d pc ls st S Q' := by
  intro A p e R s m args below meth c0 H locs cells slots Z la C hW hS hl hend
  exact h C hW hS hl (fun v S' H' locs' pc' la' hq => hend v S' H' locs' pc' la' (hQ v S' hq))
/-- fewer locals known -/
theorem Ev.less {ls' : List (Option Value)} (hs : ∀ (j : Nat) (v : Value), ls'[j]? = some (some v) → ls[j]? = some (some v)) (h : Ev G l μ d pc ls' st S Q) : Ev G l μ d pc ls st S Q := by
  intro A p e R s m args below meth c0 H locs cells slots Z la C hW hS hl hend
  refine h C hW hS (lv_less hl ?_) hend
  rintro ⟨i, w⟩ hq
  obtain ⟨j, v, h1, h2, h3⟩ := (lcs_mem G ls' 0 i w).mp hq
  exact (lcs_mem G ls 0 i w).mpr ⟨j, v, hs j v h1, h2, h3⟩
/-- a call's words -/
def CB (own : String) (idx : Nat) (μ2 : Mt) (n : Nat) : Prop := Cond.methodLink own idx μ2.1 ∈ gtb ∧ Cond.initialized μ2.1.cls ∈ gtb ∧ Cond.code μ2.1 μ2.2.1 μ2.2.2.1 μ2.2.2.2 ∈ gtb ∧ (μ2.1.cls ≠ "java/lang/invoke/MethodHandle" ∧ μ2.1.cls ≠ "java/lang/invoke/VarHandle") ∧ (parseMethodDescriptor μ2.1.desc).map (fun d => d.parameters.length) = some n ∧ μ2.2.2.1 ≤ 80
def CV (own : String) (idx : Nat) (μ2 : Mt) (n : Nat) : Prop := CB own idx μ2 n ∧ Cond.instanceMethod μ2.1 ∈ gtb ∧ Cond.selects μ2.1.cls μ2.1 μ2.1 ∈ gtb
def CS (own : String) (idx : Nat) (μ2 : Mt) (n : Nat) : Prop := CB own idx μ2 n ∧ Cond.static μ2.1 ∈ gtb
theorem callB {A : Nat → Prop} {p : Program} {R : Room} {s : State} {m : MethodId} {args : Array Value} {c0 : Code} {cells slots : Nat} {μ2 : Mt} {idx n d2 : Nat} (C : Cx G μ d A p R s m args c0 cells slots) (cb : CB μ.1.cls idx μ2 n) (hd2 : d2 < d) :
    CallB R s args μ.1.cls idx μ2.1 μ2.2.1 μ2.2.2.1 μ2.2.2.2 (Cond.code μ2.1 μ2.2.1 μ2.2.2.1 μ2.2.2.2 :: gtb) (rmD d2) 0 0 n := by
  obtain ⟨h1, h2, h3, h4, h5, h6⟩ := cb
  have hts := C.2.2.2.2.1
  have hR := C.2.2.2.2.2.1
  refine ⟨rfl, rfl, ?_, ?_, ?_, List.mem_cons_self, hts _ h3, hts _ h2, h4, fun sig h => ?_, hts _ h1⟩
  · show d2 + 1 + 1 ≤ _
    omega
  · show 8 + (_ + 11) + 100 * (d2 + 1) ≤ _
    omega
  · intro w hw
    refine pay_in hts tbl_in w ?_
    rcases List.mem_cons.mp hw with h | h
    · rw [h]; exact h3
    · exact h
  · rw [h] at h5
    exact (Option.some.inj h5).symm
theorem run_call {A : Nat → Prop} {p : Program} {e : Env} {R : Room} {s : State} {m : MethodId} {args a : Array Value} {below : List Frame} {meth : Method} {c : Code} {H : Heap} {locs : List Loc} {cells slots : Nat} {Z : State → Prop} {la : Array Slot} {st0 rest : List Value} {Q2 : Option Value → Sg → Prop}
    (hr : va_Run p l e R s m args below meth c H locs cells slots 0 0 (F0 m pc la st0) rest (QcD G Q2 a) (Aw G)) (hS : va_S A s.heap H locs) (hA : ∀ q, Aw G q → A q)
    (kk : ∀ (v : Option Value) (S' : Sg) (H1 : Heap) (locs1 : List Loc), Q2 v S' → (vL v).map (cv G) = vL v → Wd G S' H1 → va_S A s.heap H1 locs1 → W p l e R s m args below meth c H1 locs1 cells slots Z (F0 m (pc + 3) la (vL v ++ rest))) : W p l e R s m args below meth c H locs cells slots Z (F0 m pc la st0) := by
  intro T hT X
  obtain ⟨v0, st₀, t, T', L, h0, X', hL, e1, e2, ⟨⟨v, S', hv, hq, hw, hvv⟩, hz, hk⟩, stp⟩ := hr T hT X
  cases hv
  rw [h0] at hz hk
  obtain ⟨t2, a1, b1⟩ := kk v0 S' T'.heap (locs ++ L) hq hvv (by rw [e1]; exact hw)
    ⟨Nat.le_trans hS.1 (by rw [e1]; exact hz), fun q h1 h2 => by rw [e1, hk q (Nat.lt_of_lt_of_le h1 hS.1) (fun z => h2 (hA q z))]; exact hS.2.1 q h1 h2, fun q hq => by
      rcases List.mem_append.mp hq with h | h
      · exact hS.2.2 q h
      · exact hA _ (hL q h)⟩ T' rfl X'
  refine ⟨t2, stp t2 ?_, b1⟩
  have hvl : v0.toList = vL v0 := by cases v0 <;> rfl
  rw [hvl]
  exact a1
theorem pre_of {A : Nat → Prop} {p : Program} {R : Room} {s : State} {m : MethodId} {args : Array Value} {c0 : Code} {cells slots : Nat} {H : Heap} {locs : List Loc} (C : Cx G μ d A p R s m args c0 cells slots) (hW : Wd G S H) (hS : va_S A s.heap H locs) (as : List Value) {U : State} (hU : U.heap = H) (hWm : s.WarmedH U.vm) : PcD G as S (as.map (cv G)).toArray U := by
  have hKn := C.2.2.2.2.2.2.2.2.1
  refine ⟨rfl, by rw [hU]; exact hW, C.2.2.2.2.2.2.2.1, ?_⟩
  rw [hU]
  exact Kn.moved hWm.alike ((hKn.kept hS.2.1).narrow C.2.2.2.2.2.2.1)
theorem r_callV {μ2 : Mt} {d2 idx k n : Nat} {as stk : List Value} {Q2 : Option Value → Sg → Prop} (c : Nat) (cw : CV μ.1.cls idx μ2 n) (hd : decode μ.2.1 pc = .ok (.invokevirtual idx, 3)) (hn : as.length = n) (hk : kd k = c) (hc : c < 6) (hcl : cC c = μ2.1.cls) (hok : MtOk μ2 (lg_sl (.ref k :: as)).length) (hd2 : d2 < d) (hst : (st.map fun v => v.category).sum ≤ 8) (hstk : stk = as.reverse ++ .ref k :: st)
    (hm : Ct G l μ2 d2 (.ref k :: as) S Q2) (kk : ∀ v S', Q2 v S' → Ev G l μ d (pc + 3) ls (vL v ++ st) S' Q) : Ev G l μ d pc ls stk S Q := by
  intro A p e R s m args below meth c0 H locs cells slots Z la C hW hS hl hend
  subst hstk
  have hcat : ((st.map (cv G)).map fun v => v.category) = st.map fun v => v.category := by
    rw [List.map_map]
    exact List.map_congr_left (fun v _ => cv_cat G v)
  obtain ⟨hvc, hin, hty, hnm⟩ := cls_ok hc
  have hrecv := va_recv (ci := c) C.2.2.2.2.2.2.2.2.1.1 hW hvc ((wld_at G S (k := k) (kd_lt (by omega))).trans (by rw [ent_obj G S hk hc]))
  refine run_call (va_runV (Ts := gtb) (own := μ.1.cls) (C := μ2.1.cls) (As := as.map (cv G)) (rest := st.map (cv G)) ⟨C.1, C.2.1, C.2.2.1, C.2.2.2.1, C.2.2.2.2.1⟩ (ct_met hok hm) (n := n) ⟨callB C cw.1 hd2, C.2.2.2.2.1 _ cw.2.1, C.2.2.2.2.1 _ cw.2.2⟩ ⟨pcD_blind G _ S, by rw [← hcl]; exact hrecv, fun U hU hWm => pre_of C hW hS (.ref k :: as) hU hWm⟩ rfl (by simpa using hn) hl.1 (by simp [cv]) (lv_room (by rw [hcat]; exact hst)) hd ⟨by have := C.2.2.2.2.2.1; omega, by have := C.2.2.2.2.2.1; omega⟩) hS C.2.2.2.2.2.2.1 ?_
  intro v S' H1 locs1 hq hvv hW1 hS1
  have h1 := kk v S' hq C hW1 hS1 hl hend
  rw [List.map_append, hvv] at h1
  exact h1
theorem r_callS {μ2 : Mt} {d2 idx n : Nat} {as stk : List Value} {Q2 : Option Value → Sg → Prop} (cw : CS μ.1.cls idx μ2 n) (hd : decode μ.2.1 pc = .ok (.invokestatic idx, 3)) (hn : as.length = n) (hok : MtOk μ2 (lg_sl as).length) (hd2 : d2 < d) (hst : (st.map fun v => v.category).sum ≤ 8) (hstk : stk = as.reverse ++ st)
    (hm : Ct G l μ2 d2 as S Q2) (kk : ∀ v S', Q2 v S' → Ev G l μ d (pc + 3) ls (vL v ++ st) S' Q) : Ev G l μ d pc ls stk S Q := by
  intro A p e R s m args below meth c0 H locs cells slots Z la C hW hS hl hend
  subst hstk
  have hcat : ((st.map (cv G)).map fun v => v.category) = st.map fun v => v.category := by
    rw [List.map_map]
    exact List.map_congr_left (fun v _ => cv_cat G v)
  refine run_call (va_runS (Ts := gtb) (own := μ.1.cls) (As := as.map (cv G)) (rest := st.map (cv G)) ⟨C.1, C.2.1, C.2.2.1, C.2.2.2.1, C.2.2.2.2.1⟩ (ct_met hok hm) (n := n) ⟨callB C cw.1 hd2, C.2.2.2.2.1 _ cw.2⟩ ⟨pcD_blind G _ S, fun U hU hWm => pre_of C hW hS as hU hWm⟩ rfl (by simpa using hn) hl.1 (by simp) (lv_room (by rw [hcat]; exact hst)) hd ⟨by have := C.2.2.2.2.2.1; omega, by have := C.2.2.2.2.2.1; omega⟩) hS C.2.2.2.2.2.2.1 ?_
  intro v S' H1 locs1 hq hvv hW1 hS1
  have h1 := kk v S' hq C hW1 hS1 hl hend
  rw [List.map_append, hvv] at h1
  exact h1
/-- a call's value taken up -/
theorem k_I {P : Int32 → Sg → Prop} (h : ∀ x S', P x S' → Ev G l μ d pc ls (.int x :: st) S' Q) : ∀ v S', QI P v S' → Ev G l μ d pc ls (vL v ++ st) S' Q := by
  rintro v S' ⟨x, rfl, hp⟩
  exact h x S' hp
theorem k_L {P : Int64 → Sg → Prop} (h : ∀ x S', P x S' → Ev G l μ d pc ls (.long x :: st) S' Q) : ∀ v S', QL P v S' → Ev G l μ d pc ls (vL v ++ st) S' Q := by
  rintro v S' ⟨x, rfl, hp⟩
  exact h x S' hp
theorem k_V {P : Sg → Prop} (h : ∀ S', P S' → Ev G l μ d pc ls st S' Q) : ∀ v S', QV P v S' → Ev G l μ d pc ls (vL v ++ st) S' Q := by
  rintro v S' ⟨rfl, hp⟩
  exact h S' hp
end mem
end
