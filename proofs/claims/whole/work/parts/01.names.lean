/-- a private method of a class that the tables say can be made, by its rows of tables_1 -/
def lw_okq (q : MethodName × Nat) : Prop := (q.1.cls ≠ "java/lang/invoke/MethodHandle" ∧ q.1.cls ≠ "java/lang/invoke/VarHandle") ∧ Cond.instantiable q.1.cls q.2 ∈ tables_1 ∧ Cond.privateMethod q.1 ∈ tables_1 ∧ Cond.instanceMethod q.1 ∈ tables_1
theorem lw_p0 : lw_okq (⟨"KinGoodsModel", "isParent", "(II)Z"⟩, 30) := ⟨⟨by decide +kernel, by decide +kernel⟩, List.mem_of_getElem? (i := 643) (by decide +kernel), List.mem_of_getElem? (i := 747) (by decide +kernel), List.mem_of_getElem? (i := 748) (by decide +kernel)⟩
theorem lw_p1 : lw_okq (⟨"KinGoodsModel", "isOne", "(I)Z"⟩, 30) := ⟨⟨by decide +kernel, by decide +kernel⟩, List.mem_of_getElem? (i := 643) (by decide +kernel), List.mem_of_getElem? (i := 751) (by decide +kernel), List.mem_of_getElem? (i := 752) (by decide +kernel)⟩
theorem lw_p2 : lw_okq (⟨"KinGoodsModel", "add", "(III)V"⟩, 30) := ⟨⟨by decide +kernel, by decide +kernel⟩, List.mem_of_getElem? (i := 643) (by decide +kernel), List.mem_of_getElem? (i := 755) (by decide +kernel), List.mem_of_getElem? (i := 756) (by decide +kernel)⟩
theorem lw_p3 : lw_okq (⟨"KinGoodsModel", "canMarry", "(II)Z"⟩, 30) := ⟨⟨by decide +kernel, by decide +kernel⟩, List.mem_of_getElem? (i := 643) (by decide +kernel), List.mem_of_getElem? (i := 763) (by decide +kernel), List.mem_of_getElem? (i := 764) (by decide +kernel)⟩
theorem lw_p4 : lw_okq (⟨"KinGoodsModel", "areSiblings", "(II)Z"⟩, 30) := ⟨⟨by decide +kernel, by decide +kernel⟩, List.mem_of_getElem? (i := 643) (by decide +kernel), List.mem_of_getElem? (i := 767) (by decide +kernel), List.mem_of_getElem? (i := 768) (by decide +kernel)⟩
theorem lw_p5 : lw_okq (⟨"KinGoodsModel", "isChild", "(II)Z"⟩, 30) := ⟨⟨by decide +kernel, by decide +kernel⟩, List.mem_of_getElem? (i := 643) (by decide +kernel), List.mem_of_getElem? (i := 774) (by decide +kernel), List.mem_of_getElem? (i := 775) (by decide +kernel)⟩
theorem lw_p6 : lw_okq (⟨"KinGoodsModel", "marryNow", "(II)V"⟩, 30) := ⟨⟨by decide +kernel, by decide +kernel⟩, List.mem_of_getElem? (i := 643) (by decide +kernel), List.mem_of_getElem? (i := 778) (by decide +kernel), List.mem_of_getElem? (i := 779) (by decide +kernel)⟩
theorem lw_p7 : lw_okq (⟨"KinGoodsModel", "houseOf", "(I)I"⟩, 30) := ⟨⟨by decide +kernel, by decide +kernel⟩, List.mem_of_getElem? (i := 643) (by decide +kernel), List.mem_of_getElem? (i := 794) (by decide +kernel), List.mem_of_getElem? (i := 795) (by decide +kernel)⟩
theorem lw_p8 : lw_okq (⟨"KinGoodsModel", "kinOf", "(II)I"⟩, 30) := ⟨⟨by decide +kernel, by decide +kernel⟩, List.mem_of_getElem? (i := 643) (by decide +kernel), List.mem_of_getElem? (i := 803) (by decide +kernel), List.mem_of_getElem? (i := 804) (by decide +kernel)⟩
theorem lw_p9 : lw_okq (⟨"KinGoodsModel", "isRelation", "(III)Z"⟩, 30) := ⟨⟨by decide +kernel, by decide +kernel⟩, List.mem_of_getElem? (i := 643) (by decide +kernel), List.mem_of_getElem? (i := 807) (by decide +kernel), List.mem_of_getElem? (i := 808) (by decide +kernel)⟩
theorem lw_p10 : lw_okq (⟨"KinGoodsModel", "areCousins", "(II)Z"⟩, 30) := ⟨⟨by decide +kernel, by decide +kernel⟩, List.mem_of_getElem? (i := 643) (by decide +kernel), List.mem_of_getElem? (i := 811) (by decide +kernel), List.mem_of_getElem? (i := 812) (by decide +kernel)⟩
theorem lw_p11 : lw_okq (⟨"KinGoodsModel", "isParentsSibling", "(II)Z"⟩, 30) := ⟨⟨by decide +kernel, by decide +kernel⟩, List.mem_of_getElem? (i := 643) (by decide +kernel), List.mem_of_getElem? (i := 815) (by decide +kernel), List.mem_of_getElem? (i := 816) (by decide +kernel)⟩
theorem lw_p12 : lw_okq (⟨"KinGoodsModel", "livesOne", "(I)Z"⟩, 30) := ⟨⟨by decide +kernel, by decide +kernel⟩, List.mem_of_getElem? (i := 643) (by decide +kernel), List.mem_of_getElem? (i := 825) (by decide +kernel), List.mem_of_getElem? (i := 826) (by decide +kernel)⟩
theorem lw_p13 : lw_okq (⟨"KinGoodsModel", "isThing", "(I)Z"⟩, 30) := ⟨⟨by decide +kernel, by decide +kernel⟩, List.mem_of_getElem? (i := 643) (by decide +kernel), List.mem_of_getElem? (i := 836) (by decide +kernel), List.mem_of_getElem? (i := 837) (by decide +kernel)⟩
theorem lw_p14 : lw_okq (⟨"KinGoodsModel", "heirOf", "(II)I"⟩, 30) := ⟨⟨by decide +kernel, by decide +kernel⟩, List.mem_of_getElem? (i := 643) (by decide +kernel), List.mem_of_getElem? (i := 851) (by decide +kernel), List.mem_of_getElem? (i := 852) (by decide +kernel)⟩
theorem lw_p15 : lw_okq (⟨"KinGoodsModel", "readAll", "(II)Z"⟩, 30) := ⟨⟨by decide +kernel, by decide +kernel⟩, List.mem_of_getElem? (i := 643) (by decide +kernel), List.mem_of_getElem? (i := 870) (by decide +kernel), List.mem_of_getElem? (i := 871) (by decide +kernel)⟩
def lw_privs_1 : List (MethodName × Nat) := [(⟨"KinGoodsModel", "isParent", "(II)Z"⟩, 30), (⟨"KinGoodsModel", "isOne", "(I)Z"⟩, 30), (⟨"KinGoodsModel", "add", "(III)V"⟩, 30), (⟨"KinGoodsModel", "canMarry", "(II)Z"⟩, 30), (⟨"KinGoodsModel", "areSiblings", "(II)Z"⟩, 30), (⟨"KinGoodsModel", "isChild", "(II)Z"⟩, 30), (⟨"KinGoodsModel", "marryNow", "(II)V"⟩, 30), (⟨"KinGoodsModel", "houseOf", "(I)I"⟩, 30), (⟨"KinGoodsModel", "kinOf", "(II)I"⟩, 30), (⟨"KinGoodsModel", "isRelation", "(III)Z"⟩, 30), (⟨"KinGoodsModel", "areCousins", "(II)Z"⟩, 30), (⟨"KinGoodsModel", "isParentsSibling", "(II)Z"⟩, 30), (⟨"KinGoodsModel", "livesOne", "(I)Z"⟩, 30), (⟨"KinGoodsModel", "isThing", "(I)Z"⟩, 30), (⟨"KinGoodsModel", "heirOf", "(II)I"⟩, 30), (⟨"KinGoodsModel", "readAll", "(II)Z"⟩, 30)]
theorem lw_r1 : ∀ q ∈ lw_privs_1, lw_okq q := List.forall_mem_cons.mpr ⟨lw_p0, List.forall_mem_cons.mpr ⟨lw_p1, List.forall_mem_cons.mpr ⟨lw_p2, List.forall_mem_cons.mpr ⟨lw_p3, List.forall_mem_cons.mpr ⟨lw_p4, List.forall_mem_cons.mpr ⟨lw_p5, List.forall_mem_cons.mpr ⟨lw_p6, List.forall_mem_cons.mpr ⟨lw_p7, List.forall_mem_cons.mpr ⟨lw_p8, List.forall_mem_cons.mpr ⟨lw_p9, List.forall_mem_cons.mpr ⟨lw_p10, List.forall_mem_cons.mpr ⟨lw_p11, List.forall_mem_cons.mpr ⟨lw_p12, List.forall_mem_cons.mpr ⟨lw_p13, List.forall_mem_cons.mpr ⟨lw_p14, List.forall_mem_cons.mpr ⟨lw_p15, fun _ h => absurd h List.not_mem_nil⟩⟩⟩⟩⟩⟩⟩⟩⟩⟩⟩⟩⟩⟩⟩⟩
theorem lw_p16 : lw_okq (⟨"KinGoodsModel", "readPerson", "(I)Z"⟩, 30) := ⟨⟨by decide +kernel, by decide +kernel⟩, List.mem_of_getElem? (i := 643) (by decide +kernel), List.mem_of_getElem? (i := 874) (by decide +kernel), List.mem_of_getElem? (i := 875) (by decide +kernel)⟩
theorem lw_p17 : lw_okq (⟨"KinGoodsModel", "nextByte", "()I"⟩, 30) := ⟨⟨by decide +kernel, by decide +kernel⟩, List.mem_of_getElem? (i := 643) (by decide +kernel), List.mem_of_getElem? (i := 878) (by decide +kernel), List.mem_of_getElem? (i := 879) (by decide +kernel)⟩
theorem lw_p18 : lw_okq (⟨"KinGoodsModel", "takes", "(I)Z"⟩, 30) := ⟨⟨by decide +kernel, by decide +kernel⟩, List.mem_of_getElem? (i := 643) (by decide +kernel), List.mem_of_getElem? (i := 882) (by decide +kernel), List.mem_of_getElem? (i := 883) (by decide +kernel)⟩
theorem lw_p19 : lw_okq (⟨"KinGoodsModel", "readOne", "(II)I"⟩, 30) := ⟨⟨by decide +kernel, by decide +kernel⟩, List.mem_of_getElem? (i := 643) (by decide +kernel), List.mem_of_getElem? (i := 886) (by decide +kernel), List.mem_of_getElem? (i := 887) (by decide +kernel)⟩
theorem lw_p20 : lw_okq (⟨"KinGoodsModel", "readRule", "(I)Z"⟩, 30) := ⟨⟨by decide +kernel, by decide +kernel⟩, List.mem_of_getElem? (i := 643) (by decide +kernel), List.mem_of_getElem? (i := 890) (by decide +kernel), List.mem_of_getElem? (i := 891) (by decide +kernel)⟩
theorem lw_p21 : lw_okq (⟨"KinGoodsModel", "end", "(Z)I"⟩, 30) := ⟨⟨by decide +kernel, by decide +kernel⟩, List.mem_of_getElem? (i := 643) (by decide +kernel), List.mem_of_getElem? (i := 896) (by decide +kernel), List.mem_of_getElem? (i := 897) (by decide +kernel)⟩
theorem lw_p22 : lw_okq (⟨"KinGoodsModel", "die", "(I)I"⟩, 30) := ⟨⟨by decide +kernel, by decide +kernel⟩, List.mem_of_getElem? (i := 643) (by decide +kernel), List.mem_of_getElem? (i := 912) (by decide +kernel), List.mem_of_getElem? (i := 913) (by decide +kernel)⟩
theorem lw_p23 : lw_okq (⟨"KinGoodsModel", "end1", "(II)V"⟩, 30) := ⟨⟨by decide +kernel, by decide +kernel⟩, List.mem_of_getElem? (i := 643) (by decide +kernel), List.mem_of_getElem? (i := 916) (by decide +kernel), List.mem_of_getElem? (i := 917) (by decide +kernel)⟩
theorem lw_p24 : lw_okq (⟨"KinGoodsModel", "balanceOf", "(I)I"⟩, 30) := ⟨⟨by decide +kernel, by decide +kernel⟩, List.mem_of_getElem? (i := 643) (by decide +kernel), List.mem_of_getElem? (i := 929) (by decide +kernel), List.mem_of_getElem? (i := 930) (by decide +kernel)⟩
theorem lw_p25 : lw_okq (⟨"KinGoodsModel", "allLive", "(I)Z"⟩, 30) := ⟨⟨by decide +kernel, by decide +kernel⟩, List.mem_of_getElem? (i := 643) (by decide +kernel), List.mem_of_getElem? (i := 946) (by decide +kernel), List.mem_of_getElem? (i := 947) (by decide +kernel)⟩
theorem lw_p26 : lw_okq (⟨"KinGoodsModel", "firstOrder", "(I)I"⟩, 30) := ⟨⟨by decide +kernel, by decide +kernel⟩, List.mem_of_getElem? (i := 643) (by decide +kernel), List.mem_of_getElem? (i := 951) (by decide +kernel), List.mem_of_getElem? (i := 952) (by decide +kernel)⟩
theorem lw_p27 : lw_okq (⟨"KinGoodsModel", "keepAside", "()V"⟩, 30) := ⟨⟨by decide +kernel, by decide +kernel⟩, List.mem_of_getElem? (i := 643) (by decide +kernel), List.mem_of_getElem? (i := 955) (by decide +kernel), List.mem_of_getElem? (i := 956) (by decide +kernel)⟩
theorem lw_p28 : lw_okq (⟨"KinGoodsModel", "bringBack", "()V"⟩, 30) := ⟨⟨by decide +kernel, by decide +kernel⟩, List.mem_of_getElem? (i := 643) (by decide +kernel), List.mem_of_getElem? (i := 959) (by decide +kernel), List.mem_of_getElem? (i := 960) (by decide +kernel)⟩
theorem lw_p29 : lw_okq (⟨"KinGoodsModel", "nextOrder", "(I)Z"⟩, 30) := ⟨⟨by decide +kernel, by decide +kernel⟩, List.mem_of_getElem? (i := 643) (by decide +kernel), List.mem_of_getElem? (i := 963) (by decide +kernel), List.mem_of_getElem? (i := 964) (by decide +kernel)⟩
theorem lw_p30 : lw_okq (⟨"KinGoodsModel", "store", "([I)V"⟩, 30) := ⟨⟨by decide +kernel, by decide +kernel⟩, List.mem_of_getElem? (i := 643) (by decide +kernel), List.mem_of_getElem? (i := 971) (by decide +kernel), List.mem_of_getElem? (i := 972) (by decide +kernel)⟩
theorem lw_p31 : lw_okq (⟨"KinGoodsModel", "carried", "(IIZ)I"⟩, 30) := ⟨⟨by decide +kernel, by decide +kernel⟩, List.mem_of_getElem? (i := 643) (by decide +kernel), List.mem_of_getElem? (i := 975) (by decide +kernel), List.mem_of_getElem? (i := 976) (by decide +kernel)⟩
def lw_privs_2 : List (MethodName × Nat) := [(⟨"KinGoodsModel", "readPerson", "(I)Z"⟩, 30), (⟨"KinGoodsModel", "nextByte", "()I"⟩, 30), (⟨"KinGoodsModel", "takes", "(I)Z"⟩, 30), (⟨"KinGoodsModel", "readOne", "(II)I"⟩, 30), (⟨"KinGoodsModel", "readRule", "(I)Z"⟩, 30), (⟨"KinGoodsModel", "end", "(Z)I"⟩, 30), (⟨"KinGoodsModel", "die", "(I)I"⟩, 30), (⟨"KinGoodsModel", "end1", "(II)V"⟩, 30), (⟨"KinGoodsModel", "balanceOf", "(I)I"⟩, 30), (⟨"KinGoodsModel", "allLive", "(I)Z"⟩, 30), (⟨"KinGoodsModel", "firstOrder", "(I)I"⟩, 30), (⟨"KinGoodsModel", "keepAside", "()V"⟩, 30), (⟨"KinGoodsModel", "bringBack", "()V"⟩, 30), (⟨"KinGoodsModel", "nextOrder", "(I)Z"⟩, 30), (⟨"KinGoodsModel", "store", "([I)V"⟩, 30), (⟨"KinGoodsModel", "carried", "(IIZ)I"⟩, 30)]
theorem lw_r2 : ∀ q ∈ lw_privs_2, lw_okq q := List.forall_mem_cons.mpr ⟨lw_p16, List.forall_mem_cons.mpr ⟨lw_p17, List.forall_mem_cons.mpr ⟨lw_p18, List.forall_mem_cons.mpr ⟨lw_p19, List.forall_mem_cons.mpr ⟨lw_p20, List.forall_mem_cons.mpr ⟨lw_p21, List.forall_mem_cons.mpr ⟨lw_p22, List.forall_mem_cons.mpr ⟨lw_p23, List.forall_mem_cons.mpr ⟨lw_p24, List.forall_mem_cons.mpr ⟨lw_p25, List.forall_mem_cons.mpr ⟨lw_p26, List.forall_mem_cons.mpr ⟨lw_p27, List.forall_mem_cons.mpr ⟨lw_p28, List.forall_mem_cons.mpr ⟨lw_p29, List.forall_mem_cons.mpr ⟨lw_p30, List.forall_mem_cons.mpr ⟨lw_p31, fun _ h => absurd h List.not_mem_nil⟩⟩⟩⟩⟩⟩⟩⟩⟩⟩⟩⟩⟩⟩⟩⟩
theorem lw_p32 : lw_okq (⟨"KinGoodsModel", "load", "([I)V"⟩, 30) := ⟨⟨by decide +kernel, by decide +kernel⟩, List.mem_of_getElem? (i := 643) (by decide +kernel), List.mem_of_getElem? (i := 983) (by decide +kernel), List.mem_of_getElem? (i := 984) (by decide +kernel)⟩
theorem lw_p33 : lw_okq (⟨"KinGoodsModel", "areAsNow", "()Z"⟩, 30) := ⟨⟨by decide +kernel, by decide +kernel⟩, List.mem_of_getElem? (i := 643) (by decide +kernel), List.mem_of_getElem? (i := 991) (by decide +kernel), List.mem_of_getElem? (i := 992) (by decide +kernel)⟩
theorem lw_p34 : lw_okq (⟨"KinGoodsModel", "nextDraw", "(I)I"⟩, 30) := ⟨⟨by decide +kernel, by decide +kernel⟩, List.mem_of_getElem? (i := 643) (by decide +kernel), List.mem_of_getElem? (i := 1000) (by decide +kernel), List.mem_of_getElem? (i := 1001) (by decide +kernel)⟩
theorem lw_p35 : lw_okq (⟨"KinGoodsModel", "lacksRow", "(IIII)I"⟩, 30) := ⟨⟨by decide +kernel, by decide +kernel⟩, List.mem_of_getElem? (i := 643) (by decide +kernel), List.mem_of_getElem? (i := 1031) (by decide +kernel), List.mem_of_getElem? (i := 1032) (by decide +kernel)⟩
theorem lw_p36 : lw_okq (⟨"KinGoodsModel", "dieAll", "(II)I"⟩, 30) := ⟨⟨by decide +kernel, by decide +kernel⟩, List.mem_of_getElem? (i := 643) (by decide +kernel), List.mem_of_getElem? (i := 1039) (by decide +kernel), List.mem_of_getElem? (i := 1040) (by decide +kernel)⟩
theorem lw_p37 : lw_okq (⟨"KinGoodsModel", "findWed", "(IIII)I"⟩, 30) := ⟨⟨by decide +kernel, by decide +kernel⟩, List.mem_of_getElem? (i := 643) (by decide +kernel), List.mem_of_getElem? (i := 1048) (by decide +kernel), List.mem_of_getElem? (i := 1049) (by decide +kernel)⟩
theorem lw_p38 : lw_okq (⟨"KinGoodsModel", "brings", "(IIIII)Z"⟩, 30) := ⟨⟨by decide +kernel, by decide +kernel⟩, List.mem_of_getElem? (i := 643) (by decide +kernel), List.mem_of_getElem? (i := 1052) (by decide +kernel), List.mem_of_getElem? (i := 1053) (by decide +kernel)⟩
theorem lw_p39 : lw_okq (⟨"KinGoodsModel", "canPair", "(I)Z"⟩, 30) := ⟨⟨by decide +kernel, by decide +kernel⟩, List.mem_of_getElem? (i := 643) (by decide +kernel), List.mem_of_getElem? (i := 1056) (by decide +kernel), List.mem_of_getElem? (i := 1057) (by decide +kernel)⟩
def lw_privs_3 : List (MethodName × Nat) := [(⟨"KinGoodsModel", "load", "([I)V"⟩, 30), (⟨"KinGoodsModel", "areAsNow", "()Z"⟩, 30), (⟨"KinGoodsModel", "nextDraw", "(I)I"⟩, 30), (⟨"KinGoodsModel", "lacksRow", "(IIII)I"⟩, 30), (⟨"KinGoodsModel", "dieAll", "(II)I"⟩, 30), (⟨"KinGoodsModel", "findWed", "(IIII)I"⟩, 30), (⟨"KinGoodsModel", "brings", "(IIIII)Z"⟩, 30), (⟨"KinGoodsModel", "canPair", "(I)Z"⟩, 30)]
theorem lw_r3 : ∀ q ∈ lw_privs_3, lw_okq q := List.forall_mem_cons.mpr ⟨lw_p32, List.forall_mem_cons.mpr ⟨lw_p33, List.forall_mem_cons.mpr ⟨lw_p34, List.forall_mem_cons.mpr ⟨lw_p35, List.forall_mem_cons.mpr ⟨lw_p36, List.forall_mem_cons.mpr ⟨lw_p37, List.forall_mem_cons.mpr ⟨lw_p38, List.forall_mem_cons.mpr ⟨lw_p39, fun _ h => absurd h List.not_mem_nil⟩⟩⟩⟩⟩⟩⟩⟩
def lw_privs : List (MethodName × Nat) := lw_privs_1 ++ (lw_privs_2 ++ (lw_privs_3))
def lw_tbl : List Cond := k2_sels lw_privs ++ tables_1
theorem lw_privs_ok : ∀ q ∈ lw_privs, lw_okq q := by
  show ∀ q ∈ lw_privs_1 ++ (lw_privs_2 ++ (lw_privs_3)), lw_okq q
  exact List.forall_mem_append.mpr ⟨lw_r1, List.forall_mem_append.mpr ⟨lw_r2, lw_r3⟩⟩
def RX0 : String := "KinGoods$Estate"
def TX0 : u_T := fun k => match k with
  | 0 => ("KinGoods$Estate", "people", "I", false)
  | 1 => ("KinGoods$Estate", "living", "I", false)
  | 2 => ("KinGoods$Estate", "sex", "[I", true)
  | 3 => ("KinGoods$Estate", "father", "[I", true)
  | 4 => ("KinGoods$Estate", "mother", "[I", true)
  | 5 => ("KinGoods$Estate", "spouse", "[I", true)
  | 6 => ("KinGoods$Estate", "godchild", "[I", true)
  | 7 => ("KinGoods$Estate", "things", "I", false)
  | 8 => ("KinGoods$Estate", "kind", "[I", true)
  | 9 => ("KinGoods$Estate", "worth", "[I", true)
  | 10 => ("KinGoods$Estate", "holder", "[I", true)
  | 11 => ("KinGoods$Estate", "other", "[I", true)
  | 12 => ("KinGoods$Estate", "ruleRow", "[I", true)
  | 13 => ("KinGoods$Estate", "ruleLength", "[I", true)
  | _ => ("KinGoods$Estate", "draw", "I", false)
def tyX0 : Nat → FieldType := fun k => match k with
  | 0 => .int
  | 1 => .int
  | 2 => .array .int
  | 3 => .array .int
  | 4 => .array .int
  | 5 => .array .int
  | 6 => .array .int
  | 7 => .int
  | 8 => .array .int
  | 9 => .array .int
  | 10 => .array .int
  | 11 => .array .int
  | 12 => .array .int
  | 13 => .array .int
  | _ => .int
abbrev wsX00 : List Cond := u_ws RX0 TX0 15
theorem nmX0 : ∀ a, a < 15 → ∀ b, b < 15 → a ≠ b → (TX0 a).2.1 ≠ (TX0 b).2.1 := by decide +kernel
theorem tyX0_ok : ∀ k, k < 15 → parseFieldDescriptor (TX0 k).2.2.1 = some (tyX0 k) := by decide +kernel
abbrev cX0_init : ByteArray := prog_2_method_1_code
def yX0_init : MethodName := ⟨RX0, "<init>", "()V"⟩
abbrev cX0_takeFrom : ByteArray := prog_2_method_2_code
def yX0_takeFrom : MethodName := ⟨RX0, "takeFrom", "(LKinGoods$Estate;)V"⟩
abbrev cX0_clear : ByteArray := prog_2_method_3_code
def yX0_clear : MethodName := ⟨RX0, "clear", "()V"⟩
abbrev cX0_known : ByteArray := prog_2_method_4_code
def yX0_known : MethodName := ⟨RX0, "known", "(I)Z"⟩
abbrev cX0_lives : ByteArray := prog_2_method_5_code
def yX0_lives : MethodName := ⟨RX0, "lives", "(I)Z"⟩
abbrev cX0_isOf : ByteArray := prog_2_method_6_code
def yX0_isOf : MethodName := ⟨RX0, "isOf", "(II)Z"⟩
abbrev cX0_isThing : ByteArray := prog_2_method_7_code
def yX0_isThing : MethodName := ⟨RX0, "isThing", "(I)Z"⟩
abbrev cX0_allLive : ByteArray := prog_2_method_8_code
def yX0_allLive : MethodName := ⟨RX0, "allLive", "(I)Z"⟩
abbrev cX0_addPerson : ByteArray := prog_2_method_9_code
def yX0_addPerson : MethodName := ⟨RX0, "addPerson", "(III)I"⟩
abbrev cX0_addThing : ByteArray := prog_2_method_10_code
def yX0_addThing : MethodName := ⟨RX0, "addThing", "(IIII)I"⟩
abbrev cX0_setRule : ByteArray := prog_2_method_11_code
def yX0_setRule : MethodName := ⟨RX0, "setRule", "(III)V"⟩
abbrev cX0_canMarry : ByteArray := prog_2_method_12_code
def yX0_canMarry : MethodName := ⟨RX0, "canMarry", "(II)Z"⟩
abbrev cX0_join : ByteArray := prog_2_method_13_code
def yX0_join : MethodName := ⟨RX0, "join", "(II)Z"⟩
abbrev cX0_houseOf : ByteArray := prog_2_method_14_code
def yX0_houseOf : MethodName := ⟨RX0, "houseOf", "(I)I"⟩
abbrev cX0_isIn : ByteArray := prog_2_method_15_code
def yX0_isIn : MethodName := ⟨RX0, "isIn", "(II)Z"⟩
abbrev cX0_childrenOf : ByteArray := prog_2_method_16_code
def yX0_childrenOf : MethodName := ⟨RX0, "childrenOf", "(I)I"⟩
abbrev cX0_siblingsOf : ByteArray := prog_2_method_17_code
def yX0_siblingsOf : MethodName := ⟨RX0, "siblingsOf", "(I)I"⟩
abbrev cX0_ofSex : ByteArray := prog_2_method_18_code
def yX0_ofSex : MethodName := ⟨RX0, "ofSex", "(II)I"⟩
abbrev cX0_related : ByteArray := prog_2_method_19_code
def yX0_related : MethodName := ⟨RX0, "related", "(II)I"⟩
abbrev cX0_heirBy : ByteArray := prog_2_method_20_code
def yX0_heirBy : MethodName := ⟨RX0, "heirBy", "(II)I"⟩
abbrev cX0_member : ByteArray := prog_2_method_21_code
def yX0_member : MethodName := ⟨RX0, "member", "(II)I"⟩
abbrev cX0_heldBy : ByteArray := prog_2_method_22_code
def yX0_heldBy : MethodName := ⟨RX0, "heldBy", "(I)I"⟩
abbrev cX0_worthOfLands : ByteArray := prog_2_method_23_code
def yX0_worthOfLands : MethodName := ⟨RX0, "worthOfLands", "()I"⟩
abbrev cX0_owedTo : ByteArray := prog_2_method_24_code
def yX0_owedTo : MethodName := ⟨RX0, "owedTo", "(I)I"⟩
abbrev cX0_pass : ByteArray := prog_2_method_25_code
def yX0_pass : MethodName := ⟨RX0, "pass", "(II)V"⟩
abbrev cX0_bury : ByteArray := prog_2_method_26_code
def yX0_bury : MethodName := ⟨RX0, "bury", "(I)V"⟩
abbrev cX0_death : ByteArray := prog_2_method_27_code
def yX0_death : MethodName := ⟨RX0, "death", "(I)V"⟩
abbrev cX0_deaths : ByteArray := prog_2_method_28_code
def yX0_deaths : MethodName := ⟨RX0, "deaths", "([II)V"⟩
abbrev cX0_hasThingsOf : ByteArray := prog_2_method_29_code
def yX0_hasThingsOf : MethodName := ⟨RX0, "hasThingsOf", "(LKinGoods$Estate;)Z"⟩
abbrev cX0_drawn : ByteArray := prog_2_method_30_code
def yX0_drawn : MethodName := ⟨RX0, "drawn", "(I)I"⟩
abbrev cX0_wives : ByteArray := prog_2_method_31_code
def yX0_wives : MethodName := ⟨RX0, "wives", "()I"⟩
abbrev cX0_lot : ByteArray := prog_2_method_32_code
def yX0_lot : MethodName := ⟨RX0, "lot", "()I"⟩
def RX1 : String := "KinGoods$Orders"
def TX1 : u_T := fun k => match k with
  | 0 => ("KinGoods$Orders", "members", "[I", true)
  | 1 => ("KinGoods$Orders", "left", "[I", true)
  | 2 => ("KinGoods$Orders", "row", "[I", true)
  | 3 => ("KinGoods$Orders", "n", "I", false)
  | _ => ("KinGoods$Orders", "total", "I", false)
def tyX1 : Nat → FieldType := fun k => match k with
  | 0 => .array .int
  | 1 => .array .int
  | 2 => .array .int
  | 3 => .int
  | _ => .int
abbrev wsX10 : List Cond := u_ws RX1 TX1 5
theorem nmX1 : ∀ a, a < 5 → ∀ b, b < 5 → a ≠ b → (TX1 a).2.1 ≠ (TX1 b).2.1 := by decide +kernel
theorem tyX1_ok : ∀ k, k < 5 → parseFieldDescriptor (TX1 k).2.2.1 = some (tyX1 k) := by decide +kernel
abbrev cX1_init : ByteArray := prog_3_method_1_code
def yX1_init : MethodName := ⟨RX1, "<init>", "()V"⟩
abbrev cX1_takes : ByteArray := prog_3_method_2_code
def yX1_takes : MethodName := ⟨RX1, "takes", "(I)Z"⟩
abbrev cX1_gather : ByteArray := prog_3_method_3_code
def yX1_gather : MethodName := ⟨RX1, "gather", "(I)V"⟩
abbrev cX1_lay : ByteArray := prog_3_method_4_code
def yX1_lay : MethodName := ⟨RX1, "lay", "(I)V"⟩
def RX2 : String := "KinGoods$Sheets"
def TX2 : u_T := fun k => match k with
  | 0 => ("KinGoods$Sheets", "lanes", "[I", true)
  | 1 => ("KinGoods$Sheets", "sizes", "[I", true)
  | _ => ("KinGoods$Sheets", "items", "[I", true)
def tyX2 : Nat → FieldType := fun k => match k with
  | 0 => .array .int
  | 1 => .array .int
  | _ => .array .int
abbrev wsX20 : List Cond := u_ws RX2 TX2 3
theorem nmX2 : ∀ a, a < 3 → ∀ b, b < 3 → a ≠ b → (TX2 a).2.1 ≠ (TX2 b).2.1 := by decide +kernel
theorem tyX2_ok : ∀ k, k < 3 → parseFieldDescriptor (TX2 k).2.2.1 = some (tyX2 k) := by decide +kernel
abbrev cX2_init : ByteArray := prog_4_method_1_code
def yX2_init : MethodName := ⟨RX2, "<init>", "()V"⟩
abbrev cX2_isSheet : ByteArray := prog_4_method_2_code
def yX2_isSheet : MethodName := ⟨RX2, "isSheet", "(I)Z"⟩
abbrev cX2_isLane : ByteArray := prog_4_method_3_code
def yX2_isLane : MethodName := ⟨RX2, "isLane", "(I)Z"⟩
abbrev cX2_holds : ByteArray := prog_4_method_4_code
def yX2_holds : MethodName := ⟨RX2, "holds", "(I)Z"⟩
abbrev cX2_spans : ByteArray := prog_4_method_5_code
def yX2_spans : MethodName := ⟨RX2, "spans", "(III)Z"⟩
abbrev cX2_look : ByteArray := prog_4_method_6_code
def yX2_look : MethodName := ⟨RX2, "look", "(IIII)I"⟩
abbrev cX2_renew : ByteArray := prog_4_method_7_code
def yX2_renew : MethodName := ⟨RX2, "renew", "(III)V"⟩
abbrev cX2_get : ByteArray := prog_4_method_8_code
def yX2_get : MethodName := ⟨RX2, "get", "(II)I"⟩
abbrev cX2_put : ByteArray := prog_4_method_9_code
def yX2_put : MethodName := ⟨RX2, "put", "(III)V"⟩
abbrev cX2_move : ByteArray := prog_4_method_10_code
def yX2_move : MethodName := ⟨RX2, "move", "(IIIII)V"⟩
def RX3 : String := "KinGoods$Suit"
def TX3 : u_T := fun k => match k with
  | 0 => ("KinGoods$Suit", "then", "LKinGoods$Estate;", true)
  | 1 => ("KinGoods$Suit", "dead", "[I", true)
  | 2 => ("KinGoods$Suit", "n", "I", false)
  | _ => ("KinGoods$Suit", "wedded", "[I", true)
def tyX3 : Nat → FieldType := fun k => match k with
  | 0 => .object "KinGoods$Estate"
  | 1 => .array .int
  | 2 => .int
  | _ => .array .int
abbrev wsX30 : List Cond := u_ws RX3 TX3 4
theorem nmX3 : ∀ a, a < 4 → ∀ b, b < 4 → a ≠ b → (TX3 a).2.1 ≠ (TX3 b).2.1 := by decide +kernel
theorem tyX3_ok : ∀ k, k < 4 → parseFieldDescriptor (TX3 k).2.2.1 = some (tyX3 k) := by decide +kernel
abbrev cX3_init : ByteArray := prog_5_method_1_code
def yX3_init : MethodName := ⟨RX3, "<init>", "()V"⟩
abbrev cX3_tell : ByteArray := prog_5_method_2_code
def yX3_tell : MethodName := ⟨RX3, "tell", "(LKinGoods$Sheets;III)V"⟩
abbrev cX3_firstWhoCannotDie : ByteArray := prog_5_method_3_code
def yX3_firstWhoCannotDie : MethodName := ⟨RX3, "firstWhoCannotDie", "(I)I"⟩
abbrev cX3_fewest : ByteArray := prog_5_method_4_code
def yX3_fewest : MethodName := ⟨RX3, "fewest", "(LKinGoods$Estate;II)I"⟩
abbrev cX3_isPair : ByteArray := prog_5_method_5_code
def yX3_isPair : MethodName := ⟨RX3, "isPair", "(LKinGoods$Estate;I)Z"⟩
abbrev cX3_brings : ByteArray := prog_5_method_6_code
def yX3_brings : MethodName := ⟨RX3, "brings", "(LKinGoods$Estate;IIII)Z"⟩
abbrev cX3_weds : ByteArray := prog_5_method_7_code
def yX3_weds : MethodName := ⟨RX3, "weds", "(II)Z"⟩
def RX4 : String := "KinGoods$Tape"
def TX4 : u_T := fun k => match k with
  | 0 => ("KinGoods$Tape", "bytes", "[I", true)
  | 1 => ("KinGoods$Tape", "length", "I", false)
  | _ => ("KinGoods$Tape", "place", "I", false)
def tyX4 : Nat → FieldType := fun k => match k with
  | 0 => .array .int
  | 1 => .int
  | _ => .int
abbrev wsX40 : List Cond := u_ws RX4 TX4 3
theorem nmX4 : ∀ a, a < 3 → ∀ b, b < 3 → a ≠ b → (TX4 a).2.1 ≠ (TX4 b).2.1 := by decide +kernel
theorem tyX4_ok : ∀ k, k < 3 → parseFieldDescriptor (TX4 k).2.2.1 = some (tyX4 k) := by decide +kernel
abbrev cX4_init : ByteArray := prog_6_method_1_code
def yX4_init : MethodName := ⟨RX4, "<init>", "()V"⟩
abbrev cX4_put : ByteArray := prog_6_method_2_code
def yX4_put : MethodName := ⟨RX4, "put", "(JI)I"⟩
abbrev cX4_byteOf : ByteArray := prog_6_method_3_code
def yX4_byteOf : MethodName := ⟨RX4, "byteOf", "(JI)I"⟩
abbrev cX4_open : ByteArray := prog_6_method_4_code
def yX4_open : MethodName := ⟨RX4, "open", "()V"⟩
abbrev cX4_passBlanks : ByteArray := prog_6_method_5_code
def yX4_passBlanks : MethodName := ⟨RX4, "passBlanks", "()V"⟩
abbrev cX4_step : ByteArray := prog_6_method_6_code
def yX4_step : MethodName := ⟨RX4, "step", "()V"⟩
abbrev cX4_empty : ByteArray := prog_6_method_7_code
def yX4_empty : MethodName := ⟨RX4, "empty", "()V"⟩
abbrev cX4_next : ByteArray := prog_6_method_8_code
def yX4_next : MethodName := ⟨RX4, "next", "()I"⟩
abbrev cX4_skip : ByteArray := prog_6_method_9_code
def yX4_skip : MethodName := ⟨RX4, "skip", "(I)Z"⟩
abbrev cX4_fault : ByteArray := prog_6_method_10_code
def yX4_fault : MethodName := ⟨RX4, "fault", "()I"⟩
abbrev cX4_readPeople : ByteArray := prog_6_method_11_code
def yX4_readPeople : MethodName := ⟨RX4, "readPeople", "(LKinGoods$Estate;)I"⟩
abbrev cX4_readPerson : ByteArray := prog_6_method_12_code
def yX4_readPerson : MethodName := ⟨RX4, "readPerson", "(LKinGoods$Estate;)Z"⟩
abbrev cX4_readFather : ByteArray := prog_6_method_13_code
def yX4_readFather : MethodName := ⟨RX4, "readFather", "(LKinGoods$Estate;I)Z"⟩
abbrev cX4_readMother : ByteArray := prog_6_method_14_code
def yX4_readMother : MethodName := ⟨RX4, "readMother", "(LKinGoods$Estate;I)Z"⟩
abbrev cX4_readSpouse : ByteArray := prog_6_method_15_code
def yX4_readSpouse : MethodName := ⟨RX4, "readSpouse", "(LKinGoods$Estate;I)Z"⟩
abbrev cX4_readRules : ByteArray := prog_6_method_16_code
def yX4_readRules : MethodName := ⟨RX4, "readRules", "(LKinGoods$Estate;)I"⟩
abbrev cX4_kindOf : ByteArray := prog_6_method_17_code
def yX4_kindOf : MethodName := ⟨RX4, "kindOf", "(I)I"⟩
abbrev cX4_readRow : ByteArray := prog_6_method_18_code
def yX4_readRow : MethodName := ⟨RX4, "readRow", "(LKinGoods$Estate;I)Z"⟩
def RX5 : String := "KinGoods"
def TX5 : u_T := fun k => match k with
  | 0 => ("KinGoods", "now", "LKinGoods$Estate;", true)
  | 1 => ("KinGoods", "kept", "LKinGoods$Estate;", true)
  | 2 => ("KinGoods", "trial", "LKinGoods$Estate;", true)
  | 3 => ("KinGoods", "tape", "LKinGoods$Tape;", true)
  | 4 => ("KinGoods", "sheets", "LKinGoods$Sheets;", true)
  | 5 => ("KinGoods", "rows", "LKinGoods$Orders;", true)
  | 6 => ("KinGoods", "suit", "LKinGoods$Suit;", true)
  | _ => ("KinGoods", "imaged", "Z", false)
def tyX5 : Nat → FieldType := fun k => match k with
  | 0 => .object "KinGoods$Estate"
  | 1 => .object "KinGoods$Estate"
  | 2 => .object "KinGoods$Estate"
  | 3 => .object "KinGoods$Tape"
  | 4 => .object "KinGoods$Sheets"
  | 5 => .object "KinGoods$Orders"
  | 6 => .object "KinGoods$Suit"
  | _ => .boolean
abbrev wsX50 : List Cond := u_ws RX5 TX5 8
theorem nmX5 : ∀ a, a < 8 → ∀ b, b < 8 → a ≠ b → (TX5 a).2.1 ≠ (TX5 b).2.1 := by decide +kernel
theorem tyX5_ok : ∀ k, k < 8 → parseFieldDescriptor (TX5 k).2.2.1 = some (tyX5 k) := by decide +kernel
abbrev cX5_init : ByteArray := prog_1_method_1_code
def yX5_init : MethodName := ⟨RX5, "<init>", "()V"⟩
abbrev cX5_person : ByteArray := prog_1_method_2_code
def yX5_person : MethodName := ⟨RX5, "person", "(III)I"⟩
abbrev cX5_marry : ByteArray := prog_1_method_3_code
def yX5_marry : MethodName := ⟨RX5, "marry", "(II)I"⟩
abbrev cX5_adopt : ByteArray := prog_1_method_4_code
def yX5_adopt : MethodName := ⟨RX5, "adopt", "(II)I"⟩
abbrev cX5_god : ByteArray := prog_1_method_5_code
def yX5_god : MethodName := ⟨RX5, "god", "(II)I"⟩
abbrev cX5_told : ByteArray := prog_1_method_6_code
def yX5_told : MethodName := ⟨RX5, "told", "(II)I"⟩
abbrev cX5_kin : ByteArray := prog_1_method_7_code
def yX5_kin : MethodName := ⟨RX5, "kin", "(II)I"⟩
abbrev cX5_thing : ByteArray := prog_1_method_8_code
def yX5_thing : MethodName := ⟨RX5, "thing", "(IIII)I"⟩
abbrev cX5_of : ByteArray := prog_1_method_9_code
def yX5_of : MethodName := ⟨RX5, "of", "(II)I"⟩
abbrev cX5_rule : ByteArray := prog_1_method_10_code
def yX5_rule : MethodName := ⟨RX5, "rule", "(III)I"⟩
abbrev cX5_heir : ByteArray := prog_1_method_11_code
def yX5_heir : MethodName := ⟨RX5, "heir", "(II)I"⟩
abbrev cX5_type : ByteArray := prog_1_method_12_code
def yX5_type : MethodName := ⟨RX5, "type", "(JI)I"⟩
abbrev cX5_family : ByteArray := prog_1_method_13_code
def yX5_family : MethodName := ⟨RX5, "family", "()I"⟩
abbrev cX5_rules : ByteArray := prog_1_method_14_code
def yX5_rules : MethodName := ⟨RX5, "rules", "()I"⟩
abbrev cX5_count : ByteArray := prog_1_method_15_code
def yX5_count : MethodName := ⟨RX5, "count", "(I)I"⟩
abbrev cX5_dies : ByteArray := prog_1_method_16_code
def yX5_dies : MethodName := ⟨RX5, "dies", "(I)I"⟩
abbrev cX5_gathers : ByteArray := prog_1_method_17_code
def yX5_gathers : MethodName := ⟨RX5, "gathers", "(II)I"⟩
abbrev cX5_balance : ByteArray := prog_1_method_18_code
def yX5_balance : MethodName := ⟨RX5, "balance", "(I)I"⟩
abbrev cX5_paid : ByteArray := prog_1_method_19_code
def yX5_paid : MethodName := ⟨RX5, "paid", "()I"⟩
abbrev cX5_orders : ByteArray := prog_1_method_20_code
def yX5_orders : MethodName := ⟨RX5, "orders", "(III)I"⟩
abbrev cX5_explained : ByteArray := prog_1_method_21_code
def yX5_explained : MethodName := ⟨RX5, "explained", "(I)I"⟩
abbrev cX5_lots : ByteArray := prog_1_method_22_code
def yX5_lots : MethodName := ⟨RX5, "lots", "(I)I"⟩
abbrev cX5_seed : ByteArray := prog_1_method_23_code
def yX5_seed : MethodName := ⟨RX5, "seed", "(I)I"⟩
abbrev cX5_image : ByteArray := prog_1_method_24_code
def yX5_image : MethodName := ⟨RX5, "image", "()I"⟩
abbrev cX5_restore : ByteArray := prog_1_method_25_code
def yX5_restore : MethodName := ⟨RX5, "restore", "()I"⟩
abbrev cX5_judged : ByteArray := prog_1_method_26_code
def yX5_judged : MethodName := ⟨RX5, "judged", "(IIII)I"⟩
abbrev cX5_wed : ByteArray := prog_1_method_27_code
def yX5_wed : MethodName := ⟨RX5, "wed", "(IIIIIII)I"⟩
abbrev cX5_film : ByteArray := prog_1_method_28_code
def yX5_film : MethodName := ⟨RX5, "film", "(III)I"⟩
abbrev cX5_sheet : ByteArray := prog_1_method_29_code
def yX5_sheet : MethodName := ⟨RX5, "sheet", "(III)I"⟩
abbrev cX5_drop : ByteArray := prog_1_method_30_code
def yX5_drop : MethodName := ⟨RX5, "drop", "(I)I"⟩
abbrev cX5_item : ByteArray := prog_1_method_31_code
def yX5_item : MethodName := ⟨RX5, "item", "(IIII)I"⟩
abbrev cX5_copy : ByteArray := prog_1_method_32_code
def yX5_copy : MethodName := ⟨RX5, "copy", "(IIIII)I"⟩
abbrev cX5_has : ByteArray := prog_1_method_33_code
def yX5_has : MethodName := ⟨RX5, "has", "(II)Z"⟩
abbrev cX5_isKind : ByteArray := prog_1_method_34_code
def yX5_isKind : MethodName := ⟨RX5, "isKind", "(I)Z"⟩
abbrev cX5_hasOtherSide : ByteArray := prog_1_method_35_code
def yX5_hasOtherSide : MethodName := ⟨RX5, "hasOtherSide", "(I)Z"⟩
abbrev cX5_isRow : ByteArray := prog_1_method_36_code
def yX5_isRow : MethodName := ⟨RX5, "isRow", "(II)Z"⟩
def RX6 : String := "KinGoodsModel"
def TX6 : u_T := fun k => match k with
  | 0 => ("KinGoodsModel", "sexes", "[I", true)
  | 1 => ("KinGoodsModel", "fathers", "[I", true)
  | 2 => ("KinGoodsModel", "mothers", "[I", true)
  | 3 => ("KinGoodsModel", "spouses", "[I", true)
  | 4 => ("KinGoodsModel", "gods", "[I", true)
  | 5 => ("KinGoodsModel", "lives", "[I", true)
  | 6 => ("KinGoodsModel", "people", "I", false)
  | 7 => ("KinGoodsModel", "kinds", "[I", true)
  | 8 => ("KinGoodsModel", "worths", "[I", true)
  | 9 => ("KinGoodsModel", "holders", "[I", true)
  | 10 => ("KinGoodsModel", "others", "[I", true)
  | 11 => ("KinGoodsModel", "things", "I", false)
  | 12 => ("KinGoodsModel", "ruleRows", "[I", true)
  | 13 => ("KinGoodsModel", "ruleSizes", "[I", true)
  | 14 => ("KinGoodsModel", "drawn", "I", false)
  | 15 => ("KinGoodsModel", "tape", "[I", true)
  | 16 => ("KinGoodsModel", "taped", "I", false)
  | 17 => ("KinGoodsModel", "place", "I", false)
  | 18 => ("KinGoodsModel", "reads", "I", false)
  | 19 => ("KinGoodsModel", "read", "[I", true)
  | 20 => ("KinGoodsModel", "aside", "[I", true)
  | 21 => ("KinGoodsModel", "order", "[I", true)
  | 22 => ("KinGoodsModel", "isKept", "Z", false)
  | 23 => ("KinGoodsModel", "kept", "[I", true)
  | 24 => ("KinGoodsModel", "present", "[I", true)
  | 25 => ("KinGoodsModel", "lanes", "[I", true)
  | 26 => ("KinGoodsModel", "rowSizes", "[I", true)
  | 27 => ("KinGoodsModel", "items", "[I", true)
  | 28 => ("KinGoodsModel", "pairs", "[I", true)
  | _ => ("KinGoodsModel", "moved", "[I", true)
def tyX6 : Nat → FieldType := fun k => match k with
  | 0 => .array .int
  | 1 => .array .int
  | 2 => .array .int
  | 3 => .array .int
  | 4 => .array .int
  | 5 => .array .int
  | 6 => .int
  | 7 => .array .int
  | 8 => .array .int
  | 9 => .array .int
  | 10 => .array .int
  | 11 => .int
  | 12 => .array .int
  | 13 => .array .int
  | 14 => .int
  | 15 => .array .int
  | 16 => .int
  | 17 => .int
  | 18 => .int
  | 19 => .array .int
  | 20 => .array .int
  | 21 => .array .int
  | 22 => .boolean
  | 23 => .array .int
  | 24 => .array .int
  | 25 => .array .int
  | 26 => .array .int
  | 27 => .array .int
  | 28 => .array .int
  | _ => .array .int
abbrev wsX60 : List Cond := u_ws RX6 TX6 30
theorem nmX6 : ∀ a, a < 30 → ∀ b, b < 30 → a ≠ b → (TX6 a).2.1 ≠ (TX6 b).2.1 := by decide +kernel
theorem tyX6_ok : ∀ k, k < 30 → parseFieldDescriptor (TX6 k).2.2.1 = some (tyX6 k) := by decide +kernel
abbrev cX6_init : ByteArray := prog_8_method_1_code
def yX6_init : MethodName := ⟨RX6, "<init>", "()V"⟩
abbrev cX6_in : ByteArray := prog_8_method_2_code
def yX6_in : MethodName := ⟨RX6, "in", "(JJJ)Z"⟩
abbrev cX6_has : ByteArray := prog_8_method_3_code
def yX6_has : MethodName := ⟨RX6, "has", "(II)Z"⟩
abbrev cX6_ones : ByteArray := prog_8_method_4_code
def yX6_ones : MethodName := ⟨RX6, "ones", "(I)I"⟩
abbrev cX6_isOne : ByteArray := prog_8_method_5_code
def yX6_isOne : MethodName := ⟨RX6, "isOne", "(I)Z"⟩
abbrev cX6_isThing : ByteArray := prog_8_method_6_code
def yX6_isThing : MethodName := ⟨RX6, "isThing", "(I)Z"⟩
abbrev cX6_livesOne : ByteArray := prog_8_method_7_code
def yX6_livesOne : MethodName := ⟨RX6, "livesOne", "(I)Z"⟩
abbrev cX6_add : ByteArray := prog_8_method_8_code
def yX6_add : MethodName := ⟨RX6, "add", "(III)V"⟩
abbrev cX6_isParent : ByteArray := prog_8_method_9_code
def yX6_isParent : MethodName := ⟨RX6, "isParent", "(II)Z"⟩
abbrev cX6_person : ByteArray := prog_8_method_10_code
def yX6_person : MethodName := ⟨RX6, "person", "(III)I"⟩
abbrev cX6_areAlike : ByteArray := prog_8_method_11_code
def yX6_areAlike : MethodName := ⟨RX6, "areAlike", "(II)Z"⟩
abbrev cX6_areSiblings : ByteArray := prog_8_method_12_code
def yX6_areSiblings : MethodName := ⟨RX6, "areSiblings", "(II)Z"⟩
abbrev cX6_isChild : ByteArray := prog_8_method_13_code
def yX6_isChild : MethodName := ⟨RX6, "isChild", "(II)Z"⟩
abbrev cX6_canMarry : ByteArray := prog_8_method_14_code
def yX6_canMarry : MethodName := ⟨RX6, "canMarry", "(II)Z"⟩
abbrev cX6_marryNow : ByteArray := prog_8_method_15_code
def yX6_marryNow : MethodName := ⟨RX6, "marryNow", "(II)V"⟩
abbrev cX6_marry : ByteArray := prog_8_method_16_code
def yX6_marry : MethodName := ⟨RX6, "marry", "(II)I"⟩
abbrev cX6_adopt : ByteArray := prog_8_method_17_code
def yX6_adopt : MethodName := ⟨RX6, "adopt", "(II)I"⟩
abbrev cX6_god : ByteArray := prog_8_method_18_code
def yX6_god : MethodName := ⟨RX6, "god", "(II)I"⟩
abbrev cX6_houseOf : ByteArray := prog_8_method_19_code
def yX6_houseOf : MethodName := ⟨RX6, "houseOf", "(I)I"⟩
abbrev cX6_told : ByteArray := prog_8_method_20_code
def yX6_told : MethodName := ⟨RX6, "told", "(II)I"⟩
abbrev cX6_isParentsSibling : ByteArray := prog_8_method_21_code
def yX6_isParentsSibling : MethodName := ⟨RX6, "isParentsSibling", "(II)Z"⟩
abbrev cX6_areCousins : ByteArray := prog_8_method_22_code
def yX6_areCousins : MethodName := ⟨RX6, "areCousins", "(II)Z"⟩
abbrev cX6_isRelation : ByteArray := prog_8_method_23_code
def yX6_isRelation : MethodName := ⟨RX6, "isRelation", "(III)Z"⟩
abbrev cX6_kinOf : ByteArray := prog_8_method_24_code
def yX6_kinOf : MethodName := ⟨RX6, "kinOf", "(II)I"⟩
abbrev cX6_kin : ByteArray := prog_8_method_25_code
def yX6_kin : MethodName := ⟨RX6, "kin", "(II)I"⟩
abbrev cX6_hasOther : ByteArray := prog_8_method_26_code
def yX6_hasOther : MethodName := ⟨RX6, "hasOther", "(I)Z"⟩
abbrev cX6_thing : ByteArray := prog_8_method_27_code
def yX6_thing : MethodName := ⟨RX6, "thing", "(IIII)I"⟩
abbrev cX6_of : ByteArray := prog_8_method_28_code
def yX6_of : MethodName := ⟨RX6, "of", "(II)I"⟩
abbrev cX6_rule : ByteArray := prog_8_method_29_code
def yX6_rule : MethodName := ⟨RX6, "rule", "(III)I"⟩
abbrev cX6_heirOf : ByteArray := prog_8_method_30_code
def yX6_heirOf : MethodName := ⟨RX6, "heirOf", "(II)I"⟩
abbrev cX6_heir : ByteArray := prog_8_method_31_code
def yX6_heir : MethodName := ⟨RX6, "heir", "(II)I"⟩
abbrev cX6_type : ByteArray := prog_8_method_32_code
def yX6_type : MethodName := ⟨RX6, "type", "(JI)I"⟩
abbrev cX6_nextByte : ByteArray := prog_8_method_33_code
def yX6_nextByte : MethodName := ⟨RX6, "nextByte", "()I"⟩
abbrev cX6_takes : ByteArray := prog_8_method_34_code
def yX6_takes : MethodName := ⟨RX6, "takes", "(I)Z"⟩
abbrev cX6_readOne : ByteArray := prog_8_method_35_code
def yX6_readOne : MethodName := ⟨RX6, "readOne", "(II)I"⟩
abbrev cX6_readPerson : ByteArray := prog_8_method_36_code
def yX6_readPerson : MethodName := ⟨RX6, "readPerson", "(I)Z"⟩
abbrev cX6_readRule : ByteArray := prog_8_method_37_code
def yX6_readRule : MethodName := ⟨RX6, "readRule", "(I)Z"⟩
abbrev cX6_readAll : ByteArray := prog_8_method_38_code
def yX6_readAll : MethodName := ⟨RX6, "readAll", "(II)Z"⟩
abbrev cX6_end : ByteArray := prog_8_method_39_code
def yX6_end : MethodName := ⟨RX6, "end", "(Z)I"⟩
abbrev cX6_family : ByteArray := prog_8_method_40_code
def yX6_family : MethodName := ⟨RX6, "family", "()I"⟩
abbrev cX6_rules : ByteArray := prog_8_method_41_code
def yX6_rules : MethodName := ⟨RX6, "rules", "()I"⟩
abbrev cX6_count : ByteArray := prog_8_method_42_code
def yX6_count : MethodName := ⟨RX6, "count", "(I)I"⟩
abbrev cX6_end1 : ByteArray := prog_8_method_43_code
def yX6_end1 : MethodName := ⟨RX6, "end1", "(II)V"⟩
abbrev cX6_die : ByteArray := prog_8_method_44_code
def yX6_die : MethodName := ⟨RX6, "die", "(I)I"⟩
abbrev cX6_dies : ByteArray := prog_8_method_45_code
def yX6_dies : MethodName := ⟨RX6, "dies", "(I)I"⟩
abbrev cX6_gathers : ByteArray := prog_8_method_46_code
def yX6_gathers : MethodName := ⟨RX6, "gathers", "(II)I"⟩
abbrev cX6_balanceOf : ByteArray := prog_8_method_47_code
def yX6_balanceOf : MethodName := ⟨RX6, "balanceOf", "(I)I"⟩
abbrev cX6_balance : ByteArray := prog_8_method_48_code
def yX6_balance : MethodName := ⟨RX6, "balance", "(I)I"⟩
abbrev cX6_paid : ByteArray := prog_8_method_49_code
def yX6_paid : MethodName := ⟨RX6, "paid", "()I"⟩
abbrev cX6_keepAside : ByteArray := prog_8_method_50_code
def yX6_keepAside : MethodName := ⟨RX6, "keepAside", "()V"⟩
abbrev cX6_bringBack : ByteArray := prog_8_method_51_code
def yX6_bringBack : MethodName := ⟨RX6, "bringBack", "()V"⟩
abbrev cX6_nextOrder : ByteArray := prog_8_method_52_code
def yX6_nextOrder : MethodName := ⟨RX6, "nextOrder", "(I)Z"⟩
abbrev cX6_firstOrder : ByteArray := prog_8_method_53_code
def yX6_firstOrder : MethodName := ⟨RX6, "firstOrder", "(I)I"⟩
abbrev cX6_allLive : ByteArray := prog_8_method_54_code
def yX6_allLive : MethodName := ⟨RX6, "allLive", "(I)Z"⟩
abbrev cX6_isFew : ByteArray := prog_8_method_55_code
def yX6_isFew : MethodName := ⟨RX6, "isFew", "(I)Z"⟩
abbrev cX6_orders : ByteArray := prog_8_method_56_code
def yX6_orders : MethodName := ⟨RX6, "orders", "(III)I"⟩
abbrev cX6_carried : ByteArray := prog_8_method_57_code
def yX6_carried : MethodName := ⟨RX6, "carried", "(IIZ)I"⟩
abbrev cX6_store : ByteArray := prog_8_method_58_code
def yX6_store : MethodName := ⟨RX6, "store", "([I)V"⟩
abbrev cX6_load : ByteArray := prog_8_method_59_code
def yX6_load : MethodName := ⟨RX6, "load", "([I)V"⟩
abbrev cX6_image : ByteArray := prog_8_method_60_code
def yX6_image : MethodName := ⟨RX6, "image", "()I"⟩
abbrev cX6_restore : ByteArray := prog_8_method_61_code
def yX6_restore : MethodName := ⟨RX6, "restore", "()I"⟩
abbrev cX6_areAsNow : ByteArray := prog_8_method_62_code
def yX6_areAsNow : MethodName := ⟨RX6, "areAsNow", "()Z"⟩
abbrev cX6_explained : ByteArray := prog_8_method_63_code
def yX6_explained : MethodName := ⟨RX6, "explained", "(I)I"⟩
abbrev cX6_nextDraw : ByteArray := prog_8_method_64_code
def yX6_nextDraw : MethodName := ⟨RX6, "nextDraw", "(I)I"⟩
abbrev cX6_nth : ByteArray := prog_8_method_65_code
def yX6_nth : MethodName := ⟨RX6, "nth", "(II)I"⟩
abbrev cX6_lots : ByteArray := prog_8_method_66_code
def yX6_lots : MethodName := ⟨RX6, "lots", "(I)I"⟩
abbrev cX6_seed : ByteArray := prog_8_method_67_code
def yX6_seed : MethodName := ⟨RX6, "seed", "(I)I"⟩
abbrev cX6_isSheet : ByteArray := prog_8_method_68_code
def yX6_isSheet : MethodName := ⟨RX6, "isSheet", "(II)Z"⟩
abbrev cX6_sheet : ByteArray := prog_8_method_69_code
def yX6_sheet : MethodName := ⟨RX6, "sheet", "(III)I"⟩
abbrev cX6_drop : ByteArray := prog_8_method_70_code
def yX6_drop : MethodName := ⟨RX6, "drop", "(I)I"⟩
abbrev cX6_lacksRow : ByteArray := prog_8_method_71_code
def yX6_lacksRow : MethodName := ⟨RX6, "lacksRow", "(IIII)I"⟩
abbrev cX6_item : ByteArray := prog_8_method_72_code
def yX6_item : MethodName := ⟨RX6, "item", "(IIII)I"⟩
abbrev cX6_dieAll : ByteArray := prog_8_method_73_code
def yX6_dieAll : MethodName := ⟨RX6, "dieAll", "(II)I"⟩
abbrev cX6_judged : ByteArray := prog_8_method_74_code
def yX6_judged : MethodName := ⟨RX6, "judged", "(IIII)I"⟩
abbrev cX6_canPair : ByteArray := prog_8_method_75_code
def yX6_canPair : MethodName := ⟨RX6, "canPair", "(I)Z"⟩
abbrev cX6_brings : ByteArray := prog_8_method_76_code
def yX6_brings : MethodName := ⟨RX6, "brings", "(IIIII)Z"⟩
abbrev cX6_findWed : ByteArray := prog_8_method_77_code
def yX6_findWed : MethodName := ⟨RX6, "findWed", "(IIII)I"⟩
abbrev cX6_wed : ByteArray := prog_8_method_78_code
def yX6_wed : MethodName := ⟨RX6, "wed", "(IIIIIII)I"⟩
abbrev cX6_film : ByteArray := prog_8_method_79_code
def yX6_film : MethodName := ⟨RX6, "film", "(III)I"⟩
abbrev cX6_copy : ByteArray := prog_8_method_80_code
def yX6_copy : MethodName := ⟨RX6, "copy", "(IIIII)I"⟩
def RJ6 : String := "java/lang/Integer"
def TJ6 : u_T := fun k => match k with
  | _ => ("", "", "", false)
def tyJ6 : Nat → FieldType := fun k => match k with
  | _ => .int
abbrev wsJ60 : List Cond := u_ws RJ6 TJ6 0
theorem nmJ6 : ∀ a, a < 0 → ∀ b, b < 0 → a ≠ b → (TJ6 a).2.1 ≠ (TJ6 b).2.1 := by decide +kernel
theorem tyJ6_ok : ∀ k, k < 0 → parseFieldDescriptor (TJ6 k).2.2.1 = some (tyJ6 k) := by decide +kernel
abbrev cJ6_bitCount_0f7a4 : ByteArray := prog_9_method_49_code
def yJ6_bitCount_0f7a4 : MethodName := ⟨RJ6, "bitCount", "(I)I"⟩
def RJ9 : String := "java/lang/Math"
def TJ9 : u_T := fun k => match k with
  | _ => ("", "", "", false)
def tyJ9 : Nat → FieldType := fun k => match k with
  | _ => .int
abbrev wsJ90 : List Cond := u_ws RJ9 TJ9 0
theorem nmJ9 : ∀ a, a < 0 → ∀ b, b < 0 → a ≠ b → (TJ9 a).2.1 ≠ (TJ9 b).2.1 := by decide +kernel
theorem tyJ9_ok : ∀ k, k < 0 → parseFieldDescriptor (TJ9 k).2.2.1 = some (tyJ9 k) := by decide +kernel
abbrev cJ9_max_7cf53 : ByteArray := prog_10_method_65_code
def yJ9_max_7cf53 : MethodName := ⟨RJ9, "max", "(II)I"⟩
def RJ10 : String := "java/lang/System"
def TJ10 : u_T := fun k => match k with
  | _ => ("", "", "", false)
def tyJ10 : Nat → FieldType := fun k => match k with
  | _ => .int
abbrev wsJ100 : List Cond := u_ws RJ10 TJ10 0
theorem nmJ10 : ∀ a, a < 0 → ∀ b, b < 0 → a ≠ b → (TJ10 a).2.1 ≠ (TJ10 b).2.1 := by decide +kernel
theorem tyJ10_ok : ∀ k, k < 0 → parseFieldDescriptor (TJ10 k).2.2.1 = some (tyJ10 k) := by decide +kernel
def RL : String := "KinGoodsLaw"
abbrev cL_law : ByteArray := code
def yL_law : MethodName := ⟨RL, "law", "([I)Z"⟩
abbrev vwCl : List vw_C := [(RX0, TX0, 15), (RX1, TX1, 5), (RX2, TX2, 3), (RX3, TX3, 4), (RX4, TX4, 3), (RX5, TX5, 8), (RX6, TX6, 30)]
theorem in_X0 : ∀ w ∈ wsX00, w ∈ lw_tbl := by decide +kernel
theorem ig_X0 : ∀ w ∈ wsX00, goodWord w = true := by decide +kernel
theorem in_X1 : ∀ w ∈ wsX10, w ∈ lw_tbl := by decide +kernel
theorem ig_X1 : ∀ w ∈ wsX10, goodWord w = true := by decide +kernel
theorem in_X2 : ∀ w ∈ wsX20, w ∈ lw_tbl := by decide +kernel
theorem ig_X2 : ∀ w ∈ wsX20, goodWord w = true := by decide +kernel
theorem in_X3 : ∀ w ∈ wsX30, w ∈ lw_tbl := by decide +kernel
theorem ig_X3 : ∀ w ∈ wsX30, goodWord w = true := by decide +kernel
theorem in_X4 : ∀ w ∈ wsX40, w ∈ lw_tbl := by decide +kernel
theorem ig_X4 : ∀ w ∈ wsX40, goodWord w = true := by decide +kernel
theorem in_X5 : ∀ w ∈ wsX50, w ∈ lw_tbl := by decide +kernel
theorem ig_X5 : ∀ w ∈ wsX50, goodWord w = true := by decide +kernel
theorem in_X6 : ∀ w ∈ wsX60, w ∈ lw_tbl := by decide +kernel
theorem ig_X6 : ∀ w ∈ wsX60, goodWord w = true := by decide +kernel
