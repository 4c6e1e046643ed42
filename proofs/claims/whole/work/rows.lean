section
/-- a private method of a class that the tables say can be made, by its rows of tables_1 -/
def lw_okq (q : MethodName × Nat) : Prop := (q.1.cls ≠ "java/lang/invoke/MethodHandle" ∧ q.1.cls ≠ "java/lang/invoke/VarHandle") ∧ Cond.instantiable q.1.cls q.2 ∈ tables_1 ∧ Cond.privateMethod q.1 ∈ tables_1 ∧ Cond.instanceMethod q.1 ∈ tables_1
theorem lw_p0 : lw_okq (⟨"KinGoodsModel", "isParent", "(II)Z"⟩, 30) := ⟨⟨by decide +kernel, by decide +kernel⟩, List.mem_of_getElem? (i := 643) (by decide +kernel), List.mem_of_getElem? (i := 747) (by decide +kernel), List.mem_of_getElem? (i := 748) (by decide +kernel)⟩
theorem lw_p1 : lw_okq (⟨"KinGoodsModel", "isOne", "(I)Z"⟩, 30) := ⟨⟨by decide +kernel, by decide +kernel⟩, List.mem_of_getElem? (i := 643) (by decide +kernel), List.mem_of_getElem? (i := 751) (by decide +kernel), List.mem_of_getElem? (i := 752) (by decide +kernel)⟩
theorem lw_p2 : lw_okq (⟨"KinGoodsModel", "add", "(III)V"⟩, 30) := ⟨⟨by decide +kernel, by decide +kernel⟩, List.mem_of_getElem? (i := 643) (by decide +kernel), List.mem_of_getElem? (i := 755) (by decide +kernel), List.mem_of_getElem? (i := 756) (by decide +kernel)⟩
theorem lw_p3 : lw_okq (⟨"KinGoodsModel", "canMarry", "(II)Z"⟩, 30) := ⟨⟨by decide +kernel, by decide +kernel⟩, List.mem_of_getElem? (i := 643) (by decide +kernel), List.mem_of_getElem? (i := 763) (by decide +kernel), List.mem_of_getElem? (i := 764) (by decide +kernel)⟩
theorem lw_p4 : lw_okq (⟨"KinGoodsModel", "areSiblings", "(II)Z"⟩, 30) := ⟨⟨by decide +kernel, by decide +kernel⟩, List.mem_of_getElem? (i := 643) (by decide +kernel), List.mem_of_getElem? (i := 767) (by decide +kernel), List.mem_of_getElem? (i := 768) (by decide +kernel)⟩
theorem lw_p5 : lw_okq (⟨"KinGoodsModel", "isChild", "(II)Z"⟩, 30) := ⟨⟨by decide +kernel, by decide +kernel⟩, List.mem_of_getElem? (i := 643) (by decide +kernel), List.mem_of_getElem? (i := 774) (by decide +kernel), List.mem_of_getElem? (i := 775) (by decide +kernel)⟩
theorem lw_p6 : lw_okq (⟨"KinGoodsModel", "marryNow", "(II)V"⟩, 30) := ⟨⟨by decide +kernel, by decide +kernel⟩, List.mem_of_getElem? (i := 643) (by decide +kernel), List.mem_of_getElem? (i := 778) (by decide +kernel), List.mem_of_getElem? (i := 779) (by decide +kernel)⟩
theorem lw_p7 : lw_okq (⟨"KinGoodsModel", "houseOf", "(I)I"⟩, 30) := ⟨⟨by decide +kernel, by decide +kernel⟩, List.mem_of_getElem? (i := 643) (by decide +kernel), List.mem_of_getElem? (i := 794) (by decide +kernel), List.mem_of_getElem? (i := 795) (by decide +kernel)⟩
theorem lw_p8 : lw_okq (⟨"KinGoodsModel", "kinOf", "(II)I"⟩, 30) := ⟨⟨by decide +kernel, by decide +kernel⟩, List.mem_of_getElem? (i := 643) (by decide +kernel), List.mem_of_getElem? (i := 803) (by decide +kernel), List.mem_of_getElem? (i := 804) (by decide +kernel)⟩
theorem lw_p9 : lw_okq (⟨"KinGoodsModel", "isRelation", "(III)Z"⟩, 30) := ⟨⟨by decide +kernel, by decide +kernel⟩, List.mem_of_getElem? (i := 643) (by decide +kernel), List.mem_of_getElem? (i := 807) (by decide +kernel), List.mem_of_getElem? (i := 808) (by decide +kernel)⟩
theorem lw_p10 : lw_okq (⟨"KinGoodsModel", "areCousins", "(II)Z"⟩, 30) := ⟨⟨by decide +kernel, by decide +kernel⟩, List.mem_of_getElem? (i := 643) (by decide +kernel), List.mem_of_getElem? (i := 811) (by decide +kernel), List.mem_of_getElem? (i := 812) (by decide +kernel)⟩
theorem lw_p11 : lw_okq (⟨"KinGoodsModel", "isParentsSibling", "(II)Z"⟩, 30) := ⟨⟨by decide +kernel, by decide +kernel⟩, List.mem_of_getElem? (i := 643) (by decide +kernel), List.mem_of_getElem? (i := 815) (by decide +kernel), List.mem_of_getElem? (i := 816) (by decide +kernel)⟩
theorem lw_p12 : lw_okq (⟨"KinGoodsModel", "livesOne", "(I)Z"⟩, 30) := ⟨⟨by decide +kernel, by decide +kernel⟩, List.mem_of_getElem? (i := 643) (by decide +kernel), List.mem_of_getElem? (i := 825) (by decide +kernel), List.mem_of_getElem? (i := 826) (by decide +kernel)⟩
theorem lw_p13 : lw_okq (⟨"KinGoodsModel", "isThing", "(I)Z"⟩, 30) := ⟨⟨by decide +kernel, by decide +kernel⟩, List.mem_of_getElem? (i := 643) (by decide +kernel), List.mem_of_getElem? (i := 836) (by decide +kernel), List.mem_of_getElem? (i := 837) (by decide +kernel)⟩
theorem lw_p14 : lw_okq (⟨"KinGoodsModel", "heirOf", "(II)I"⟩, 30) := ⟨⟨by decide +kernel, by decide +kernel⟩, List.mem_of_getElem? (i := 643) (by decide +kernel), List.mem_of_getElem? (i := 851) (by decide +kernel), List.mem_of_getElem? (i := 852) (by decide +kernel)⟩
theorem lw_p15 : lw_okq (⟨"KinGoodsModel", "readAll", "(II)Z"⟩, 30) := ⟨⟨by decide +kernel, by decide +kernel⟩, List.mem_of_getElem? (i := 643) (by decide +kernel), List.mem_of_getElem? (i := 870) (by decide +kernel), List.mem_of_getElem? (i := 871) (by decide +kernel)⟩
def lw_privs_1 : List (MethodName × Nat) := [(⟨"KinGoodsModel", "isParent", "(II)Z"⟩, 30), (⟨"KinGoodsModel", "isOne", "(I)Z"⟩, 30), (⟨"KinGoodsModel", "add", "(III)V"⟩, 30), (⟨"KinGoodsModel", "canMarry", "(II)Z"⟩, 30), (⟨"KinGoodsModel", "areSiblings", "(II)Z"⟩, 30), (⟨"KinGoodsModel", "isChild", "(II)Z"⟩, 30), (⟨"KinGoodsModel", "marryNow", "(II)V"⟩, 30), (⟨"KinGoodsModel", "houseOf", "(I)I"⟩, 30), (⟨"KinGoodsModel", "kinOf", "(II)I"⟩, 30), (⟨"KinGoodsModel", "isRelation", "(III)Z"⟩, 30), (⟨"KinGoodsModel", "areCousins", "(II)Z"⟩, 30), (⟨"KinGoodsModel", "isParentsSibling", "(II)Z"⟩, 30), (⟨"KinGoodsModel", "livesOne", "(I)Z"⟩, 30), (⟨"KinGoodsModel", "isThing", "(I)Z"⟩, 30), (⟨"KinGoodsModel", "heirOf", "(II)I"⟩, 30), (⟨"KinGoodsModel", "readAll", "(II)Z"⟩, 30)]
theorem lw_r1 : ∀ q ∈ lw_privs_1, lw_okq q := List.forall_mem_cons.mpr ⟨lw_p0, List.forall_mem_cons.mpr ⟨lw_p1, List.forall_mem_cons.mpr ⟨lw_p2, List.forall_mem_cons.mpr ⟨lw_p3, List.forall_mem_cons.mpr ⟨lw_p4, List.forall_mem_cons.mpr ⟨lw_p5, List.forall_mem_cons.mpr ⟨lw_p6, List.forall_mem_cons.mpr ⟨lw_p7, List.forall_mem_cons.mpr ⟨lw_p8, List.forall_mem_cons.mpr ⟨lw_p9, List.forall_mem_cons.mpr ⟨lw_p10, List.forall_mem_cons.mpr ⟨lw_p11, List.forall_mem_cons.mpr ⟨lw_p12, List.forall_mem_cons.mpr ⟨lw_p13, List.forall_mem_cons.mpr ⟨lw_p14, List.forall_mem_cons.mpr ⟨lw_p15, fun _ h => absurd h List.not_mem_nil⟩⟩⟩⟩⟩⟩⟩⟩⟩⟩⟩⟩⟩⟩⟩⟩
theorem lw_p16 : lw_okq (⟨"KinGoodsModel", "readPerson", "(I)Z"⟩, 30) := ⟨⟨by decide +kernel, by decide +kernel⟩, List.mem_of_getElem? (i := 643) (by decide +kernel), List.mem_of_getElem? (i := 874) (by decide +kernel), List.mem_of_getElem? (i := 875) (by decide +kernel)⟩
theorem lw_p17 : lw_okq (⟨"KinGoodsModel", "nextByte", "()I"⟩, 30) := ⟨⟨by decide +kernel, by decide +kernel⟩, List.mem_of_getElem? (i := 643) (by decide +kernel), List.mem_of_getElem? (i := 878) (by decide +kernel), List.mem_of_getElem? (i := 879) (by decide +kernel)⟩
theorem lw_p18 : lw_okq (⟨"KinGoodsModel", "takes", "(I)Z"⟩, 30) := ⟨⟨by decide +kernel, by decide +kernel⟩, List.mem_of_getElem? (i := 643) (by decide +kernel), List.mem_of_getElem? (i := 882) (by decide +kernel), List.mem_of_getElem? (i := 883) (by decide +kernel)⟩
theorem lw_p19 : lw_okq (⟨"KinGoodsModel", "readOne", "(II)I"⟩, 30) := ⟨⟨by decide +kernel, by decide +kernel⟩, List.mem_of_getElem? (i := 643) (by decide +kernel), List.mem_of_getElem? (i := 886) (by decide +kernel), List.mem_of_getElem? (i := 887) (by decide +kernel)⟩
theorem lw_p20 : lw_okq (⟨"KinGoodsModel", "readRule", "(I)Z"⟩, 30) := ⟨⟨by decide +kernel, by decide +kernel⟩, List.mem_of_getElem? (i := 643) (by decide +kernel), List.mem_of_getElem? (i := 890) (by decide +kernel), List.mem_of_getElem? (i := 891) (by decide +kernel)⟩
theorem lw_p21 : lw_okq (⟨"KinGoodsModel", "end", "(Z)I"⟩, 30) := ⟨⟨by decide +kernel, by decide +kernel⟩, List.mem_of_getElem? (i := 643) (by decide +kernel), List.mem_of_getElem? (i := 896) (by decide +kernel), List.mem_of_getElem? (i := 897) (by decide +kernel)⟩
theorem lw_p22 : lw_okq (⟨"KinGoodsModel", "die", "(I)I"⟩, 30) := ⟨⟨by decide +kernel, by decide +kernel⟩, List.mem_of_getElem? (i := 643) (by decide +kernel), List.mem_of_getElem? (i := 912) (by decide +kernel), List.mem_of_getElem? (i := 913) (by decide +kernel)⟩
theorem lw_p23 : lw_okq (⟨"KinGoodsModel", "end1", "(II)V"⟩, 30) := ⟨⟨by decide +kernel, by decide +kernel⟩, List.mem_of_getElem? (i := 643) (by decide +kernel), List.mem_of_getElem? (i := 916) (by decide +kernel), List.mem_of_getElem? (i := 917) (by decide +kernel)⟩
theorem lw_p24 : lw_okq (⟨"KinGoodsModel", "balanceOf", "(I)I"⟩, 30) := ⟨⟨by decide +kernel, by decide +kernel⟩, List.mem_of_getElem? (i := 643) (by decide +kernel), List.mem_of_getElem? (i := 929) (by decide +kernel), List.mem_of_getElem? (i := 930) (by decide +kernel)⟩
theorem lw_p25 : lw_okq (⟨"KinGoodsModel", "allLive", "(I)Z"⟩, 30) := ⟨⟨by decide +kernel, by decide +kernel⟩, List.mem_of_getElem? (i := 643) (by decide +kernel), List.mem_of_getElem? (i := 946) (by decide +kernel), List.mem_of_getElem? (i := 947) (by decide +kernel)⟩
theorem lw_p26 : lw_okq (⟨"KinGoodsModel", "firstOrder", "(I)I"⟩, 30) := ⟨⟨by decide +kernel, by decide +kernel⟩, List.mem_of_getElem? (i := 643) (by decide +kernel), List.mem_of_getElem? (i := 951) (by decide +kernel), List.mem_of_getElem? (i := 952) (by decide +kernel)⟩
theorem lw_p27 : lw_okq (⟨"KinGoodsModel", "keepAside", "()V"⟩, 30) := ⟨⟨by decide +kernel, by decide +kernel⟩, List.mem_of_getElem? (i := 643) (by decide +kernel), List.mem_of_getElem? (i := 955) (by decide +kernel), List.mem_of_getElem? (i := 956) (by decide +kernel)⟩
theorem lw_p28 : lw_okq (⟨"KinGoodsModel", "bringBack", "()V"⟩, 30) := ⟨⟨by decide +kernel, by decide +kernel⟩, List.mem_of_getElem? (i := 643) (by decide +kernel), List.mem_of_getElem? (i := 959) (by decide +kernel), List.mem_of_getElem? (i := 960) (by decide +kernel)⟩
theorem lw_p29 : lw_okq (⟨"KinGoodsModel", "nextOrder", "(I)Z"⟩, 30) := ⟨⟨by decide +kernel, by decide +kernel⟩, List.mem_of_getElem? (i := 643) (by decide +kernel), List.mem_of_getElem? (i := 963) (by decide +kernel), List.mem_of_getElem? (i := 964) (by decide +kernel)⟩
theorem lw_p30 : lw_okq (⟨"KinGoodsModel", "store", "([I)V"⟩, 30) := ⟨⟨by decide +kernel, by decide +kernel⟩, List.mem_of_getElem? (i := 643) (by decide +kernel), List.mem_of_getElem? (i := 971) (by decide +kernel), List.mem_of_getElem? (i := 972) (by decide +kernel)⟩
theorem lw_p31 : lw_okq (⟨"KinGoodsModel", "carried", "(IIZ)I"⟩, 30) := ⟨⟨by decide +kernel, by decide +kernel⟩, List.mem_of_getElem? (i := 643) (by decide +kernel), List.mem_of_getElem? (i := 975) (by decide +kernel), List.mem_of_getElem? (i := 976) (by decide +kernel)⟩
def lw_privs_2 : List (MethodName × Nat) := [(⟨"KinGoodsModel", "readPerson", "(I)Z"⟩, 30), (⟨"KinGoodsModel", "nextByte", "()I"⟩, 30), (⟨"KinGoodsModel", "takes", "(I)Z"⟩, 30), (⟨"KinGoodsModel", "readOne", "(II)I"⟩, 30), (⟨"KinGoodsModel", "readRule", "(I)Z"⟩, 30), (⟨"KinGoodsModel", "end", "(Z)I"⟩, 30), (⟨"KinGoodsModel", "die", "(I)I"⟩, 30), (⟨"KinGoodsModel", "end1", "(II)V"⟩, 30), (⟨"KinGoodsModel", "balanceOf", "(I)I"⟩, 30), (⟨"KinGoodsModel", "allLive", "(I)Z"⟩, 30), (⟨"KinGoodsModel", "firstOrder", "(I)I"⟩, 30), (⟨"KinGoodsModel", "keepAside", "()V"⟩, 30), (⟨"KinGoodsModel", "bringBack", "()V"⟩, 30), (⟨"KinGoodsModel", "nextOrder", "(I)Z"⟩, 30), (⟨"KinGoodsModel", "store", "([I)V"⟩, 30), (⟨"KinGoodsModel", "carried", "(IIZ)I"⟩, 30)]
theorem lw_r2 : ∀ q ∈ lw_privs_2, lw_okq q := List.forall_mem_cons.mpr ⟨lw_p16, List.forall_mem_cons.mpr ⟨lw_p17, List.forall_mem_cons.mpr ⟨lw_p18, List.forall_mem_cons.mpr ⟨lw_p19, List.forall_mem_cons.mpr ⟨lw_p20, List.forall_mem_cons.mpr ⟨lw_p21, List.forall_mem_cons.mpr ⟨lw_p22, List.forall_mem_cons.mpr ⟨lw_p23, List.forall_mem_cons.mpr ⟨lw_p24, List.forall_mem_cons.mpr ⟨lw_p25, List.forall_mem_cons.mpr ⟨lw_p26, List.forall_mem_cons.mpr ⟨lw_p27, List.forall_mem_cons.mpr ⟨lw_p28, List.forall_mem_cons.mpr ⟨lw_p29, List.forall_mem_cons.mpr ⟨lw_p30, List.forall_mem_cons.mpr ⟨lw_p31, fun _ h => absurd h List.not_mem_nil⟩⟩⟩⟩⟩⟩⟩⟩⟩⟩⟩⟩⟩⟩⟩⟩
theorem lw_p32 : lw_okq (⟨"KinGoodsModel", "load", "([I)V"⟩, 30) := ⟨⟨by decide +kernel, by decide +kernel⟩, List.mem_of_getElem? (i := 643) (by decide +kernel), List.mem_of_getElem? (i := 983) (by decide +kernel), List.mem_of_getElem? (i := 984) (by decide +kernel)⟩
theorem lw_p33 : lw_okq (⟨"KinGoodsModel", "areAsNow", "()Z"⟩, 30) := ⟨⟨by decide +kernel, by decide +kernel⟩, List.mem_of_getElem? (i := 643) (by decide +kernel), List.mem_of_getElem? (i := 991) (by decide +kernel), List.mem_of_getElem? (i := 992) (by decide +kernel)⟩
theorem lw_p34 : lw_okq (⟨"KinGoodsModel", "nextDraw", "(I)I"⟩, 30) := ⟨⟨by decide +kernel, by decide +kernel⟩, List.mem_of_getElem? (i := 643) (by decide +kernel), List.mem_of_getElem? (i := 1000) (by decide +kernel), List.mem_of_getElem? (i := 1001) (by decide +kernel)⟩
theorem lw_p35 : lw_okq (⟨"KinGoodsModel", "lacksRow", "(IIII)I"⟩, 30) := ⟨⟨by decide +kernel, by decide +kernel⟩, List.mem_of_getElem? (i := 643) (by decide +kernel), List.mem_of_getElem? (i := 1031) (by decide +kernel), List.mem_of_getElem? (i := 1032) (by decide +kernel)⟩
theorem lw_p36 : lw_okq (⟨"KinGoodsModel", "dieAll", "(II)I"⟩, 30) := ⟨⟨by decide +kernel, by decide +kernel⟩, List.mem_of_getElem? (i := 643) (by decide +kernel), List.mem_of_getElem? (i := 1039) (by decide +kernel), List.mem_of_getElem? (i := 1040) (by decide +kernel)⟩
theorem lw_p37 : lw_okq (⟨"KinGoodsModel", "findWed", "(IIII)I"⟩, 30) := ⟨⟨by decide +kernel, by decide +kernel⟩, List.mem_of_getElem? (i := 643) (by decide +kernel), List.mem_of_getElem? (i := 1048) (by decide +kernel), List.mem_of_getElem? (i := 1049) (by decide +kernel)⟩
theorem lw_p38 : lw_okq (⟨"KinGoodsModel", "brings", "(IIIII)Z"⟩, 30) := ⟨⟨by decide +kernel, by decide +kernel⟩, List.mem_of_getElem? (i := 643) (by decide +kernel), List.mem_of_getElem? (i := 1052) (by decide +kernel), List.mem_of_getElem? (i := 1053) (by decide +kernel)⟩
theorem lw_p39 : lw_okq (⟨"KinGoodsModel", "canPair", "(I)Z"⟩, 30) := ⟨⟨by decide +kernel, by decide +kernel⟩, List.mem_of_getElem? (i := 643) (by decide +kernel), List.mem_of_getElem? (i := 1056) (by decide +kernel), List.mem_of_getElem? (i := 1057) (by decide +kernel)⟩
def lw_privs_3 : List (MethodName × Nat) := [(⟨"KinGoodsModel", "load", "([I)V"⟩, 30), (⟨"KinGoodsModel", "areAsNow", "()Z"⟩, 30), (⟨"KinGoodsModel", "nextDraw", "(I)I"⟩, 30), (⟨"KinGoodsModel", "lacksRow", "(IIII)I"⟩, 30), (⟨"KinGoodsModel", "dieAll", "(II)I"⟩, 30), (⟨"KinGoodsModel", "findWed", "(IIII)I"⟩, 30), (⟨"KinGoodsModel", "brings", "(IIIII)Z"⟩, 30), (⟨"KinGoodsModel", "canPair", "(I)Z"⟩, 30)]
theorem lw_r3 : ∀ q ∈ lw_privs_3, lw_okq q := List.forall_mem_cons.mpr ⟨lw_p32, List.forall_mem_cons.mpr ⟨lw_p33, List.forall_mem_cons.mpr ⟨lw_p34, List.forall_mem_cons.mpr ⟨lw_p35, List.forall_mem_cons.mpr ⟨lw_p36, List.forall_mem_cons.mpr ⟨lw_p37, List.forall_mem_cons.mpr ⟨lw_p38, List.forall_mem_cons.mpr ⟨lw_p39, fun _ h => absurd h List.not_mem_nil⟩⟩⟩⟩⟩⟩⟩⟩
def lw_privs : List (MethodName × Nat) := lw_privs_1 ++ (lw_privs_2 ++ (lw_privs_3))
def lw_tbl : List Cond := k2_sels lw_privs ++ tables_1
theorem lw_privs_ok : ∀ q ∈ lw_privs, lw_okq q := by
  show ∀ q ∈ lw_privs_1 ++ (lw_privs_2 ++ (lw_privs_3)), lw_okq q
  exact List.forall_mem_append.mpr ⟨lw_r1, List.forall_mem_append.mpr ⟨lw_r2, lw_r3⟩⟩
def RX0 : String := "KinGoods$Estate"
def TX0 : u_T := fun k => match k with
  | 0 => ("KinGoods$Estate", "people", "I", false)
  | 1 => ("KinGoods$Estate", "living", "I", false)
  | 2 => ("KinGoods$Estate", "sex", "[I", true)
  | 3 => ("KinGoods$Estate", "father", "[I", true)
  | 4 => ("KinGoods$Estate", "mother", "[I", true)
  | 5 => ("KinGoods$Estate", "spouse", "[I", true)
  | 6 => ("KinGoods$Estate", "godchild", "[I", true)
  | 7 => ("KinGoods$Estate", "things", "I", false)
  | 8 => ("KinGoods$Estate", "kind", "[I", true)
  | 9 => ("KinGoods$Estate", "worth", "[I", true)
  | 10 => ("KinGoods$Estate", "holder", "[I", true)
  | 11 => ("KinGoods$Estate", "other", "[I", true)
  | 12 => ("KinGoods$Estate", "ruleRow", "[I", true)
  | 13 => ("KinGoods$Estate", "ruleLength", "[I", true)
  | _ => ("KinGoods$Estate", "draw", "I", false)
def tyX0 : Nat → FieldType := fun k => match k with
  | 0 => .int
  | 1 => .int
  | 2 => .array .int
  | 3 => .array .int
  | 4 => .array .int
  | 5 => .array .int
  | 6 => .array .int
  | 7 => .int
  | 8 => .array .int
  | 9 => .array .int
  | 10 => .array .int
  | 11 => .array .int
  | 12 => .array .int
  | 13 => .array .int
  | _ => .int
abbrev wsX00 : List Cond := u_ws RX0 TX0 15
theorem nmX0 : ∀ a, a < 15 → ∀ b, b < 15 → a ≠ b → (TX0 a).2.1 ≠ (TX0 b).2.1 := by decide +kernel
theorem tyX0_ok : ∀ k, k < 15 → parseFieldDescriptor (TX0 k).2.2.1 = some (tyX0 k) := by decide +kernel
abbrev cX0_init : ByteArray := prog_2_method_1_code
def yX0_init : MethodName := ⟨RX0, "<init>", "()V"⟩
abbrev cX0_takeFrom : ByteArray := prog_2_method_2_code
def yX0_takeFrom : MethodName := ⟨RX0, "takeFrom", "(LKinGoods$Estate;)V"⟩
abbrev cX0_clear : ByteArray := prog_2_method_3_code
def yX0_clear : MethodName := ⟨RX0, "clear", "()V"⟩
abbrev cX0_known : ByteArray := prog_2_method_4_code
def yX0_known : MethodName := ⟨RX0, "known", "(I)Z"⟩
abbrev cX0_lives : ByteArray := prog_2_method_5_code
def yX0_lives : MethodName := ⟨RX0, "lives", "(I)Z"⟩
abbrev cX0_isOf : ByteArray := prog_2_method_6_code
def yX0_isOf : MethodName := ⟨RX0, "isOf", "(II)Z"⟩
abbrev cX0_isThing : ByteArray := prog_2_method_7_code
def yX0_isThing : MethodName := ⟨RX0, "isThing", "(I)Z"⟩
abbrev cX0_allLive : ByteArray := prog_2_method_8_code
def yX0_allLive : MethodName := ⟨RX0, "allLive", "(I)Z"⟩
abbrev cX0_addPerson : ByteArray := prog_2_method_9_code
def yX0_addPerson : MethodName := ⟨RX0, "addPerson", "(III)I"⟩
abbrev cX0_addThing : ByteArray := prog_2_method_10_code
def yX0_addThing : MethodName := ⟨RX0, "addThing", "(IIII)I"⟩
abbrev cX0_setRule : ByteArray := prog_2_method_11_code
def yX0_setRule : MethodName := ⟨RX0, "setRule", "(III)V"⟩
abbrev cX0_canMarry : ByteArray := prog_2_method_12_code
def yX0_canMarry : MethodName := ⟨RX0, "canMarry", "(II)Z"⟩
abbrev cX0_join : ByteArray := prog_2_method_13_code
def yX0_join : MethodName := ⟨RX0, "join", "(II)Z"⟩
abbrev cX0_houseOf : ByteArray := prog_2_method_14_code
def yX0_houseOf : MethodName := ⟨RX0, "houseOf", "(I)I"⟩
abbrev cX0_isIn : ByteArray := prog_2_method_15_code
def yX0_isIn : MethodName := ⟨RX0, "isIn", "(II)Z"⟩
abbrev cX0_childrenOf : ByteArray := prog_2_method_16_code
def yX0_childrenOf : MethodName := ⟨RX0, "childrenOf", "(I)I"⟩
abbrev cX0_siblingsOf : ByteArray := prog_2_method_17_code
def yX0_siblingsOf : MethodName := ⟨RX0, "siblingsOf", "(I)I"⟩
abbrev cX0_ofSex : ByteArray := prog_2_method_18_code
def yX0_ofSex : MethodName := ⟨RX0, "ofSex", "(II)I"⟩
abbrev cX0_related : ByteArray := prog_2_method_19_code
def yX0_related : MethodName := ⟨RX0, "related", "(II)I"⟩
abbrev cX0_heirBy : ByteArray := prog_2_method_20_code
def yX0_heirBy : MethodName := ⟨RX0, "heirBy", "(II)I"⟩
abbrev cX0_member : ByteArray := prog_2_method_21_code
def yX0_member : MethodName := ⟨RX0, "member", "(II)I"⟩
abbrev cX0_heldBy : ByteArray := prog_2_method_22_code
def yX0_heldBy : MethodName := ⟨RX0, "heldBy", "(I)I"⟩
abbrev cX0_worthOfLands : ByteArray := prog_2_method_23_code
def yX0_worthOfLands : MethodName := ⟨RX0, "worthOfLands", "()I"⟩
abbrev cX0_owedTo : ByteArray := prog_2_method_24_code
def yX0_owedTo : MethodName := ⟨RX0, "owedTo", "(I)I"⟩
abbrev cX0_pass : ByteArray := prog_2_method_25_code
def yX0_pass : MethodName := ⟨RX0, "pass", "(II)V"⟩
abbrev cX0_bury : ByteArray := prog_2_method_26_code
def yX0_bury : MethodName := ⟨RX0, "bury", "(I)V"⟩
abbrev cX0_death : ByteArray := prog_2_method_27_code
def yX0_death : MethodName := ⟨RX0, "death", "(I)V"⟩
abbrev cX0_deaths : ByteArray := prog_2_method_28_code
def yX0_deaths : MethodName := ⟨RX0, "deaths", "([II)V"⟩
abbrev cX0_hasThingsOf : ByteArray := prog_2_method_29_code
def yX0_hasThingsOf : MethodName := ⟨RX0, "hasThingsOf", "(LKinGoods$Estate;)Z"⟩
abbrev cX0_drawn : ByteArray := prog_2_method_30_code
def yX0_drawn : MethodName := ⟨RX0, "drawn", "(I)I"⟩
abbrev cX0_wives : ByteArray := prog_2_method_31_code
def yX0_wives : MethodName := ⟨RX0, "wives", "()I"⟩
abbrev cX0_lot : ByteArray := prog_2_method_32_code
def yX0_lot : MethodName := ⟨RX0, "lot", "()I"⟩
def RX1 : String := "KinGoods$Orders"
def TX1 : u_T := fun k => match k with
  | 0 => ("KinGoods$Orders", "members", "[I", true)
  | 1 => ("KinGoods$Orders", "left", "[I", true)
  | 2 => ("KinGoods$Orders", "row", "[I", true)
  | 3 => ("KinGoods$Orders", "n", "I", false)
  | _ => ("KinGoods$Orders", "total", "I", false)
def tyX1 : Nat → FieldType := fun k => match k with
  | 0 => .array .int
  | 1 => .array .int
  | 2 => .array .int
  | 3 => .int
  | _ => .int
abbrev wsX10 : List Cond := u_ws RX1 TX1 5
theorem nmX1 : ∀ a, a < 5 → ∀ b, b < 5 → a ≠ b → (TX1 a).2.1 ≠ (TX1 b).2.1 := by decide +kernel
theorem tyX1_ok : ∀ k, k < 5 → parseFieldDescriptor (TX1 k).2.2.1 = some (tyX1 k) := by decide +kernel
abbrev cX1_init : ByteArray := prog_3_method_1_code
def yX1_init : MethodName := ⟨RX1, "<init>", "()V"⟩
abbrev cX1_takes : ByteArray := prog_3_method_2_code
def yX1_takes : MethodName := ⟨RX1, "takes", "(I)Z"⟩
abbrev cX1_gather : ByteArray := prog_3_method_3_code
def yX1_gather : MethodName := ⟨RX1, "gather", "(I)V"⟩
abbrev cX1_lay : ByteArray := prog_3_method_4_code
def yX1_lay : MethodName := ⟨RX1, "lay", "(I)V"⟩
def RX2 : String := "KinGoods$Sheets"
def TX2 : u_T := fun k => match k with
  | 0 => ("KinGoods$Sheets", "lanes", "[I", true)
  | 1 => ("KinGoods$Sheets", "sizes", "[I", true)
  | _ => ("KinGoods$Sheets", "items", "[I", true)
def tyX2 : Nat → FieldType := fun k => match k with
  | 0 => .array .int
  | 1 => .array .int
  | _ => .array .int
abbrev wsX20 : List Cond := u_ws RX2 TX2 3
theorem nmX2 : ∀ a, a < 3 → ∀ b, b < 3 → a ≠ b → (TX2 a).2.1 ≠ (TX2 b).2.1 := by decide +kernel
theorem tyX2_ok : ∀ k, k < 3 → parseFieldDescriptor (TX2 k).2.2.1 = some (tyX2 k) := by decide +kernel
abbrev cX2_init : ByteArray := prog_4_method_1_code
def yX2_init : MethodName := ⟨RX2, "<init>", "()V"⟩
abbrev cX2_isSheet : ByteArray := prog_4_method_2_code
def yX2_isSheet : MethodName := ⟨RX2, "isSheet", "(I)Z"⟩
abbrev cX2_isLane : ByteArray := prog_4_method_3_code
def yX2_isLane : MethodName := ⟨RX2, "isLane", "(I)Z"⟩
abbrev cX2_holds : ByteArray := prog_4_method_4_code
def yX2_holds : MethodName := ⟨RX2, "holds", "(I)Z"⟩
abbrev cX2_spans : ByteArray := prog_4_method_5_code
def yX2_spans : MethodName := ⟨RX2, "spans", "(III)Z"⟩
abbrev cX2_look : ByteArray := prog_4_method_6_code
def yX2_look : MethodName := ⟨RX2, "look", "(IIII)I"⟩
abbrev cX2_renew : ByteArray := prog_4_method_7_code
def yX2_renew : MethodName := ⟨RX2, "renew", "(III)V"⟩
abbrev cX2_get : ByteArray := prog_4_method_8_code
def yX2_get : MethodName := ⟨RX2, "get", "(II)I"⟩
abbrev cX2_put : ByteArray := prog_4_method_9_code
def yX2_put : MethodName := ⟨RX2, "put", "(III)V"⟩
abbrev cX2_move : ByteArray := prog_4_method_10_code
def yX2_move : MethodName := ⟨RX2, "move", "(IIIII)V"⟩
def RX3 : String := "KinGoods$Suit"
def TX3 : u_T := fun k => match k with
  | 0 => ("KinGoods$Suit", "then", "LKinGoods$Estate;", true)
  | 1 => ("KinGoods$Suit", "dead", "[I", true)
  | 2 => ("KinGoods$Suit", "n", "I", false)
  | _ => ("KinGoods$Suit", "wedded", "[I", true)
def tyX3 : Nat → FieldType := fun k => match k with
  | 0 => .object "KinGoods$Estate"
  | 1 => .array .int
  | 2 => .int
  | _ => .array .int
abbrev wsX30 : List Cond := u_ws RX3 TX3 4
theorem nmX3 : ∀ a, a < 4 → ∀ b, b < 4 → a ≠ b → (TX3 a).2.1 ≠ (TX3 b).2.1 := by decide +kernel
theorem tyX3_ok : ∀ k, k < 4 → parseFieldDescriptor (TX3 k).2.2.1 = some (tyX3 k) := by decide +kernel
abbrev cX3_init : ByteArray := prog_5_method_1_code
def yX3_init : MethodName := ⟨RX3, "<init>", "()V"⟩
abbrev cX3_tell : ByteArray := prog_5_method_2_code
def yX3_tell : MethodName := ⟨RX3, "tell", "(LKinGoods$Sheets;III)V"⟩
abbrev cX3_firstWhoCannotDie : ByteArray := prog_5_method_3_code
def yX3_firstWhoCannotDie : MethodName := ⟨RX3, "firstWhoCannotDie", "(I)I"⟩
abbrev cX3_fewest : ByteArray := prog_5_method_4_code
def yX3_fewest : MethodName := ⟨RX3, "fewest", "(LKinGoods$Estate;II)I"⟩
abbrev cX3_isPair : ByteArray := prog_5_method_5_code
def yX3_isPair : MethodName := ⟨RX3, "isPair", "(LKinGoods$Estate;I)Z"⟩
abbrev cX3_brings : ByteArray := prog_5_method_6_code
def yX3_brings : MethodName := ⟨RX3, "brings", "(LKinGoods$Estate;IIII)Z"⟩
abbrev cX3_weds : ByteArray := prog_5_method_7_code
def yX3_weds : MethodName := ⟨RX3, "weds", "(II)Z"⟩
def RX4 : String := "KinGoods$Tape"
def TX4 : u_T := fun k => match k with
  | 0 => ("KinGoods$Tape", "bytes", "[I", true)
  | 1 => ("KinGoods$Tape", "length", "I", false)
  | _ => ("KinGoods$Tape", "place", "I", false)
def tyX4 : Nat → FieldType := fun k => match k with
  | 0 => .array .int
  | 1 => .int
  | _ => .int
abbrev wsX40 : List Cond := u_ws RX4 TX4 3
theorem nmX4 : ∀ a, a < 3 → ∀ b, b < 3 → a ≠ b → (TX4 a).2.1 ≠ (TX4 b).2.1 := by decide +kernel
theorem tyX4_ok : ∀ k, k < 3 → parseFieldDescriptor (TX4 k).2.2.1 = some (tyX4 k) := by decide +kernel
abbrev cX4_init : ByteArray := prog_6_method_1_code
def yX4_init : MethodName := ⟨RX4, "<init>", "()V"⟩
abbrev cX4_put : ByteArray := prog_6_method_2_code
def yX4_put : MethodName := ⟨RX4, "put", "(JI)I"⟩
abbrev cX4_byteOf : ByteArray := prog_6_method_3_code
def yX4_byteOf : MethodName := ⟨RX4, "byteOf", "(JI)I"⟩
abbrev cX4_open : ByteArray := prog_6_method_4_code
def yX4_open : MethodName := ⟨RX4, "open", "()V"⟩
abbrev cX4_passBlanks : ByteArray := prog_6_method_5_code
def yX4_passBlanks : MethodName := ⟨RX4, "passBlanks", "()V"⟩
abbrev cX4_step : ByteArray := prog_6_method_6_code
def yX4_step : MethodName := ⟨RX4, "step", "()V"⟩
abbrev cX4_empty : ByteArray := prog_6_method_7_code
def yX4_empty : MethodName := ⟨RX4, "empty", "()V"⟩
abbrev cX4_next : ByteArray := prog_6_method_8_code
def yX4_next : MethodName := ⟨RX4, "next", "()I"⟩
abbrev cX4_skip : ByteArray := prog_6_method_9_code
def yX4_skip : MethodName := ⟨RX4, "skip", "(I)Z"⟩
abbrev cX4_fault : ByteArray := prog_6_method_10_code
def yX4_fault : MethodName := ⟨RX4, "fault", "()I"⟩
abbrev cX4_readPeople : ByteArray := prog_6_method_11_code
def yX4_readPeople : MethodName := ⟨RX4, "readPeople", "(LKinGoods$Estate;)I"⟩
abbrev cX4_readPerson : ByteArray := prog_6_method_12_code
def yX4_readPerson : MethodName := ⟨RX4, "readPerson", "(LKinGoods$Estate;)Z"⟩
abbrev cX4_readFather : ByteArray := prog_6_method_13_code
def yX4_readFather : MethodName := ⟨RX4, "readFather", "(LKinGoods$Estate;I)Z"⟩
abbrev cX4_readMother : ByteArray := prog_6_method_14_code
def yX4_readMother : MethodName := ⟨RX4, "readMother", "(LKinGoods$Estate;I)Z"⟩
abbrev cX4_readSpouse : ByteArray := prog_6_method_15_code
def yX4_readSpouse : MethodName := ⟨RX4, "readSpouse", "(LKinGoods$Estate;I)Z"⟩
abbrev cX4_readRules : ByteArray := prog_6_method_16_code
def yX4_readRules : MethodName := ⟨RX4, "readRules", "(LKinGoods$Estate;)I"⟩
abbrev cX4_kindOf : ByteArray := prog_6_method_17_code
def yX4_kindOf : MethodName := ⟨RX4, "kindOf", "(I)I"⟩
abbrev cX4_readRow : ByteArray := prog_6_method_18_code
def yX4_readRow : MethodName := ⟨RX4, "readRow", "(LKinGoods$Estate;I)Z"⟩
def RX5 : String := "KinGoods"
def TX5 : u_T := fun k => match k with
  | 0 => ("KinGoods", "now", "LKinGoods$Estate;", true)
  | 1 => ("KinGoods", "kept", "LKinGoods$Estate;", true)
  | 2 => ("KinGoods", "trial", "LKinGoods$Estate;", true)
  | 3 => ("KinGoods", "tape", "LKinGoods$Tape;", true)
  | 4 => ("KinGoods", "sheets", "LKinGoods$Sheets;", true)
  | 5 => ("KinGoods", "rows", "LKinGoods$Orders;", true)
  | 6 => ("KinGoods", "suit", "LKinGoods$Suit;", true)
  | _ => ("KinGoods", "imaged", "Z", false)
def tyX5 : Nat → FieldType := fun k => match k with
  | 0 => .object "KinGoods$Estate"
  | 1 => .object "KinGoods$Estate"
  | 2 => .object "KinGoods$Estate"
  | 3 => .object "KinGoods$Tape"
  | 4 => .object "KinGoods$Sheets"
  | 5 => .object "KinGoods$Orders"
  | 6 => .object "KinGoods$Suit"
  | _ => .boolean
abbrev wsX50 : List Cond := u_ws RX5 TX5 8
theorem nmX5 : ∀ a, a < 8 → ∀ b, b < 8 → a ≠ b → (TX5 a).2.1 ≠ (TX5 b).2.1 := by decide +kernel
theorem tyX5_ok : ∀ k, k < 8 → parseFieldDescriptor (TX5 k).2.2.1 = some (tyX5 k) := by decide +kernel
abbrev cX5_init : ByteArray := prog_1_method_1_code
def yX5_init : MethodName := ⟨RX5, "<init>", "()V"⟩
abbrev cX5_person : ByteArray := prog_1_method_2_code
def yX5_person : MethodName := ⟨RX5, "person", "(III)I"⟩
abbrev cX5_marry : ByteArray := prog_1_method_3_code
def yX5_marry : MethodName := ⟨RX5, "marry", "(II)I"⟩
abbrev cX5_adopt : ByteArray := prog_1_method_4_code
def yX5_adopt : MethodName := ⟨RX5, "adopt", "(II)I"⟩
abbrev cX5_god : ByteArray := prog_1_method_5_code
def yX5_god : MethodName := ⟨RX5, "god", "(II)I"⟩
abbrev cX5_told : ByteArray := prog_1_method_6_code
def yX5_told : MethodName := ⟨RX5, "told", "(II)I"⟩
abbrev cX5_kin : ByteArray := prog_1_method_7_code
def yX5_kin : MethodName := ⟨RX5, "kin", "(II)I"⟩
abbrev cX5_thing : ByteArray := prog_1_method_8_code
def yX5_thing : MethodName := ⟨RX5, "thing", "(IIII)I"⟩
abbrev cX5_of : ByteArray := prog_1_method_9_code
def yX5_of : MethodName := ⟨RX5, "of", "(II)I"⟩
abbrev cX5_rule : ByteArray := prog_1_method_10_code
def yX5_rule : MethodName := ⟨RX5, "rule", "(III)I"⟩
abbrev cX5_heir : ByteArray := prog_1_method_11_code
def yX5_heir : MethodName := ⟨RX5, "heir", "(II)I"⟩
abbrev cX5_type : ByteArray := prog_1_method_12_code
def yX5_type : MethodName := ⟨RX5, "type", "(JI)I"⟩
abbrev cX5_family : ByteArray := prog_1_method_13_code
def yX5_family : MethodName := ⟨RX5, "family", "()I"⟩
abbrev cX5_rules : ByteArray := prog_1_method_14_code
def yX5_rules : MethodName := ⟨RX5, "rules", "()I"⟩
abbrev cX5_count : ByteArray := prog_1_method_15_code
def yX5_count : MethodName := ⟨RX5, "count", "(I)I"⟩
abbrev cX5_dies : ByteArray := prog_1_method_16_code
def yX5_dies : MethodName := ⟨RX5, "dies", "(I)I"⟩
abbrev cX5_gathers : ByteArray := prog_1_method_17_code
def yX5_gathers : MethodName := ⟨RX5, "gathers", "(II)I"⟩
abbrev cX5_balance : ByteArray := prog_1_method_18_code
def yX5_balance : MethodName := ⟨RX5, "balance", "(I)I"⟩
abbrev cX5_paid : ByteArray := prog_1_method_19_code
def yX5_paid : MethodName := ⟨RX5, "paid", "()I"⟩
abbrev cX5_orders : ByteArray := prog_1_method_20_code
def yX5_orders : MethodName := ⟨RX5, "orders", "(III)I"⟩
abbrev cX5_explained : ByteArray := prog_1_method_21_code
def yX5_explained : MethodName := ⟨RX5, "explained", "(I)I"⟩
abbrev cX5_lots : ByteArray := prog_1_method_22_code
def yX5_lots : MethodName := ⟨RX5, "lots", "(I)I"⟩
abbrev cX5_seed : ByteArray := prog_1_method_23_code
def yX5_seed : MethodName := ⟨RX5, "seed", "(I)I"⟩
abbrev cX5_image : ByteArray := prog_1_method_24_code
def yX5_image : MethodName := ⟨RX5, "image", "()I"⟩
abbrev cX5_restore : ByteArray := prog_1_method_25_code
def yX5_restore : MethodName := ⟨RX5, "restore", "()I"⟩
abbrev cX5_judged : ByteArray := prog_1_method_26_code
def yX5_judged : MethodName := ⟨RX5, "judged", "(IIII)I"⟩
abbrev cX5_wed : ByteArray := prog_1_method_27_code
def yX5_wed : MethodName := ⟨RX5, "wed", "(IIIIIII)I"⟩
abbrev cX5_film : ByteArray := prog_1_method_28_code
def yX5_film : MethodName := ⟨RX5, "film", "(III)I"⟩
abbrev cX5_sheet : ByteArray := prog_1_method_29_code
def yX5_sheet : MethodName := ⟨RX5, "sheet", "(III)I"⟩
abbrev cX5_drop : ByteArray := prog_1_method_30_code
def yX5_drop : MethodName := ⟨RX5, "drop", "(I)I"⟩
abbrev cX5_item : ByteArray := prog_1_method_31_code
def yX5_item : MethodName := ⟨RX5, "item", "(IIII)I"⟩
abbrev cX5_copy : ByteArray := prog_1_method_32_code
def yX5_copy : MethodName := ⟨RX5, "copy", "(IIIII)I"⟩
abbrev cX5_has : ByteArray := prog_1_method_33_code
def yX5_has : MethodName := ⟨RX5, "has", "(II)Z"⟩
abbrev cX5_isKind : ByteArray := prog_1_method_34_code
def yX5_isKind : MethodName := ⟨RX5, "isKind", "(I)Z"⟩
abbrev cX5_hasOtherSide : ByteArray := prog_1_method_35_code
def yX5_hasOtherSide : MethodName := ⟨RX5, "hasOtherSide", "(I)Z"⟩
abbrev cX5_isRow : ByteArray := prog_1_method_36_code
def yX5_isRow : MethodName := ⟨RX5, "isRow", "(II)Z"⟩
def RX6 : String := "KinGoodsModel"
def TX6 : u_T := fun k => match k with
  | 0 => ("KinGoodsModel", "sexes", "[I", true)
  | 1 => ("KinGoodsModel", "fathers", "[I", true)
  | 2 => ("KinGoodsModel", "mothers", "[I", true)
  | 3 => ("KinGoodsModel", "spouses", "[I", true)
  | 4 => ("KinGoodsModel", "gods", "[I", true)
  | 5 => ("KinGoodsModel", "lives", "[I", true)
  | 6 => ("KinGoodsModel", "people", "I", false)
  | 7 => ("KinGoodsModel", "kinds", "[I", true)
  | 8 => ("KinGoodsModel", "worths", "[I", true)
  | 9 => ("KinGoodsModel", "holders", "[I", true)
  | 10 => ("KinGoodsModel", "others", "[I", true)
  | 11 => ("KinGoodsModel", "things", "I", false)
  | 12 => ("KinGoodsModel", "ruleRows", "[I", true)
  | 13 => ("KinGoodsModel", "ruleSizes", "[I", true)
  | 14 => ("KinGoodsModel", "drawn", "I", false)
  | 15 => ("KinGoodsModel", "tape", "[I", true)
  | 16 => ("KinGoodsModel", "taped", "I", false)
  | 17 => ("KinGoodsModel", "place", "I", false)
  | 18 => ("KinGoodsModel", "reads", "I", false)
  | 19 => ("KinGoodsModel", "read", "[I", true)
  | 20 => ("KinGoodsModel", "aside", "[I", true)
  | 21 => ("KinGoodsModel", "order", "[I", true)
  | 22 => ("KinGoodsModel", "isKept", "Z", false)
  | 23 => ("KinGoodsModel", "kept", "[I", true)
  | 24 => ("KinGoodsModel", "present", "[I", true)
  | 25 => ("KinGoodsModel", "lanes", "[I", true)
  | 26 => ("KinGoodsModel", "rowSizes", "[I", true)
  | 27 => ("KinGoodsModel", "items", "[I", true)
  | 28 => ("KinGoodsModel", "pairs", "[I", true)
  | _ => ("KinGoodsModel", "moved", "[I", true)
def tyX6 : Nat → FieldType := fun k => match k with
  | 0 => .array .int
  | 1 => .array .int
  | 2 => .array .int
  | 3 => .array .int
  | 4 => .array .int
  | 5 => .array .int
  | 6 => .int
  | 7 => .array .int
  | 8 => .array .int
  | 9 => .array .int
  | 10 => .array .int
  | 11 => .int
  | 12 => .array .int
  | 13 => .array .int
  | 14 => .int
  | 15 => .array .int
  | 16 => .int
  | 17 => .int
  | 18 => .int
  | 19 => .array .int
  | 20 => .array .int
  | 21 => .array .int
  | 22 => .boolean
  | 23 => .array .int
  | 24 => .array .int
  | 25 => .array .int
  | 26 => .array .int
  | 27 => .array .int
  | 28 => .array .int
  | _ => .array .int
abbrev wsX60 : List Cond := u_ws RX6 TX6 30
theorem nmX6 : ∀ a, a < 30 → ∀ b, b < 30 → a ≠ b → (TX6 a).2.1 ≠ (TX6 b).2.1 := by decide +kernel
theorem tyX6_ok : ∀ k, k < 30 → parseFieldDescriptor (TX6 k).2.2.1 = some (tyX6 k) := by decide +kernel
abbrev cX6_init : ByteArray := prog_8_method_1_code
def yX6_init : MethodName := ⟨RX6, "<init>", "()V"⟩
abbrev cX6_in : ByteArray := prog_8_method_2_code
def yX6_in : MethodName := ⟨RX6, "in", "(JJJ)Z"⟩
abbrev cX6_has : ByteArray := prog_8_method_3_code
def yX6_has : MethodName := ⟨RX6, "has", "(II)Z"⟩
abbrev cX6_ones : ByteArray := prog_8_method_4_code
def yX6_ones : MethodName := ⟨RX6, "ones", "(I)I"⟩
abbrev cX6_isOne : ByteArray := prog_8_method_5_code
def yX6_isOne : MethodName := ⟨RX6, "isOne", "(I)Z"⟩
abbrev cX6_isThing : ByteArray := prog_8_method_6_code
def yX6_isThing : MethodName := ⟨RX6, "isThing", "(I)Z"⟩
abbrev cX6_livesOne : ByteArray := prog_8_method_7_code
def yX6_livesOne : MethodName := ⟨RX6, "livesOne", "(I)Z"⟩
abbrev cX6_add : ByteArray := prog_8_method_8_code
def yX6_add : MethodName := ⟨RX6, "add", "(III)V"⟩
abbrev cX6_isParent : ByteArray := prog_8_method_9_code
def yX6_isParent : MethodName := ⟨RX6, "isParent", "(II)Z"⟩
abbrev cX6_person : ByteArray := prog_8_method_10_code
def yX6_person : MethodName := ⟨RX6, "person", "(III)I"⟩
abbrev cX6_areAlike : ByteArray := prog_8_method_11_code
def yX6_areAlike : MethodName := ⟨RX6, "areAlike", "(II)Z"⟩
abbrev cX6_areSiblings : ByteArray := prog_8_method_12_code
def yX6_areSiblings : MethodName := ⟨RX6, "areSiblings", "(II)Z"⟩
abbrev cX6_isChild : ByteArray := prog_8_method_13_code
def yX6_isChild : MethodName := ⟨RX6, "isChild", "(II)Z"⟩
abbrev cX6_canMarry : ByteArray := prog_8_method_14_code
def yX6_canMarry : MethodName := ⟨RX6, "canMarry", "(II)Z"⟩
abbrev cX6_marryNow : ByteArray := prog_8_method_15_code
def yX6_marryNow : MethodName := ⟨RX6, "marryNow", "(II)V"⟩
abbrev cX6_marry : ByteArray := prog_8_method_16_code
def yX6_marry : MethodName := ⟨RX6, "marry", "(II)I"⟩
abbrev cX6_adopt : ByteArray := prog_8_method_17_code
def yX6_adopt : MethodName := ⟨RX6, "adopt", "(II)I"⟩
abbrev cX6_god : ByteArray := prog_8_method_18_code
def yX6_god : MethodName := ⟨RX6, "god", "(II)I"⟩
abbrev cX6_houseOf : ByteArray := prog_8_method_19_code
def yX6_houseOf : MethodName := ⟨RX6, "houseOf", "(I)I"⟩
abbrev cX6_told : ByteArray := prog_8_method_20_code
def yX6_told : MethodName := ⟨RX6, "told", "(II)I"⟩
abbrev cX6_isParentsSibling : ByteArray := prog_8_method_21_code
def yX6_isParentsSibling : MethodName := ⟨RX6, "isParentsSibling", "(II)Z"⟩
abbrev cX6_areCousins : ByteArray := prog_8_method_22_code
def yX6_areCousins : MethodName := ⟨RX6, "areCousins", "(II)Z"⟩
abbrev cX6_isRelation : ByteArray := prog_8_method_23_code
def yX6_isRelation : MethodName := ⟨RX6, "isRelation", "(III)Z"⟩
abbrev cX6_kinOf : ByteArray := prog_8_method_24_code
def yX6_kinOf : MethodName := ⟨RX6, "kinOf", "(II)I"⟩
abbrev cX6_kin : ByteArray := prog_8_method_25_code
def yX6_kin : MethodName := ⟨RX6, "kin", "(II)I"⟩
abbrev cX6_hasOther : ByteArray := prog_8_method_26_code
def yX6_hasOther : MethodName := ⟨RX6, "hasOther", "(I)Z"⟩
abbrev cX6_thing : ByteArray := prog_8_method_27_code
def yX6_thing : MethodName := ⟨RX6, "thing", "(IIII)I"⟩
abbrev cX6_of : ByteArray := prog_8_method_28_code
def yX6_of : MethodName := ⟨RX6, "of", "(II)I"⟩
abbrev cX6_rule : ByteArray := prog_8_method_29_code
def yX6_rule : MethodName := ⟨RX6, "rule", "(III)I"⟩
abbrev cX6_heirOf : ByteArray := prog_8_method_30_code
def yX6_heirOf : MethodName := ⟨RX6, "heirOf", "(II)I"⟩
abbrev cX6_heir : ByteArray := prog_8_method_31_code
def yX6_heir : MethodName := ⟨RX6, "heir", "(II)I"⟩
abbrev cX6_type : ByteArray := prog_8_method_32_code
def yX6_type : MethodName := ⟨RX6, "type", "(JI)I"⟩
abbrev cX6_nextByte : ByteArray := prog_8_method_33_code
def yX6_nextByte : MethodName := ⟨RX6, "nextByte", "()I"⟩
abbrev cX6_takes : ByteArray := prog_8_method_34_code
def yX6_takes : MethodName := ⟨RX6, "takes", "(I)Z"⟩
abbrev cX6_readOne : ByteArray := prog_8_method_35_code
def yX6_readOne : MethodName := ⟨RX6, "readOne", "(II)I"⟩
abbrev cX6_readPerson : ByteArray := prog_8_method_36_code
def yX6_readPerson : MethodName := ⟨RX6, "readPerson", "(I)Z"⟩
abbrev cX6_readRule : ByteArray := prog_8_method_37_code
def yX6_readRule : MethodName := ⟨RX6, "readRule", "(I)Z"⟩
abbrev cX6_readAll : ByteArray := prog_8_method_38_code
def yX6_readAll : MethodName := ⟨RX6, "readAll", "(II)Z"⟩
abbrev cX6_end : ByteArray := prog_8_method_39_code
def yX6_end : MethodName := ⟨RX6, "end", "(Z)I"⟩
abbrev cX6_family : ByteArray := prog_8_method_40_code
def yX6_family : MethodName := ⟨RX6, "family", "()I"⟩
abbrev cX6_rules : ByteArray := prog_8_method_41_code
def yX6_rules : MethodName := ⟨RX6, "rules", "()I"⟩
abbrev cX6_count : ByteArray := prog_8_method_42_code
def yX6_count : MethodName := ⟨RX6, "count", "(I)I"⟩
abbrev cX6_end1 : ByteArray := prog_8_method_43_code
def yX6_end1 : MethodName := ⟨RX6, "end1", "(II)V"⟩
abbrev cX6_die : ByteArray := prog_8_method_44_code
def yX6_die : MethodName := ⟨RX6, "die", "(I)I"⟩
abbrev cX6_dies : ByteArray := prog_8_method_45_code
def yX6_dies : MethodName := ⟨RX6, "dies", "(I)I"⟩
abbrev cX6_gathers : ByteArray := prog_8_method_46_code
def yX6_gathers : MethodName := ⟨RX6, "gathers", "(II)I"⟩
abbrev cX6_balanceOf : ByteArray := prog_8_method_47_code
def yX6_balanceOf : MethodName := ⟨RX6, "balanceOf", "(I)I"⟩
abbrev cX6_balance : ByteArray := prog_8_method_48_code
def yX6_balance : MethodName := ⟨RX6, "balance", "(I)I"⟩
abbrev cX6_paid : ByteArray := prog_8_method_49_code
def yX6_paid : MethodName := ⟨RX6, "paid", "()I"⟩
abbrev cX6_keepAside : ByteArray := prog_8_method_50_code
def yX6_keepAside : MethodName := ⟨RX6, "keepAside", "()V"⟩
abbrev cX6_bringBack : ByteArray := prog_8_method_51_code
def yX6_bringBack : MethodName := ⟨RX6, "bringBack", "()V"⟩
abbrev cX6_nextOrder : ByteArray := prog_8_method_52_code
def yX6_nextOrder : MethodName := ⟨RX6, "nextOrder", "(I)Z"⟩
abbrev cX6_firstOrder : ByteArray := prog_8_method_53_code
def yX6_firstOrder : MethodName := ⟨RX6, "firstOrder", "(I)I"⟩
abbrev cX6_allLive : ByteArray := prog_8_method_54_code
def yX6_allLive : MethodName := ⟨RX6, "allLive", "(I)Z"⟩
abbrev cX6_isFew : ByteArray := prog_8_method_55_code
def yX6_isFew : MethodName := ⟨RX6, "isFew", "(I)Z"⟩
abbrev cX6_orders : ByteArray := prog_8_method_56_code
def yX6_orders : MethodName := ⟨RX6, "orders", "(III)I"⟩
abbrev cX6_carried : ByteArray := prog_8_method_57_code
def yX6_carried : MethodName := ⟨RX6, "carried", "(IIZ)I"⟩
abbrev cX6_store : ByteArray := prog_8_method_58_code
def yX6_store : MethodName := ⟨RX6, "store", "([I)V"⟩
abbrev cX6_load : ByteArray := prog_8_method_59_code
def yX6_load : MethodName := ⟨RX6, "load", "([I)V"⟩
abbrev cX6_image : ByteArray := prog_8_method_60_code
def yX6_image : MethodName := ⟨RX6, "image", "()I"⟩
abbrev cX6_restore : ByteArray := prog_8_method_61_code
def yX6_restore : MethodName := ⟨RX6, "restore", "()I"⟩
abbrev cX6_areAsNow : ByteArray := prog_8_method_62_code
def yX6_areAsNow : MethodName := ⟨RX6, "areAsNow", "()Z"⟩
abbrev cX6_explained : ByteArray := prog_8_method_63_code
def yX6_explained : MethodName := ⟨RX6, "explained", "(I)I"⟩
abbrev cX6_nextDraw : ByteArray := prog_8_method_64_code
def yX6_nextDraw : MethodName := ⟨RX6, "nextDraw", "(I)I"⟩
abbrev cX6_nth : ByteArray := prog_8_method_65_code
def yX6_nth : MethodName := ⟨RX6, "nth", "(II)I"⟩
abbrev cX6_lots : ByteArray := prog_8_method_66_code
def yX6_lots : MethodName := ⟨RX6, "lots", "(I)I"⟩
abbrev cX6_seed : ByteArray := prog_8_method_67_code
def yX6_seed : MethodName := ⟨RX6, "seed", "(I)I"⟩
abbrev cX6_isSheet : ByteArray := prog_8_method_68_code
def yX6_isSheet : MethodName := ⟨RX6, "isSheet", "(II)Z"⟩
abbrev cX6_sheet : ByteArray := prog_8_method_69_code
def yX6_sheet : MethodName := ⟨RX6, "sheet", "(III)I"⟩
abbrev cX6_drop : ByteArray := prog_8_method_70_code
def yX6_drop : MethodName := ⟨RX6, "drop", "(I)I"⟩
abbrev cX6_lacksRow : ByteArray := prog_8_method_71_code
def yX6_lacksRow : MethodName := ⟨RX6, "lacksRow", "(IIII)I"⟩
abbrev cX6_item : ByteArray := prog_8_method_72_code
def yX6_item : MethodName := ⟨RX6, "item", "(IIII)I"⟩
abbrev cX6_dieAll : ByteArray := prog_8_method_73_code
def yX6_dieAll : MethodName := ⟨RX6, "dieAll", "(II)I"⟩
abbrev cX6_judged : ByteArray := prog_8_method_74_code
def yX6_judged : MethodName := ⟨RX6, "judged", "(IIII)I"⟩
abbrev cX6_canPair : ByteArray := prog_8_method_75_code
def yX6_canPair : MethodName := ⟨RX6, "canPair", "(I)Z"⟩
abbrev cX6_brings : ByteArray := prog_8_method_76_code
def yX6_brings : MethodName := ⟨RX6, "brings", "(IIIII)Z"⟩
abbrev cX6_findWed : ByteArray := prog_8_method_77_code
def yX6_findWed : MethodName := ⟨RX6, "findWed", "(IIII)I"⟩
abbrev cX6_wed : ByteArray := prog_8_method_78_code
def yX6_wed : MethodName := ⟨RX6, "wed", "(IIIIIII)I"⟩
abbrev cX6_film : ByteArray := prog_8_method_79_code
def yX6_film : MethodName := ⟨RX6, "film", "(III)I"⟩
abbrev cX6_copy : ByteArray := prog_8_method_80_code
def yX6_copy : MethodName := ⟨RX6, "copy", "(IIIII)I"⟩
def RJ6 : String := "java/lang/Integer"
def TJ6 : u_T := fun k => match k with
  | _ => ("", "", "", false)
def tyJ6 : Nat → FieldType := fun k => match k with
  | _ => .int
abbrev wsJ60 : List Cond := u_ws RJ6 TJ6 0
theorem nmJ6 : ∀ a, a < 0 → ∀ b, b < 0 → a ≠ b → (TJ6 a).2.1 ≠ (TJ6 b).2.1 := by decide +kernel
theorem tyJ6_ok : ∀ k, k < 0 → parseFieldDescriptor (TJ6 k).2.2.1 = some (tyJ6 k) := by decide +kernel
abbrev cJ6_bitCount_0f7a4 : ByteArray := prog_9_method_49_code
def yJ6_bitCount_0f7a4 : MethodName := ⟨RJ6, "bitCount", "(I)I"⟩
def RJ9 : String := "java/lang/Math"
def TJ9 : u_T := fun k => match k with
  | _ => ("", "", "", false)
def tyJ9 : Nat → FieldType := fun k => match k with
  | _ => .int
abbrev wsJ90 : List Cond := u_ws RJ9 TJ9 0
theorem nmJ9 : ∀ a, a < 0 → ∀ b, b < 0 → a ≠ b → (TJ9 a).2.1 ≠ (TJ9 b).2.1 := by decide +kernel
theorem tyJ9_ok : ∀ k, k < 0 → parseFieldDescriptor (TJ9 k).2.2.1 = some (tyJ9 k) := by decide +kernel
abbrev cJ9_max_7cf53 : ByteArray := prog_10_method_65_code
def yJ9_max_7cf53 : MethodName := ⟨RJ9, "max", "(II)I"⟩
def RJ10 : String := "java/lang/System"
def TJ10 : u_T := fun k => match k with
  | _ => ("", "", "", false)
def tyJ10 : Nat → FieldType := fun k => match k with
  | _ => .int
abbrev wsJ100 : List Cond := u_ws RJ10 TJ10 0
theorem nmJ10 : ∀ a, a < 0 → ∀ b, b < 0 → a ≠ b → (TJ10 a).2.1 ≠ (TJ10 b).2.1 := by decide +kernel
theorem tyJ10_ok : ∀ k, k < 0 → parseFieldDescriptor (TJ10 k).2.2.1 = some (tyJ10 k) := by decide +kernel
def RL : String := "KinGoodsLaw"
abbrev cL_law : ByteArray := code
def yL_law : MethodName := ⟨RL, "law", "([I)Z"⟩
abbrev vwCl : List vw_C := [(RX0, TX0, 15), (RX1, TX1, 5), (RX2, TX2, 3), (RX3, TX3, 4), (RX4, TX4, 3), (RX5, TX5, 8), (RX6, TX6, 30)]
theorem in_X0 : ∀ w ∈ wsX00, w ∈ lw_tbl := by decide +kernel
theorem ig_X0 : ∀ w ∈ wsX00, goodWord w = true := by decide +kernel
theorem in_X1 : ∀ w ∈ wsX10, w ∈ lw_tbl := by decide +kernel
theorem ig_X1 : ∀ w ∈ wsX10, goodWord w = true := by decide +kernel
theorem in_X2 : ∀ w ∈ wsX20, w ∈ lw_tbl := by decide +kernel
theorem ig_X2 : ∀ w ∈ wsX20, goodWord w = true := by decide +kernel
theorem in_X3 : ∀ w ∈ wsX30, w ∈ lw_tbl := by decide +kernel
theorem ig_X3 : ∀ w ∈ wsX30, goodWord w = true := by decide +kernel
theorem in_X4 : ∀ w ∈ wsX40, w ∈ lw_tbl := by decide +kernel
theorem ig_X4 : ∀ w ∈ wsX40, goodWord w = true := by decide +kernel
theorem in_X5 : ∀ w ∈ wsX50, w ∈ lw_tbl := by decide +kernel
theorem ig_X5 : ∀ w ∈ wsX50, goodWord w = true := by decide +kernel
theorem in_X6 : ∀ w ∈ wsX60, w ∈ lw_tbl := by decide +kernel
theorem ig_X6 : ∀ w ∈ wsX60, goodWord w = true := by decide +kernel
end
section
/-- which method: its name, bytes, locals, answer, level, class -/
abbrev MI : Type := MethodName × ByteArray × Nat × Option FieldType × Nat × Nat
def i_X0_init : MI := (yX0_init, cX0_init, 2, none, 1, 0)
def i_X0_takeFrom : MI := (yX0_takeFrom, cX0_takeFrom, 2, none, 1, 0)
def i_X0_clear : MI := (yX0_clear, cX0_clear, 1, none, 0, 0)
def i_X0_known : MI := (yX0_known, cX0_known, 2, some .boolean, 0, 0)
def i_X0_lives : MI := (yX0_lives, cX0_lives, 2, some .boolean, 1, 0)
def i_X0_isOf : MI := (yX0_isOf, cX0_isOf, 3, some .boolean, 1, 0)
def i_X0_isThing : MI := (yX0_isThing, cX0_isThing, 2, some .boolean, 0, 0)
def i_X0_allLive : MI := (yX0_allLive, cX0_allLive, 2, some .boolean, 0, 0)
def i_X0_addPerson : MI := (yX0_addPerson, cX0_addPerson, 5, some .int, 0, 0)
def i_X0_addThing : MI := (yX0_addThing, cX0_addThing, 6, some .int, 0, 0)
def i_X0_setRule : MI := (yX0_setRule, cX0_setRule, 4, none, 0, 0)
def i_X0_canMarry : MI := (yX0_canMarry, cX0_canMarry, 3, some .boolean, 2, 0)
def i_X0_join : MI := (yX0_join, cX0_join, 3, some .boolean, 3, 0)
def i_X0_houseOf : MI := (yX0_houseOf, cX0_houseOf, 4, some .int, 1, 0)
def i_X0_isIn : MI := (yX0_isIn, cX0_isIn, 3, some .boolean, 2, 0)
def i_X0_childrenOf : MI := (yX0_childrenOf, cX0_childrenOf, 4, some .int, 1, 0)
def i_X0_siblingsOf : MI := (yX0_siblingsOf, cX0_siblingsOf, 6, some .int, 1, 0)
def i_X0_ofSex : MI := (yX0_ofSex, cX0_ofSex, 5, some .int, 1, 0)
def i_X0_related : MI := (yX0_related, cX0_related, 4, some .int, 2, 0)
def i_X0_heirBy : MI := (yX0_heirBy, cX0_heirBy, 5, some .int, 3, 0)
def i_X0_member : MI := (yX0_member, cX0_member, 5, some .int, 1, 0)
def i_X0_heldBy : MI := (yX0_heldBy, cX0_heldBy, 4, some .int, 0, 0)
def i_X0_worthOfLands : MI := (yX0_worthOfLands, cX0_worthOfLands, 3, some .int, 1, 0)
def i_X0_owedTo : MI := (yX0_owedTo, cX0_owedTo, 4, some .int, 0, 0)
def i_X0_pass : MI := (yX0_pass, cX0_pass, 3, none, 4, 0)
def i_X0_bury : MI := (yX0_bury, cX0_bury, 3, none, 1, 0)
def i_X0_death : MI := (yX0_death, cX0_death, 3, none, 5, 0)
def i_X0_deaths : MI := (yX0_deaths, cX0_deaths, 4, none, 6, 0)
def i_X0_hasThingsOf : MI := (yX0_hasThingsOf, cX0_hasThingsOf, 3, some .boolean, 0, 0)
def i_X0_drawn : MI := (yX0_drawn, cX0_drawn, 2, some .int, 0, 0)
def i_X0_wives : MI := (yX0_wives, cX0_wives, 3, some .int, 1, 0)
def i_X0_lot : MI := (yX0_lot, cX0_lot, 3, some .int, 6, 0)
def i_X1_init : MI := (yX1_init, cX1_init, 1, none, 1, 1)
def i_X1_takes : MI := (yX1_takes, cX1_takes, 1, some .boolean, 1, 1)
def i_X1_gather : MI := (yX1_gather, cX1_gather, 3, none, 1, 1)
def i_X1_lay : MI := (yX1_lay, cX1_lay, 7, none, 1, 1)
def i_X2_init : MI := (yX2_init, cX2_init, 2, none, 1, 2)
def i_X2_isSheet : MI := (yX2_isSheet, cX2_isSheet, 1, some .boolean, 0, 2)
def i_X2_isLane : MI := (yX2_isLane, cX2_isLane, 1, some .boolean, 0, 2)
def i_X2_holds : MI := (yX2_holds, cX2_holds, 2, some .boolean, 0, 2)
def i_X2_spans : MI := (yX2_spans, cX2_spans, 4, some .boolean, 0, 2)
def i_X2_look : MI := (yX2_look, cX2_look, 5, some .int, 1, 2)
def i_X2_renew : MI := (yX2_renew, cX2_renew, 5, none, 0, 2)
def i_X2_get : MI := (yX2_get, cX2_get, 3, some .int, 0, 2)
def i_X2_put : MI := (yX2_put, cX2_put, 5, none, 0, 2)
def i_X2_move : MI := (yX2_move, cX2_move, 6, none, 1, 2)
def i_X3_init : MI := (yX3_init, cX3_init, 1, none, 2, 3)
def i_X3_tell : MI := (yX3_tell, cX3_tell, 6, none, 1, 3)
def i_X3_firstWhoCannotDie : MI := (yX3_firstWhoCannotDie, cX3_firstWhoCannotDie, 4, some .int, 1, 3)
def i_X3_fewest : MI := (yX3_fewest, cX3_fewest, 6, some .int, 6, 3)
def i_X3_isPair : MI := (yX3_isPair, cX3_isPair, 3, some .boolean, 3, 3)
def i_X3_brings : MI := (yX3_brings, cX3_brings, 7, some .boolean, 5, 3)
def i_X3_weds : MI := (yX3_weds, cX3_weds, 3, some .boolean, 4, 3)
def i_X4_init : MI := (yX4_init, cX4_init, 1, none, 1, 4)
def i_X4_put : MI := (yX4_put, cX4_put, 5, some .int, 1, 4)
def i_X4_byteOf : MI := (yX4_byteOf, cX4_byteOf, 4, some .int, 0, 4)
def i_X4_open : MI := (yX4_open, cX4_open, 1, none, 2, 4)
def i_X4_passBlanks : MI := (yX4_passBlanks, cX4_passBlanks, 2, none, 1, 4)
def i_X4_step : MI := (yX4_step, cX4_step, 1, none, 2, 4)
def i_X4_empty : MI := (yX4_empty, cX4_empty, 1, none, 0, 4)
def i_X4_next : MI := (yX4_next, cX4_next, 1, some .int, 0, 4)
def i_X4_skip : MI := (yX4_skip, cX4_skip, 2, some .boolean, 3, 4)
def i_X4_fault : MI := (yX4_fault, cX4_fault, 1, some .int, 0, 4)
def i_X4_readPeople : MI := (yX4_readPeople, cX4_readPeople, 3, some .int, 6, 4)
def i_X4_readPerson : MI := (yX4_readPerson, cX4_readPerson, 4, some .boolean, 5, 4)
def i_X4_readFather : MI := (yX4_readFather, cX4_readFather, 4, some .boolean, 4, 4)
def i_X4_readMother : MI := (yX4_readMother, cX4_readMother, 4, some .boolean, 4, 4)
def i_X4_readSpouse : MI := (yX4_readSpouse, cX4_readSpouse, 5, some .boolean, 4, 4)
def i_X4_readRules : MI := (yX4_readRules, cX4_readRules, 5, some .int, 4, 4)
def i_X4_kindOf : MI := (yX4_kindOf, cX4_kindOf, 2, some .int, 0, 4)
def i_X4_readRow : MI := (yX4_readRow, cX4_readRow, 7, some .boolean, 3, 4)
def i_X5_init : MI := (yX5_init, cX5_init, 1, none, 3, 5)
def i_X5_person : MI := (yX5_person, cX5_person, 4, some .int, 2, 5)
def i_X5_marry : MI := (yX5_marry, cX5_marry, 3, some .int, 4, 5)
def i_X5_adopt : MI := (yX5_adopt, cX5_adopt, 4, some .int, 2, 5)
def i_X5_god : MI := (yX5_god, cX5_god, 4, some .int, 1, 5)
def i_X5_told : MI := (yX5_told, cX5_told, 3, some .int, 2, 5)
def i_X5_kin : MI := (yX5_kin, cX5_kin, 3, some .int, 3, 5)
def i_X5_thing : MI := (yX5_thing, cX5_thing, 5, some .int, 2, 5)
def i_X5_of : MI := (yX5_of, cX5_of, 3, some .int, 1, 5)
def i_X5_rule : MI := (yX5_rule, cX5_rule, 5, some .int, 2, 5)
def i_X5_heir : MI := (yX5_heir, cX5_heir, 4, some .int, 4, 5)
def i_X5_type : MI := (yX5_type, cX5_type, 4, some .int, 2, 5)
def i_X5_family : MI := (yX5_family, cX5_family, 2, some .int, 7, 5)
def i_X5_rules : MI := (yX5_rules, cX5_rules, 2, some .int, 5, 5)
def i_X5_count : MI := (yX5_count, cX5_count, 2, some .int, 2, 5)
def i_X5_dies : MI := (yX5_dies, cX5_dies, 3, some .int, 6, 5)
def i_X5_gathers : MI := (yX5_gathers, cX5_gathers, 5, some .int, 3, 5)
def i_X5_balance : MI := (yX5_balance, cX5_balance, 2, some .int, 1, 5)
def i_X5_paid : MI := (yX5_paid, cX5_paid, 3, some .int, 1, 5)
def i_X5_orders : MI := (yX5_orders, cX5_orders, 6, some .int, 7, 5)
def i_X5_explained : MI := (yX5_explained, cX5_explained, 4, some .int, 7, 5)
def i_X5_lots : MI := (yX5_lots, cX5_lots, 4, some .int, 7, 5)
def i_X5_seed : MI := (yX5_seed, cX5_seed, 3, some .int, 0, 5)
def i_X5_image : MI := (yX5_image, cX5_image, 1, some .int, 2, 5)
def i_X5_restore : MI := (yX5_restore, cX5_restore, 1, some .int, 2, 5)
def i_X5_judged : MI := (yX5_judged, cX5_judged, 7, some .int, 2, 5)
def i_X5_wed : MI := (yX5_wed, cX5_wed, 10, some .int, 7, 5)
def i_X5_film : MI := (yX5_film, cX5_film, 6, some .int, 2, 5)
def i_X5_sheet : MI := (yX5_sheet, cX5_sheet, 4, some .int, 1, 5)
def i_X5_drop : MI := (yX5_drop, cX5_drop, 2, some .int, 1, 5)
def i_X5_item : MI := (yX5_item, cX5_item, 6, some .int, 2, 5)
def i_X5_copy : MI := (yX5_copy, cX5_copy, 6, some .int, 2, 5)
def i_X5_has : MI := (yX5_has, cX5_has, 2, some .boolean, 0, 5)
def i_X5_isKind : MI := (yX5_isKind, cX5_isKind, 1, some .boolean, 0, 5)
def i_X5_hasOtherSide : MI := (yX5_hasOtherSide, cX5_hasOtherSide, 1, some .boolean, 0, 5)
def i_X5_isRow : MI := (yX5_isRow, cX5_isRow, 5, some .boolean, 1, 5)
def i_X6_init : MI := (yX6_init, cX6_init, 2, none, 1, 6)
def i_X6_in : MI := (yX6_in, cX6_in, 6, some .boolean, 0, 6)
def i_X6_has : MI := (yX6_has, cX6_has, 2, some .boolean, 0, 6)
def i_X6_ones : MI := (yX6_ones, cX6_ones, 3, some .int, 0, 6)
def i_X6_isOne : MI := (yX6_isOne, cX6_isOne, 2, some .boolean, 1, 6)
def i_X6_isThing : MI := (yX6_isThing, cX6_isThing, 2, some .boolean, 1, 6)
def i_X6_livesOne : MI := (yX6_livesOne, cX6_livesOne, 2, some .boolean, 2, 6)
def i_X6_add : MI := (yX6_add, cX6_add, 4, none, 0, 6)
def i_X6_isParent : MI := (yX6_isParent, cX6_isParent, 3, some .boolean, 2, 6)
def i_X6_person : MI := (yX6_person, cX6_person, 4, some .int, 3, 6)
def i_X6_areAlike : MI := (yX6_areAlike, cX6_areAlike, 2, some .boolean, 0, 6)
def i_X6_areSiblings : MI := (yX6_areSiblings, cX6_areSiblings, 3, some .boolean, 1, 6)
def i_X6_isChild : MI := (yX6_isChild, cX6_isChild, 3, some .boolean, 0, 6)
def i_X6_canMarry : MI := (yX6_canMarry, cX6_canMarry, 4, some .boolean, 2, 6)
def i_X6_marryNow : MI := (yX6_marryNow, cX6_marryNow, 3, none, 0, 6)
def i_X6_marry : MI := (yX6_marry, cX6_marry, 3, some .int, 3, 6)
def i_X6_adopt : MI := (yX6_adopt, cX6_adopt, 4, some .int, 2, 6)
def i_X6_god : MI := (yX6_god, cX6_god, 4, some .int, 2, 6)
def i_X6_houseOf : MI := (yX6_houseOf, cX6_houseOf, 5, some .int, 0, 6)
def i_X6_told : MI := (yX6_told, cX6_told, 3, some .int, 2, 6)
def i_X6_isParentsSibling : MI := (yX6_isParentsSibling, cX6_isParentsSibling, 4, some .boolean, 2, 6)
def i_X6_areCousins : MI := (yX6_areCousins, cX6_areCousins, 5, some .boolean, 3, 6)
def i_X6_isRelation : MI := (yX6_isRelation, cX6_isRelation, 4, some .boolean, 4, 6)
def i_X6_kinOf : MI := (yX6_kinOf, cX6_kinOf, 5, some .int, 5, 6)
def i_X6_kin : MI := (yX6_kin, cX6_kin, 3, some .int, 6, 6)
def i_X6_hasOther : MI := (yX6_hasOther, cX6_hasOther, 1, some .boolean, 0, 6)
def i_X6_thing : MI := (yX6_thing, cX6_thing, 5, some .int, 3, 6)
def i_X6_of : MI := (yX6_of, cX6_of, 3, some .int, 2, 6)
def i_X6_rule : MI := (yX6_rule, cX6_rule, 7, some .int, 1, 6)
def i_X6_heirOf : MI := (yX6_heirOf, cX6_heirOf, 6, some .int, 6, 6)
def i_X6_heir : MI := (yX6_heir, cX6_heir, 4, some .int, 7, 6)
def i_X6_type : MI := (yX6_type, cX6_type, 5, some .int, 1, 6)
def i_X6_nextByte : MI := (yX6_nextByte, cX6_nextByte, 1, some .int, 0, 6)
def i_X6_takes : MI := (yX6_takes, cX6_takes, 3, some .boolean, 1, 6)
def i_X6_readOne : MI := (yX6_readOne, cX6_readOne, 4, some .int, 1, 6)
def i_X6_readPerson : MI := (yX6_readPerson, cX6_readPerson, 5, some .boolean, 2, 6)
def i_X6_readRule : MI := (yX6_readRule, cX6_readRule, 7, some .boolean, 2, 6)
def i_X6_readAll : MI := (yX6_readAll, cX6_readAll, 5, some .boolean, 3, 6)
def i_X6_end : MI := (yX6_end, cX6_end, 2, some .int, 1, 6)
def i_X6_family : MI := (yX6_family, cX6_family, 3, some .int, 4, 6)
def i_X6_rules : MI := (yX6_rules, cX6_rules, 5, some .int, 4, 6)
def i_X6_count : MI := (yX6_count, cX6_count, 8, some .int, 0, 6)
def i_X6_end1 : MI := (yX6_end1, cX6_end1, 3, none, 0, 6)
def i_X6_die : MI := (yX6_die, cX6_die, 5, some .int, 7, 6)
def i_X6_dies : MI := (yX6_dies, cX6_dies, 2, some .int, 8, 6)
def i_X6_gathers : MI := (yX6_gathers, cX6_gathers, 6, some .int, 1, 6)
def i_X6_balanceOf : MI := (yX6_balanceOf, cX6_balanceOf, 5, some .int, 0, 6)
def i_X6_balance : MI := (yX6_balance, cX6_balance, 2, some .int, 2, 6)
def i_X6_paid : MI := (yX6_paid, cX6_paid, 4, some .int, 1, 6)
def i_X6_keepAside : MI := (yX6_keepAside, cX6_keepAside, 2, none, 0, 6)
def i_X6_bringBack : MI := (yX6_bringBack, cX6_bringBack, 2, none, 0, 6)
def i_X6_nextOrder : MI := (yX6_nextOrder, cX6_nextOrder, 7, some .boolean, 0, 6)
def i_X6_firstOrder : MI := (yX6_firstOrder, cX6_firstOrder, 4, some .int, 1, 6)
def i_X6_allLive : MI := (yX6_allLive, cX6_allLive, 4, some .boolean, 3, 6)
def i_X6_isFew : MI := (yX6_isFew, cX6_isFew, 1, some .boolean, 1, 6)
def i_X6_orders : MI := (yX6_orders, cX6_orders, 8, some .int, 8, 6)
def i_X6_carried : MI := (yX6_carried, cX6_carried, 6, some .int, 0, 6)
def i_X6_store : MI := (yX6_store, cX6_store, 3, none, 1, 6)
def i_X6_load : MI := (yX6_load, cX6_load, 3, none, 1, 6)
def i_X6_image : MI := (yX6_image, cX6_image, 1, some .int, 2, 6)
def i_X6_restore : MI := (yX6_restore, cX6_restore, 1, some .int, 2, 6)
def i_X6_areAsNow : MI := (yX6_areAsNow, cX6_areAsNow, 3, some .boolean, 0, 6)
def i_X6_explained : MI := (yX6_explained, cX6_explained, 6, some .int, 8, 6)
def i_X6_nextDraw : MI := (yX6_nextDraw, cX6_nextDraw, 2, some .int, 0, 6)
def i_X6_nth : MI := (yX6_nth, cX6_nth, 4, some .int, 1, 6)
def i_X6_lots : MI := (yX6_lots, cX6_lots, 8, some .int, 8, 6)
def i_X6_seed : MI := (yX6_seed, cX6_seed, 3, some .int, 0, 6)
def i_X6_isSheet : MI := (yX6_isSheet, cX6_isSheet, 2, some .boolean, 1, 6)
def i_X6_sheet : MI := (yX6_sheet, cX6_sheet, 5, some .int, 2, 6)
def i_X6_drop : MI := (yX6_drop, cX6_drop, 2, some .int, 1, 6)
def i_X6_lacksRow : MI := (yX6_lacksRow, cX6_lacksRow, 5, some .int, 1, 6)
def i_X6_item : MI := (yX6_item, cX6_item, 6, some .int, 2, 6)
def i_X6_dieAll : MI := (yX6_dieAll, cX6_dieAll, 4, some .int, 8, 6)
def i_X6_judged : MI := (yX6_judged, cX6_judged, 7, some .int, 9, 6)
def i_X6_canPair : MI := (yX6_canPair, cX6_canPair, 4, some .boolean, 3, 6)
def i_X6_brings : MI := (yX6_brings, cX6_brings, 8, some .boolean, 9, 6)
def i_X6_findWed : MI := (yX6_findWed, cX6_findWed, 7, some .int, 10, 6)
def i_X6_wed : MI := (yX6_wed, cX6_wed, 10, some .int, 11, 6)
def i_X6_film : MI := (yX6_film, cX6_film, 6, some .int, 2, 6)
def i_X6_copy : MI := (yX6_copy, cX6_copy, 7, some .int, 1, 6)
def i_J6_bitCount : MI := (yJ6_bitCount_0f7a4, cJ6_bitCount_0f7a4, 1, some .int, 0, 7)
def mT : Nat → MI := fun k => match k with
  | 0 => i_X0_init
  | 1 => i_X0_takeFrom
  | 2 => i_X0_clear
  | 3 => i_X0_known
  | 4 => i_X0_lives
  | 5 => i_X0_isOf
  | 6 => i_X0_isThing
  | 7 => i_X0_allLive
  | 8 => i_X0_addPerson
  | 9 => i_X0_addThing
  | 10 => i_X0_setRule
  | 11 => i_X0_canMarry
  | 12 => i_X0_join
  | 13 => i_X0_houseOf
  | 14 => i_X0_isIn
  | 15 => i_X0_childrenOf
  | 16 => i_X0_siblingsOf
  | 17 => i_X0_ofSex
  | 18 => i_X0_related
  | 19 => i_X0_heirBy
  | 20 => i_X0_member
  | 21 => i_X0_heldBy
  | 22 => i_X0_worthOfLands
  | 23 => i_X0_owedTo
  | 24 => i_X0_pass
  | 25 => i_X0_bury
  | 26 => i_X0_death
  | 27 => i_X0_deaths
  | 28 => i_X0_hasThingsOf
  | 29 => i_X0_drawn
  | 30 => i_X0_wives
  | 31 => i_X0_lot
  | 32 => i_X1_init
  | 33 => i_X1_takes
  | 34 => i_X1_gather
  | 35 => i_X1_lay
  | 36 => i_X2_init
  | 37 => i_X2_isSheet
  | 38 => i_X2_isLane
  | 39 => i_X2_holds
  | 40 => i_X2_spans
  | 41 => i_X2_look
  | 42 => i_X2_renew
  | 43 => i_X2_get
  | 44 => i_X2_put
  | 45 => i_X2_move
  | 46 => i_X3_init
  | 47 => i_X3_tell
  | 48 => i_X3_firstWhoCannotDie
  | 49 => i_X3_fewest
  | 50 => i_X3_isPair
  | 51 => i_X3_brings
  | 52 => i_X3_weds
  | 53 => i_X4_init
  | 54 => i_X4_put
  | 55 => i_X4_byteOf
  | 56 => i_X4_open
  | 57 => i_X4_passBlanks
  | 58 => i_X4_step
  | 59 => i_X4_empty
  | 60 => i_X4_next
  | 61 => i_X4_skip
  | 62 => i_X4_fault
  | 63 => i_X4_readPeople
  | 64 => i_X4_readPerson
  | 65 => i_X4_readFather
  | 66 => i_X4_readMother
  | 67 => i_X4_readSpouse
  | 68 => i_X4_readRules
  | 69 => i_X4_kindOf
  | 70 => i_X4_readRow
  | 71 => i_X5_init
  | 72 => i_X5_person
  | 73 => i_X5_marry
  | 74 => i_X5_adopt
  | 75 => i_X5_god
  | 76 => i_X5_told
  | 77 => i_X5_kin
  | 78 => i_X5_thing
  | 79 => i_X5_of
  | 80 => i_X5_rule
  | 81 => i_X5_heir
  | 82 => i_X5_type
  | 83 => i_X5_family
  | 84 => i_X5_rules
  | 85 => i_X5_count
  | 86 => i_X5_dies
  | 87 => i_X5_gathers
  | 88 => i_X5_balance
  | 89 => i_X5_paid
  | 90 => i_X5_orders
  | 91 => i_X5_explained
  | 92 => i_X5_lots
  | 93 => i_X5_seed
  | 94 => i_X5_image
  | 95 => i_X5_restore
  | 96 => i_X5_judged
  | 97 => i_X5_wed
  | 98 => i_X5_film
  | 99 => i_X5_sheet
  | 100 => i_X5_drop
  | 101 => i_X5_item
  | 102 => i_X5_copy
  | 103 => i_X5_has
  | 104 => i_X5_isKind
  | 105 => i_X5_hasOtherSide
  | 106 => i_X5_isRow
  | 107 => i_X6_init
  | 108 => i_X6_in
  | 109 => i_X6_has
  | 110 => i_X6_ones
  | 111 => i_X6_isOne
  | 112 => i_X6_isThing
  | 113 => i_X6_livesOne
  | 114 => i_X6_add
  | 115 => i_X6_isParent
  | 116 => i_X6_person
  | 117 => i_X6_areAlike
  | 118 => i_X6_areSiblings
  | 119 => i_X6_isChild
  | 120 => i_X6_canMarry
  | 121 => i_X6_marryNow
  | 122 => i_X6_marry
  | 123 => i_X6_adopt
  | 124 => i_X6_god
  | 125 => i_X6_houseOf
  | 126 => i_X6_told
  | 127 => i_X6_isParentsSibling
  | 128 => i_X6_areCousins
  | 129 => i_X6_isRelation
  | 130 => i_X6_kinOf
  | 131 => i_X6_kin
  | 132 => i_X6_hasOther
  | 133 => i_X6_thing
  | 134 => i_X6_of
  | 135 => i_X6_rule
  | 136 => i_X6_heirOf
  | 137 => i_X6_heir
  | 138 => i_X6_type
  | 139 => i_X6_nextByte
  | 140 => i_X6_takes
  | 141 => i_X6_readOne
  | 142 => i_X6_readPerson
  | 143 => i_X6_readRule
  | 144 => i_X6_readAll
  | 145 => i_X6_end
  | 146 => i_X6_family
  | 147 => i_X6_rules
  | 148 => i_X6_count
  | 149 => i_X6_end1
  | 150 => i_X6_die
  | 151 => i_X6_dies
  | 152 => i_X6_gathers
  | 153 => i_X6_balanceOf
  | 154 => i_X6_balance
  | 155 => i_X6_paid
  | 156 => i_X6_keepAside
  | 157 => i_X6_bringBack
  | 158 => i_X6_nextOrder
  | 159 => i_X6_firstOrder
  | 160 => i_X6_allLive
  | 161 => i_X6_isFew
  | 162 => i_X6_orders
  | 163 => i_X6_carried
  | 164 => i_X6_store
  | 165 => i_X6_load
  | 166 => i_X6_image
  | 167 => i_X6_restore
  | 168 => i_X6_areAsNow
  | 169 => i_X6_explained
  | 170 => i_X6_nextDraw
  | 171 => i_X6_nth
  | 172 => i_X6_lots
  | 173 => i_X6_seed
  | 174 => i_X6_isSheet
  | 175 => i_X6_sheet
  | 176 => i_X6_drop
  | 177 => i_X6_lacksRow
  | 178 => i_X6_item
  | 179 => i_X6_dieAll
  | 180 => i_X6_judged
  | 181 => i_X6_canPair
  | 182 => i_X6_brings
  | 183 => i_X6_findWed
  | 184 => i_X6_wed
  | 185 => i_X6_film
  | 186 => i_X6_copy
  | 187 => i_J6_bitCount
  | _ => i_X0_clear
def Rn : Nat → String := fun k => match k with
  | 0 => RX0
  | 1 => RX1
  | 2 => RX2
  | 3 => RX3
  | 4 => RX4
  | 5 => RX5
  | 6 => RX6
  | 7 => RJ6
  | 8 => RL
  | _ => ""
def Tn : Nat → u_T := fun k => match k with
  | 0 => TX0
  | 1 => TX1
  | 2 => TX2
  | 3 => TX3
  | 4 => TX4
  | 5 => TX5
  | _ => TX6
def tyn : Nat → Nat → FieldType := fun k => match k with
  | 0 => tyX0
  | 1 => tyX1
  | 2 => tyX2
  | 3 => tyX3
  | 4 => tyX4
  | 5 => tyX5
  | _ => tyX6
def nF : Nat → Nat := fun k => match k with
  | 0 => 15
  | 1 => 5
  | 2 => 3
  | 3 => 4
  | 4 => 3
  | 5 => 8
  | _ => 30
/-- a field that holds a cell: how far its number is from the object's; 0: it holds an int -/
def offs : Nat → Nat → Nat := fun c j => match c, j with
  | 0, 2 => 3
  | 0, 3 => 4
  | 0, 4 => 5
  | 0, 5 => 6
  | 0, 6 => 7
  | 0, 8 => 9
  | 0, 9 => 10
  | 0, 10 => 11
  | 0, 11 => 12
  | 0, 12 => 13
  | 0, 13 => 14
  | 1, 0 => 1
  | 1, 1 => 2
  | 1, 2 => 3
  | 2, 0 => 1
  | 2, 1 => 2
  | 2, 2 => 3
  | 3, 0 => 100
  | 3, 1 => 2
  | 3, 3 => 4
  | 4, 0 => 1
  | 5, 0 => 100
  | 5, 1 => 200
  | 5, 2 => 300
  | 5, 3 => 400
  | 5, 4 => 500
  | 5, 5 => 600
  | 5, 6 => 700
  | 6, 0 => 1
  | 6, 1 => 2
  | 6, 2 => 3
  | 6, 3 => 4
  | 6, 4 => 5
  | 6, 5 => 6
  | 6, 7 => 8
  | 6, 8 => 9
  | 6, 9 => 10
  | 6, 10 => 11
  | 6, 12 => 13
  | 6, 13 => 14
  | 6, 15 => 16
  | 6, 19 => 20
  | 6, 20 => 21
  | 6, 21 => 22
  | 6, 23 => 24
  | 6, 24 => 25
  | 6, 25 => 26
  | 6, 26 => 27
  | 6, 27 => 28
  | 6, 28 => 29
  | 6, 29 => 30
  | _, _ => 0
/-- the cells: number, class (7: an int array), length -/
def idTab : List (Nat × Nat × Nat) := [(0, 5, 0), (100, 0, 0), (103, 7, 12), (104, 7, 12), (105, 7, 12), (106, 7, 12), (107, 7, 12), (109, 7, 12), (110, 7, 12), (111, 7, 12), (112, 7, 12), (113, 7, 4), (114, 7, 4), (200, 0, 0), (203, 7, 12), (204, 7, 12), (205, 7, 12), (206, 7, 12), (207, 7, 12), (209, 7, 12), (210, 7, 12), (211, 7, 12), (212, 7, 12), (213, 7, 4), (214, 7, 4), (300, 0, 0), (303, 7, 12), (304, 7, 12), (305, 7, 12), (306, 7, 12), (307, 7, 12), (309, 7, 12), (310, 7, 12), (311, 7, 12), (312, 7, 12), (313, 7, 4), (314, 7, 4), (400, 4, 0), (401, 7, 120), (500, 2, 0), (501, 7, 4), (502, 7, 4), (503, 7, 96), (600, 1, 0), (601, 7, 5), (602, 7, 5), (603, 7, 5), (700, 3, 0), (702, 7, 8), (704, 7, 4), (800, 0, 0), (803, 7, 12), (804, 7, 12), (805, 7, 12), (806, 7, 12), (807, 7, 12), (809, 7, 12), (810, 7, 12), (811, 7, 12), (812, 7, 12), (813, 7, 4), (814, 7, 4), (900, 6, 0), (901, 7, 12), (902, 7, 12), (903, 7, 12), (904, 7, 12), (905, 7, 12), (906, 7, 12), (908, 7, 12), (909, 7, 12), (910, 7, 12), (911, 7, 12), (913, 7, 12), (914, 7, 4), (916, 7, 120), (920, 7, 60), (921, 7, 48), (922, 7, 5), (924, 7, 139), (925, 7, 139), (926, 7, 4), (927, 7, 4), (928, 7, 96), (929, 7, 2), (930, 7, 24)]
def idsL : List Nat := idTab.map (fun q => q.1)
def clsOf : Nat → Nat := fun k => match k with
  | 0 => 5
  | 100 => 0
  | 103 => 7
  | 104 => 7
  | 105 => 7
  | 106 => 7
  | 107 => 7
  | 109 => 7
  | 110 => 7
  | 111 => 7
  | 112 => 7
  | 113 => 7
  | 114 => 7
  | 200 => 0
  | 203 => 7
  | 204 => 7
  | 205 => 7
  | 206 => 7
  | 207 => 7
  | 209 => 7
  | 210 => 7
  | 211 => 7
  | 212 => 7
  | 213 => 7
  | 214 => 7
  | 300 => 0
  | 303 => 7
  | 304 => 7
  | 305 => 7
  | 306 => 7
  | 307 => 7
  | 309 => 7
  | 310 => 7
  | 311 => 7
  | 312 => 7
  | 313 => 7
  | 314 => 7
  | 400 => 4
  | 401 => 7
  | 500 => 2
  | 501 => 7
  | 502 => 7
  | 503 => 7
  | 600 => 1
  | 601 => 7
  | 602 => 7
  | 603 => 7
  | 700 => 3
  | 702 => 7
  | 704 => 7
  | 800 => 0
  | 803 => 7
  | 804 => 7
  | 805 => 7
  | 806 => 7
  | 807 => 7
  | 809 => 7
  | 810 => 7
  | 811 => 7
  | 812 => 7
  | 813 => 7
  | 814 => 7
  | 900 => 6
  | 901 => 7
  | 902 => 7
  | 903 => 7
  | 904 => 7
  | 905 => 7
  | 906 => 7
  | 908 => 7
  | 909 => 7
  | 910 => 7
  | 911 => 7
  | 913 => 7
  | 914 => 7
  | 916 => 7
  | 920 => 7
  | 921 => 7
  | 922 => 7
  | 924 => 7
  | 925 => 7
  | 926 => 7
  | 927 => 7
  | 928 => 7
  | 929 => 7
  | 930 => 7
  | _ => 99
def lenOf : Nat → Nat := fun k => match k with
  | 103 => 12
  | 104 => 12
  | 105 => 12
  | 106 => 12
  | 107 => 12
  | 109 => 12
  | 110 => 12
  | 111 => 12
  | 112 => 12
  | 113 => 4
  | 114 => 4
  | 203 => 12
  | 204 => 12
  | 205 => 12
  | 206 => 12
  | 207 => 12
  | 209 => 12
  | 210 => 12
  | 211 => 12
  | 212 => 12
  | 213 => 4
  | 214 => 4
  | 303 => 12
  | 304 => 12
  | 305 => 12
  | 306 => 12
  | 307 => 12
  | 309 => 12
  | 310 => 12
  | 311 => 12
  | 312 => 12
  | 313 => 4
  | 314 => 4
  | 401 => 120
  | 501 => 4
  | 502 => 4
  | 503 => 96
  | 601 => 5
  | 602 => 5
  | 603 => 5
  | 702 => 8
  | 704 => 4
  | 803 => 12
  | 804 => 12
  | 805 => 12
  | 806 => 12
  | 807 => 12
  | 809 => 12
  | 810 => 12
  | 811 => 12
  | 812 => 12
  | 813 => 4
  | 814 => 4
  | 901 => 12
  | 902 => 12
  | 903 => 12
  | 904 => 12
  | 905 => 12
  | 906 => 12
  | 908 => 12
  | 909 => 12
  | 910 => 12
  | 911 => 12
  | 913 => 12
  | 914 => 4
  | 916 => 120
  | 920 => 60
  | 921 => 48
  | 922 => 5
  | 924 => 139
  | 925 => 139
  | 926 => 4
  | 927 => 4
  | 928 => 96
  | 929 => 2
  | 930 => 24
  | _ => 0
def fLT : List (Nat × Nat × Nat × Nat × Nat) := [(0, 9, 0, 0, 65), (5, 158, 0, 0, 66), (0, 15, 0, 1, 67), (5, 162, 0, 1, 68), (0, 18, 0, 2, 69), (5, 79, 0, 2, 70), (4, 78, 0, 2, 71), (0, 22, 0, 3, 72), (5, 72, 0, 3, 73), (4, 72, 0, 3, 74), (0, 25, 0, 4, 75), (5, 82, 0, 4, 76), (4, 75, 0, 4, 77), (0, 28, 0, 5, 78), (5, 85, 0, 5, 79), (4, 81, 0, 5, 80), (0, 31, 0, 6, 81), (5, 76, 0, 6, 82), (0, 34, 0, 7, 83), (5, 170, 0, 7, 84), (0, 37, 0, 8, 85), (5, 109, 0, 8, 86), (0, 40, 0, 9, 87), (5, 112, 0, 9, 88), (0, 43, 0, 10, 89), (5, 115, 0, 10, 90), (0, 46, 0, 11, 91), (5, 118, 0, 11, 92), (0, 49, 0, 12, 93), (5, 124, 0, 12, 94), (0, 52, 0, 13, 95), (0, 55, 0, 14, 96), (5, 228, 0, 14, 97), (4, 11, 4, 0, 136), (4, 15, 4, 1, 137), (4, 19, 4, 2, 138), (2, 11, 2, 0, 152), (5, 262, 2, 0, 153), (2, 15, 2, 1, 154), (5, 265, 2, 1, 155), (2, 18, 2, 2, 156), (1, 9, 1, 0, 170), (1, 15, 1, 1, 171), (1, 18, 1, 2, 172), (5, 211, 1, 2, 173), (1, 21, 1, 3, 174), (5, 214, 1, 3, 175), (1, 25, 1, 4, 176), (5, 205, 1, 4, 177), (3, 12, 3, 0, 197), (3, 18, 3, 1, 198), (3, 22, 3, 2, 199), (3, 26, 3, 3, 200), (5, 245, 3, 3, 201), (5, 10, 5, 0, 211), (5, 16, 5, 1, 212), (5, 19, 5, 2, 213), (5, 25, 5, 3, 214), (5, 32, 5, 4, 215), (5, 39, 5, 5, 216), (5, 46, 5, 6, 217), (5, 50, 5, 7, 218), (6, 7, 6, 0, 688), (6, 13, 6, 1, 689), (6, 16, 6, 2, 690), (6, 19, 6, 3, 691), (6, 22, 6, 4, 692), (6, 25, 6, 5, 693), (6, 83, 6, 6, 694), (6, 28, 6, 7, 695), (6, 31, 6, 8, 696), (6, 34, 6, 9, 697), (6, 37, 6, 10, 698), (6, 90, 6, 11, 699), (6, 40, 6, 12, 700), (6, 43, 6, 13, 701), (6, 46, 6, 14, 702), (6, 50, 6, 15, 703), (6, 171, 6, 16, 704), (6, 174, 6, 17, 705), (6, 197, 6, 18, 706), (6, 53, 6, 19, 707), (6, 56, 6, 20, 708), (6, 59, 6, 21, 709), (6, 249, 6, 22, 710), (6, 62, 6, 23, 711), (6, 65, 6, 24, 712), (6, 68, 6, 25, 713), (6, 71, 6, 26, 714), (6, 74, 6, 27, 715), (6, 77, 6, 28, 716), (6, 80, 6, 29, 717)]
def mLT : List (Nat × Nat × Nat × Nat) := [(8, 13, 72, 236), (5, 54, 5, 240), (0, 64, 3, 244), (5, 58, 8, 248), (8, 18, 73, 252), (5, 62, 12, 256), (0, 78, 11, 260), (0, 72, 5, 264), (0, 75, 4, 265), (8, 23, 74, 272), (5, 65, 3, 276), (5, 69, 4, 277), (8, 27, 75, 278), (8, 31, 76, 282), (5, 88, 13, 286), (8, 35, 77, 290), (5, 92, 18, 294), (0, 85, 15, 298), (0, 88, 17, 302), (0, 92, 16, 306), (8, 39, 78, 310), (5, 96, 104, 314), (5, 99, 105, 317), (5, 102, 9, 320), (8, 44, 79, 324), (5, 106, 6, 328), (8, 48, 80, 332), (5, 121, 106, 336), (5, 276, 103, 339), (5, 127, 10, 340), (8, 52, 81, 344), (5, 131, 19, 348), (0, 95, 18, 352), (0, 98, 20, 353), (8, 58, 82, 357), (5, 134, 54, 361), (4, 22, 55, 365), (8, 63, 83, 370), (5, 138, 1, 374), (5, 142, 2, 381), (5, 145, 56, 385), (4, 28, 57, 389), (4, 31, 60, 393), (5, 148, 63, 397), (4, 38, 64, 401), (4, 35, 58, 405), (4, 49, 8, 409), (4, 55, 3, 410), (4, 58, 65, 411), (4, 45, 61, 415), (4, 68, 5, 419), (4, 62, 66, 420), (4, 65, 67, 424), (4, 42, 62, 428), (5, 152, 59, 432), (8, 68, 84, 436), (5, 155, 68, 440), (4, 84, 69, 444), (4, 94, 70, 450), (4, 100, 10, 455), (8, 72, 85, 456), (5, 165, 187, 460), (5, 173, 21, 466), (5, 176, 22, 470), (8, 77, 86, 474), (5, 180, 26, 478), (0, 104, 24, 482), (0, 101, 19, 486), (0, 108, 25, 487), (8, 81, 87, 491), (5, 184, 14, 495), (0, 81, 13, 499), (8, 85, 88, 500), (5, 188, 23, 505), (8, 89, 89, 509), (8, 93, 90, 516), (5, 196, 33, 520), (1, 28, 187, 523), (5, 199, 7, 524), (5, 202, 34, 528), (5, 208, 35, 533), (5, 217, 27, 538), (0, 112, 26, 542), (8, 97, 91, 543), (5, 221, 28, 547), (8, 101, 92, 551), (5, 225, 31, 555), (0, 118, 29, 559), (0, 121, 187, 566), (0, 126, 30, 567), (0, 130, 8, 571), (8, 105, 93, 572), (8, 109, 94, 576), (8, 113, 95, 580), (8, 117, 96, 584), (5, 231, 41, 588), (2, 21, 37, 592), (2, 25, 38, 595), (2, 28, 39, 598), (2, 31, 40, 602), (5, 234, 47, 606), (3, 29, 43, 610), (5, 238, 48, 614), (8, 121, 97, 619), (5, 241, 49, 623), (3, 39, 51, 627), (3, 50, 1, 631), (3, 54, 52, 632), (3, 68, 12, 636), (3, 57, 24, 637), (3, 61, 25, 638), (3, 65, 14, 639), (3, 43, 50, 640), (3, 47, 11, 644), (8, 126, 98, 645), (5, 248, 44, 649), (8, 130, 99, 653), (5, 250, 37, 657), (5, 253, 38, 658), (5, 256, 42, 659), (8, 134, 100, 663), (5, 259, 39, 667), (8, 138, 101, 668), (8, 142, 102, 672), (5, 268, 40, 676), (5, 272, 45, 677), (8, 17, 116, 779), (6, 86, 108, 783), (6, 97, 115, 786), (6, 93, 111, 790), (6, 101, 114, 794), (8, 22, 122, 798), (6, 114, 120, 802), (6, 108, 118, 806), (6, 105, 117, 810), (6, 111, 119, 813), (6, 117, 121, 817), (8, 26, 123, 821), (8, 30, 124, 825), (8, 34, 126, 829), (6, 121, 125, 833), (8, 38, 131, 837), (6, 137, 130, 842), (6, 131, 129, 846), (6, 128, 128, 850), (6, 125, 127, 854), (8, 43, 133, 858), (6, 145, 113, 864), (6, 148, 132, 868), (8, 47, 134, 871), (6, 151, 112, 875), (8, 51, 135, 879), (6, 154, 110, 883), (8, 55, 137, 886), (6, 160, 136, 890), (6, 157, 109, 894), (8, 62, 138, 897), (8, 67, 146, 905), (6, 200, 144, 909), (6, 191, 142, 913), (6, 177, 139, 917), (6, 181, 140, 921), (6, 184, 141, 925), (6, 194, 143, 929), (6, 203, 145, 935), (8, 71, 147, 939), (8, 76, 148, 943), (8, 80, 151, 947), (6, 210, 150, 951), (6, 207, 149, 955), (8, 84, 152, 959), (8, 88, 154, 964), (6, 215, 153, 968), (8, 92, 155, 973), (8, 96, 162, 977), (6, 221, 161, 981), (6, 224, 160, 985), (6, 229, 159, 990), (6, 232, 156, 994), (6, 235, 157, 998), (6, 238, 158, 1002), (8, 112, 166, 1006), (6, 245, 164, 1010), (6, 241, 163, 1014), (8, 116, 167, 1018), (6, 253, 165, 1022), (8, 100, 169, 1026), (6, 256, 168, 1030), (8, 104, 172, 1034), (6, 269, 170, 1039), (6, 272, 171, 1047), (8, 108, 173, 1050), (8, 133, 175, 1054), (6, 277, 174, 1058), (8, 137, 176, 1062), (8, 141, 178, 1066), (6, 280, 177, 1070), (8, 120, 180, 1074), (6, 284, 179, 1078), (8, 125, 184, 1082), (6, 296, 183, 1087), (6, 290, 182, 1091), (6, 287, 181, 1095), (8, 129, 185, 1099), (8, 146, 186, 1103)]
def mLN : List (Nat × Nat × Nat × Nat) := [(0, 68, 103, 269), (4, 88, 104, 448), (4, 91, 103, 449), (4, 97, 106, 454), (1, 34, 103, 532), (3, 35, 103, 618)]
def cpT : List (Nat × Nat × Nat) := [(0, 58, 378), (1, 38, 537), (2, 35, 681)]
def mxT : List (Nat × Nat × Nat) := [(5, 191, 513)]
def mFT : List (Nat × Nat × Bool × Nat × Nat × Nat × Nat) := [(1, 1, false, 377, 42, 375, 376), (2, 0, false, 384, 42, 382, 383), (3, 1, false, 247, 42, 245, 246), (4, 1, false, 268, 42, 266, 267), (5, 2, false, 243, 42, 241, 242), (6, 1, false, 331, 42, 329, 330), (7, 1, false, 527, 42, 525, 526), (8, 3, false, 251, 42, 249, 250), (9, 4, false, 323, 42, 321, 322), (10, 3, false, 343, 42, 341, 342), (11, 2, false, 263, 42, 261, 262), (12, 2, false, 259, 42, 257, 258), (13, 1, false, 289, 42, 287, 288), (14, 2, false, 498, 42, 496, 497), (15, 1, false, 301, 42, 299, 300), (16, 1, false, 309, 42, 307, 308), (17, 2, false, 305, 42, 303, 304), (18, 2, false, 297, 42, 295, 296), (19, 2, false, 351, 42, 349, 350), (20, 2, false, 356, 42, 354, 355), (21, 1, false, 469, 42, 467, 468), (22, 0, false, 473, 42, 471, 472), (23, 1, false, 508, 42, 506, 507), (24, 2, false, 485, 42, 483, 484), (25, 1, false, 490, 42, 488, 489), (26, 1, false, 481, 42, 479, 480), (27, 2, false, 541, 42, 539, 540), (28, 1, false, 550, 42, 548, 549), (29, 1, false, 562, 42, 560, 561), (30, 0, false, 570, 42, 568, 569), (31, 0, false, 558, 42, 556, 557), (33, 1, true, 522, 45, 521, 0), (34, 1, false, 531, 45, 529, 530), (35, 1, false, 536, 45, 534, 535), (37, 1, true, 594, 44, 593, 0), (38, 1, true, 597, 44, 596, 0), (39, 1, false, 601, 44, 599, 600), (40, 3, false, 605, 44, 603, 604), (41, 4, false, 591, 44, 589, 590), (42, 3, false, 662, 44, 660, 661), (43, 2, false, 613, 44, 611, 612), (44, 3, false, 652, 44, 650, 651), (45, 5, false, 680, 44, 678, 679), (47, 4, false, 609, 46, 607, 608), (48, 1, false, 617, 46, 615, 616), (49, 3, false, 626, 46, 624, 625), (50, 2, false, 643, 46, 641, 642), (51, 5, false, 630, 46, 628, 629), (52, 2, false, 635, 46, 633, 634), (54, 2, false, 364, 43, 362, 363), (55, 2, false, 368, 43, 366, 367), (56, 0, false, 388, 43, 386, 387), (57, 0, false, 392, 43, 390, 391), (58, 0, false, 408, 43, 406, 407), (59, 0, false, 435, 43, 433, 434), (60, 0, false, 396, 43, 394, 395), (61, 1, false, 418, 43, 416, 417), (62, 0, false, 431, 43, 429, 430), (63, 1, false, 400, 43, 398, 399), (64, 1, false, 404, 43, 402, 403), (65, 2, false, 414, 43, 412, 413), (66, 2, false, 423, 43, 421, 422), (67, 2, false, 427, 43, 425, 426), (68, 1, false, 443, 43, 441, 442), (69, 1, false, 447, 43, 445, 446), (70, 2, false, 453, 43, 451, 452), (72, 3, false, 239, 41, 237, 238), (73, 2, false, 255, 41, 253, 254), (74, 2, false, 275, 41, 273, 274), (75, 2, false, 281, 41, 279, 280), (76, 2, false, 285, 41, 283, 284), (77, 2, false, 293, 41, 291, 292), (78, 4, false, 313, 41, 311, 312), (79, 2, false, 327, 41, 325, 326), (80, 3, false, 335, 41, 333, 334), (81, 2, false, 347, 41, 345, 346), (82, 2, false, 360, 41, 358, 359), (83, 0, false, 373, 41, 371, 372), (84, 0, false, 439, 41, 437, 438), (85, 1, false, 459, 41, 457, 458), (86, 1, false, 477, 41, 475, 476), (87, 2, false, 494, 41, 492, 493), (88, 1, false, 503, 41, 501, 502), (89, 0, false, 512, 41, 510, 511), (90, 3, false, 519, 41, 517, 518), (91, 1, false, 546, 41, 544, 545), (92, 1, false, 554, 41, 552, 553), (93, 1, false, 575, 41, 573, 574), (94, 0, false, 579, 41, 577, 578), (95, 0, false, 583, 41, 581, 582), (96, 4, false, 587, 41, 585, 586), (97, 7, false, 622, 41, 620, 621), (98, 3, false, 648, 41, 646, 647), (99, 3, false, 656, 41, 654, 655), (100, 1, false, 666, 41, 664, 665), (101, 4, false, 671, 41, 669, 670), (102, 5, false, 675, 41, 673, 674), (103, 2, true, 271, 41, 270, 0), (104, 1, true, 316, 41, 315, 0), (105, 1, true, 319, 41, 318, 0), (106, 2, true, 338, 41, 337, 0), (108, 3, true, 785, 47, 784, 0), (109, 2, true, 896, 47, 895, 0), (110, 1, true, 885, 47, 884, 0), (111, 1, false, 793, 47, 792, 1), (112, 1, false, 878, 47, 877, 13), (113, 1, false, 867, 47, 866, 12), (114, 3, false, 797, 47, 796, 2), (115, 2, false, 789, 47, 788, 0), (116, 3, false, 782, 47, 780, 781), (117, 2, true, 812, 47, 811, 0), (118, 2, false, 809, 47, 808, 4), (119, 2, false, 816, 47, 815, 5), (120, 2, false, 805, 47, 804, 3), (121, 2, false, 820, 47, 819, 6), (122, 2, false, 801, 47, 799, 800), (123, 2, false, 824, 47, 822, 823), (124, 2, false, 828, 47, 826, 827), (125, 1, false, 836, 47, 835, 7), (126, 2, false, 832, 47, 830, 831), (127, 2, false, 857, 47, 856, 11), (128, 2, false, 853, 47, 852, 10), (129, 3, false, 849, 47, 848, 9), (130, 2, false, 845, 47, 844, 8), (131, 2, false, 840, 47, 838, 839), (132, 1, true, 870, 47, 869, 0), (133, 4, false, 861, 47, 859, 860), (134, 2, false, 874, 47, 872, 873), (135, 3, false, 882, 47, 880, 881), (136, 2, false, 893, 47, 892, 14), (137, 2, false, 889, 47, 887, 888), (138, 2, false, 900, 47, 898, 899), (139, 0, false, 920, 47, 919, 17), (140, 1, false, 924, 47, 923, 18), (141, 2, false, 928, 47, 927, 19), (142, 1, false, 916, 47, 915, 16), (143, 1, false, 932, 47, 931, 20), (144, 2, false, 912, 47, 911, 15), (145, 1, false, 938, 47, 937, 21), (146, 0, false, 908, 47, 906, 907), (147, 0, false, 942, 47, 940, 941), (148, 1, false, 946, 47, 944, 945), (149, 2, false, 958, 47, 957, 23), (150, 1, false, 954, 47, 953, 22), (151, 1, false, 950, 47, 948, 949), (152, 2, false, 962, 47, 960, 961), (153, 1, false, 971, 47, 970, 24), (154, 1, false, 967, 47, 965, 966), (155, 0, false, 976, 47, 974, 975), (156, 0, false, 997, 47, 996, 27), (157, 0, false, 1001, 47, 1000, 28), (158, 1, false, 1005, 47, 1004, 29), (159, 1, false, 993, 47, 992, 26), (160, 1, false, 988, 47, 987, 25), (161, 1, true, 983, 47, 982, 0), (162, 3, false, 980, 47, 978, 979), (163, 3, false, 1017, 47, 1016, 31), (164, 1, false, 1013, 47, 1012, 30), (165, 1, false, 1025, 47, 1024, 32), (166, 0, false, 1009, 47, 1007, 1008), (167, 0, false, 1021, 47, 1019, 1020), (168, 0, false, 1033, 47, 1032, 33), (169, 1, false, 1029, 47, 1027, 1028), (170, 1, false, 1042, 47, 1041, 34), (171, 2, true, 1049, 47, 1048, 0), (172, 1, false, 1037, 47, 1035, 1036), (173, 1, false, 1053, 47, 1051, 1052), (174, 2, true, 1060, 47, 1059, 0), (175, 3, false, 1057, 47, 1055, 1056), (176, 1, false, 1065, 47, 1063, 1064), (177, 4, false, 1073, 47, 1072, 35), (178, 4, false, 1069, 47, 1067, 1068), (179, 2, false, 1081, 47, 1080, 36), (180, 4, false, 1077, 47, 1075, 1076), (181, 1, false, 1098, 47, 1097, 39), (182, 5, false, 1094, 47, 1093, 38), (183, 4, false, 1090, 47, 1089, 37), (184, 7, false, 1085, 47, 1083, 1084), (185, 3, false, 1102, 47, 1100, 1101), (186, 5, false, 1106, 47, 1104, 1105), (187, 1, true, 462, 49, 461, 0)]
def cIT : List (Nat × Nat × Int32 × Nat) := [(7, 265, nI 1431655765, 463), (7, 266, nI 858993459, 464), (7, 267, nI 252645135, 465), (5, 187, (-100000001), 504), (0, 115, nI 1103515245, 563), (0, 116, nI 2147483647, 564), (0, 117, nI 65536, 565), (6, 218, (-100000001), 972), (6, 266, nI 65536, 1046)]
def cLT : List (Nat × Nat × Int64 × Nat) := [(4, 26, 255, 369), (6, 135, 5, 841), (6, 141, 3, 862), (6, 143, 99, 863), (6, 163, 8, 901), (6, 165, 255, 902), (6, 167, 32, 903), (6, 169, 126, 904), (6, 187, 48, 933), (6, 189, 57, 934), (6, 213, 11, 963), (6, 219, 4095, 984), (6, 227, 13, 989), (6, 267, 30, 1038), (6, 260, 1103515245, 1043), (6, 262, 12345, 1044), (6, 264, 2147483647, 1045), (6, 275, 2, 1061), (6, 294, -1, 1086), (8, 56, 4294967295, 1107)]
end
section
/-! THE WALKER: a method's body is walked by a function (vc) over cells that are numbers; proved once to tell of the machine (V_run) -/
abbrev St : Type := Nat → Nat → Int32
abbrev Ax : Type := Int32 ⊕ (Int64 ⊕ (List Nat ⊕ ((Nat × Nat × Nat × Bool) ⊕ (Nat × Nat × Bool × Bool × Nat))))
def aC (c : Int32) : Ax := .inl c
def aL (c : Int64) : Ax := .inr (.inl c)
def aT (t : List Nat) : Ax := .inr (.inr (.inl t))
def aF (ci j o : Nat) (b : Bool) : Ax := .inr (.inr (.inr (.inl (ci, j, o, b))))
def aM (k n : Nat) (st rt : Bool) (ci : Nat) : Ax := .inr (.inr (.inr (.inr (k, n, st, rt, ci))))
def gC (a : Ax) : Int32 := match a with | .inl c => c | _ => 0
def gL (a : Ax) : Int64 := match a with | .inr (.inl c) => c | _ => 0
def gT (a : Ax) : List Nat := match a with | .inr (.inr (.inl t)) => t | _ => []
def gF (a : Ax) : Nat × Nat × Nat × Bool := match a with | .inr (.inr (.inr (.inl t))) => t | _ => (99, 0, 0, false)
def gM (a : Ax) : Nat × Nat × Bool × Bool × Nat := match a with | .inr (.inr (.inr (.inr t))) => t | _ => (999, 0, false, false, 99)
/-- instruction, its place in the list, its pc, whether a walk halts there, what goes with it -/
abbrev Ins : Type := Instr × Nat × Nat × Bool × Ax
def wr (σ : St) (k j : Nat) (v : Int32) : St := fun k' => if k' = k then upd (σ k) j v else σ k'
def wrR (σ : St) (k : Nat) (f : Nat → Int32) : St := fun k' => if k' = k then f else σ k'
def BIG : List Cond := lw_tbl.filter goodWord
def rmL (d : Nat) : Room := { frames := d, cells := 0, slots := 0, locals := 42 * d }
def cv (ad : Nat → Nat) (v : Value) : Value := match v with | .ref k => .ref (ad k) | v => v
def fv (ad : Nat → Nat) (σ : St) (k j : Nat) : Value := if offs (clsOf k) j = 0 then .int (σ k j) else .ref (ad (k + offs (clsOf k) j))
def cellE (cI : ClassId) (ad : Nat → Nat) (σ : St) (k : Nat) : va_E := if clsOf k < 7 then .inr (clsOf k, (List.range (nF (clsOf k))).map (fv ad σ k)) else .inl (cI, lenOf k, .inl (σ k))
def wsW (cI : ClassId) (ad : Nat → Nat) (σ : St) : va_W := idsL.map fun k => (ad k, cellE cI ad σ k)
def nestL : List Cond := mLN.map fun q => Cond.methodLinkNest (Rn q.1) q.2.1 (mT q.2.2.1).1 RX5
def Wd (D : va_G) (cI : ClassId) (U : State) : Prop := va_K D vwCl [(cI, .int)] U ∧ ∀ w ∈ nestL, va_Nw w U
def Bk (D : va_G) (cI : ClassId) (ad : Nat → Nat) (A : Nat → Prop) (σ : St) (t : State) : Prop := va_P D vwCl (wsW cI ad σ) t.heap ∧ Wd D cI t ∧ va_D A (wsW cI ad σ)
def Pw (D : va_G) (cI : ClassId) (ad : Nat → Nat) (σ : St) (sz : Nat) (U : State) : Prop := U.heap.size = sz ∧ va_P D vwCl (wsW cI ad σ) U.heap ∧ Wd D cI U ∧ va_D (fun _ => True) (wsW cI ad σ)
/-- a method's end: an answer r (0 of a method without one) and the store -/
def Qc (rt : Option FieldType) (Q : Int32 → St → Prop) (D : va_G) (cI : ClassId) (ad : Nat → Nat) (A : Nat → Prop) : Array Value → State → Outcome → State → Prop :=
  match rt with
  | none => va_Qv (fun σ' : St => Q 0 σ') (Bk D cI ad A) A
  | some _ => va_Qi (fun r (σ' : St) => Q r σ') (Bk D cI ad A) A
abbrev Spec : Type := List Value → St → (Int32 → St → Prop) → Prop
/-- a method does what S says -/
def AMet (l : Launch) (mi : MI) (S : Spec) : Prop :=
  ∀ (D : va_G) (cI : ClassId) (ad : Nat → Nat) (σ : St) (as : List Value) (Q : Int32 → St → Prop) (sz : Nat), S as σ Q →
    Met l mi.1 (.code mi.1 mi.2.1 mi.2.2.1 mi.2.2.2.1 :: BIG) (rmL mi.2.2.2.2.1)
      (va_Pc (as.map (cv ad)) (Pw D cI ad σ sz))
      (Qc mi.2.2.2.1 Q D cI ad (va_A (wsW cI ad σ) sz)) 0 0 (va_A (wsW cI ad σ) sz)
def CallAt (l : Launch) (k : Nat) (as : List Value) (σ : St) (K : Int32 → St → Prop) : Prop := ∃ S : Spec, AMet l (mT k) S ∧ S as σ K
def okR (rt : Option FieldType) (v : Int32) : Prop := match rt with
  | some .int => True
  | some .boolean => v = nI 0 ∨ v = nI 1
  | _ => False
def lng (v : Value) : Bool := v.category == 2
def lngB (L : List Value) (k : Nat) : Bool := match k with | 0 => false | j + 1 => lng (L.getD j .null)
def swT (jp : Nat → Prop) (x : Int32) : Nat → List Nat → Prop
  | _, [] => True
  | n, t :: r => (x = nI n → jp t) ∧ swT jp x (n + 1) r
def swL (jp : Nat → Prop) (x : Int32) (d : Nat) : List (Int × Int) → List Nat → Prop
  | (a, _) :: r, t :: ts => (x = Int32.ofInt a → jp t) ∧ (¬ x = Int32.ofInt a → swL jp x d r ts)
  | [], [] => jp d
  | _, _ => False
def cnd (c : ClassFile.Cond) (x y : Int32) : Prop := match c with
  | .eq => x = y
  | .ne => ¬ x = y
  | .lt => x < y
  | .ge => y ≤ x
  | .gt => y < x
  | .le => x ≤ y
section Step
variable (l : Launch) (rt : Option FieldType) (Q : Int32 → St → Prop)
def stp (i : Ins) (L S : List Value) (σ : St) (nx : List Value → List Value → St → Prop) (jp : Nat → List Value → List Value → St → Prop) : Prop :=
  match i.1 with
  | .iconst _ => nx L (.int (gC i.2.2.2.2) :: S) σ
  | .bipush _ => nx L (.int (gC i.2.2.2.2) :: S) σ
  | .sipush _ => nx L (.int (gC i.2.2.2.2) :: S) σ
  | .ldc _ => nx L (.int (gC i.2.2.2.2) :: S) σ
  | .ldc_w _ => nx L (.int (gC i.2.2.2.2) :: S) σ
  | .lconst _ => nx L (.long (gL i.2.2.2.2) :: S) σ
  | .ldc2_w _ => nx L (.long (gL i.2.2.2.2) :: S) σ
  | .iload k => (match L.getD k .null with | .int x => nx L (.int x :: S) σ | _ => False)
  | .iload_n k => (match L.getD k.val .null with | .int x => nx L (.int x :: S) σ | _ => False)
  | .lload k => (match L.getD k .null with | .long x => nx L (.long x :: S) σ | _ => False)
  | .lload_n k => (match L.getD k.val .null with | .long x => nx L (.long x :: S) σ | _ => False)
  | .aload k => (match L.getD k .null with | .ref x => nx L (.ref x :: S) σ | _ => False)
  | .aload_n k => (match L.getD k.val .null with | .ref x => nx L (.ref x :: S) σ | _ => False)
  | .istore k => (match S with | .int x :: S => lngB L k = false ∧ nx (L.set k (.int x)) S σ | _ => False)
  | .istore_n k => (match S with | .int x :: S => lngB L k.val = false ∧ nx (L.set k.val (.int x)) S σ | _ => False)
  | .iinc k _ => (match L.getD k .null with | .int x => lngB L k = false ∧ nx (L.set k (.int (x + gC i.2.2.2.2))) S σ | _ => False)
  | .iadd => (match S with | .int y :: .int x :: S => nx L (.int (x + y) :: S) σ | _ => False)
  | .isub => (match S with | .int y :: .int x :: S => nx L (.int (x - y) :: S) σ | _ => False)
  | .imul => (match S with | .int y :: .int x :: S => nx L (.int (x * y) :: S) σ | _ => False)
  | .iand => (match S with | .int y :: .int x :: S => nx L (.int (x &&& y) :: S) σ | _ => False)
  | .ior => (match S with | .int y :: .int x :: S => nx L (.int (x ||| y) :: S) σ | _ => False)
  | .ixor => (match S with | .int y :: .int x :: S => nx L (.int (x ^^^ y) :: S) σ | _ => False)
  | .idiv => (match S with | .int y :: .int x :: S => (¬ y = 0) ∧ nx L (.int (x / y) :: S) σ | _ => False)
  | .irem => (match S with | .int y :: .int x :: S => (¬ y = 0) ∧ nx L (.int (x - x / y * y) :: S) σ | _ => False)
  | .ishl => (match S with | .int y :: .int x :: S => nx L (.int (x <<< (y &&& 31)) :: S) σ | _ => False)
  | .ishr => (match S with | .int y :: .int x :: S => nx L (.int (x >>> (y &&& 31)) :: S) σ | _ => False)
  | .iushr => (match S with | .int y :: .int x :: S => nx L (.int ((x.toUInt32 >>> (y.toUInt32 &&& Int32.toUInt32 31)).toInt32) :: S) σ | _ => False)
  | .ladd => (match S with | .long y :: .long x :: S => nx L (.long (x + y) :: S) σ | _ => False)
  | .lsub => (match S with | .long y :: .long x :: S => nx L (.long (x - y) :: S) σ | _ => False)
  | .lmul => (match S with | .long y :: .long x :: S => nx L (.long (x * y) :: S) σ | _ => False)
  | .land => (match S with | .long y :: .long x :: S => nx L (.long (x &&& y) :: S) σ | _ => False)
  | .lor => (match S with | .long y :: .long x :: S => nx L (.long (x ||| y) :: S) σ | _ => False)
  | .lshl => (match S with | .int y :: .long x :: S => nx L (.long (x <<< (y.toInt64 &&& 63)) :: S) σ | _ => False)
  | .lshr => (match S with | .int y :: .long x :: S => nx L (.long (x >>> (y.toInt64 &&& 63)) :: S) σ | _ => False)
  | .lcmp => (match S with | .long y :: .long x :: S => nx L (.int (lg_cmp x y) :: S) σ | _ => False)
  | .i2l => (match S with | .int x :: S => nx L (.long x.toInt64 :: S) σ | _ => False)
  | .l2i => (match S with | .long x :: S => nx L (.int x.toInt32 :: S) σ | _ => False)
  | .i2b => (match S with | .int x :: S => nx L (.int x.toInt8.toInt32 :: S) σ | _ => False)
  | .i2s => (match S with | .int x :: S => nx L (.int x.toInt16.toInt32 :: S) σ | _ => False)
  | .dup => (match S with | .int x :: S => nx L (.int x :: .int x :: S) σ | .ref x :: S => nx L (.ref x :: .ref x :: S) σ | _ => False)
  | .pop => (match S with | .int _ :: S => nx L S σ | _ => False)
  | .goto _ => (match gT i.2.2.2.2 with | [t] => jp t L S σ | _ => False)
  | .ifCond c _ => (match S, gT i.2.2.2.2 with | .int x :: S, [t] => (cnd c x (nI 0) → jp t L S σ) ∧ (¬ cnd c x (nI 0) → nx L S σ) | _, _ => False)
  | .if_icmp c _ => (match S, gT i.2.2.2.2 with | .int y :: .int x :: S, [t] => (cnd c x y → jp t L S σ) ∧ (¬ cnd c x y → nx L S σ) | _, _ => False)
  | .tableswitch _ lo hi _ => (match S, gT i.2.2.2.2 with | .int x :: S, d :: ts => lo = 0 ∧ (hi : Int) + 1 = ts.length ∧ ts.length < 2 ^ 31 ∧ swT (fun t => jp t L S σ) x 0 ts ∧ ((x < nI 0 ∨ nI ts.length ≤ x) → jp d L S σ) | _, _ => False)
  | .lookupswitch _ ps => (match S, gT i.2.2.2.2 with | .int x :: S, d :: ts => swL (fun t => jp t L S σ) x d ps.toList ts | _, _ => False)
  | .getfield _ => (match S with | .ref k :: S => clsOf k = (gF i.2.2.2.2).1 ∧ nx L ((if (gF i.2.2.2.2).2.2.1 = 0 then .int (σ k (gF i.2.2.2.2).2.1) else .ref (k + (gF i.2.2.2.2).2.2.1)) :: S) σ | _ => False)
  | .putfield _ => (match S with | .int v :: .ref k :: S => clsOf k = (gF i.2.2.2.2).1 ∧ ((gF i.2.2.2.2).2.2.2 = true → v = nI 0 ∨ v = nI 1) ∧ nx L S (wr σ k (gF i.2.2.2.2).2.1 v) | _ => False)
  | .iaload => (match S with | .int x :: .ref k :: S => clsOf k = 7 ∧ vp_in x (lenOf k) ∧ nx L (.int (σ k x.toNatClampNeg) :: S) σ | _ => False)
  | .iastore => (match S with | .int v :: .int x :: .ref k :: S => clsOf k = 7 ∧ vp_in x (lenOf k) ∧ nx L S (wr σ k x.toNatClampNeg v) | _ => False)
  | .arraylength => (match S with | .ref k :: S => clsOf k = 7 ∧ nx L (.int (nI (lenOf k)) :: S) σ | _ => False)
  | .invokevirtual _ => (match S.drop (gM i.2.2.2.2).2.1 with
      | .ref k :: S' => clsOf k = (gM i.2.2.2.2).2.2.2.2 ∧ S'.length ≤ 4 ∧ CallAt l (gM i.2.2.2.2).1 (.ref k :: (S.take (gM i.2.2.2.2).2.1).reverse) σ (fun r σ' => nx L (if (gM i.2.2.2.2).2.2.2.1 = true then .int r :: S' else S') σ')
      | _ => False)
  | .invokestatic _ =>
      if (gM i.2.2.2.2).1 = 900 then (match S with
        | .int n :: .int dp :: .ref kd :: .int sp :: .ref ks :: S => S.length ≤ 4 ∧ clsOf ks = 7 ∧ clsOf kd = 7 ∧ (¬ sp < 0) ∧ (¬ dp < 0) ∧ (¬ n < 0) ∧ sp.toNatClampNeg + n.toNatClampNeg ≤ lenOf ks ∧ dp.toNatClampNeg + n.toNatClampNeg ≤ lenOf kd ∧ nx L S (wrR σ kd (va_cpy (σ ks) (σ kd) sp.toNatClampNeg dp.toNatClampNeg n.toNatClampNeg))
        | _ => False)
      else if (gM i.2.2.2.2).1 = 901 then (match S with | .int y :: .int x :: S => S.length ≤ 4 ∧ nx L (.int (if x < y then y else x) :: S) σ | _ => False)
      else (S.take (gM i.2.2.2.2).2.1).length = (gM i.2.2.2.2).2.1 ∧ (S.drop (gM i.2.2.2.2).2.1).length ≤ 4 ∧ CallAt l (gM i.2.2.2.2).1 (S.take (gM i.2.2.2.2).2.1).reverse σ (fun r σ' => nx L (if (gM i.2.2.2.2).2.2.2.1 = true then .int r :: S.drop (gM i.2.2.2.2).2.1 else S.drop (gM i.2.2.2.2).2.1) σ')
  | .ireturn => (match S with | [.int v] => okR rt v ∧ Q v σ | _ => False)
  | .return_ => (match S with | [] => rt = none ∧ Q 0 σ | _ => False)
  | _ => False
/-- on from a place in the list: halt where it is marked -/
def goF (J : Nat → List Value → List Value → St → Prop) (f : List Ins → List Value → List Value → St → Prop) (r : List Ins) (L S : List Value) (σ : St) : Prop :=
  match r with
  | [] => False
  | j :: _ => if j.2.2.2.1 = true then J j.2.1 L S σ else f r L S σ
def vc (J : Nat → List Value → List Value → St → Prop) (cd : List Ins) : Nat → List Ins → List Value → List Value → St → Prop
  | 0, r, L, S, σ => (match r with | [] => False | j :: _ => J j.2.1 L S σ)
  | n + 1, r, L, S, σ => (match r with
    | [] => False
    | i :: r' => stp l rt Q i L S σ (goF J (vc J cd n) r') (fun t => goF J (vc J cd n) (cd.drop t)))
end Step
end
section
/-! what a list of instructions must be to stand for a method's bytes -/
def lnI (i : Instr) : Nat := match i with
  | .iload _ => 2 | .lload _ => 2 | .aload _ => 2 | .istore _ => 2 | .bipush _ => 2 | .ldc _ => 2
  | .sipush _ => 3 | .ldc_w _ => 3 | .ldc2_w _ => 3 | .iinc _ _ => 3 | .goto _ => 3 | .ifCond _ _ => 3 | .if_icmp _ _ => 3
  | .getfield _ => 3 | .putfield _ => 3 | .invokevirtual _ => 3 | .invokestatic _ => 3
  | _ => 1
def isSw (i : Instr) : Bool := match i with | .tableswitch _ _ _ _ => true | .lookupswitch _ _ => true | _ => false
def pcA (cd : List Ins) (k : Nat) : Nat := match cd[k]? with | some i => i.2.2.1 | none => 0
def okT (cd : List Ins) (pc : Nat) (o : Int) (t : Nat) : Bool := decide (t < cd.length) && decide ((pc : Int) + o = (pcA cd t : Int))
def okTs (cd : List Ins) (pc : Nat) : List Int → List Nat → Bool
  | [], [] => true
  | o :: os, t :: ts => okT cd pc o t && okTs cd pc os ts
  | _, _ => false
def okA (mi : MI) (cd : List Ins) (i : Ins) : Bool :=
  match i.1 with
  | .iconst n => decide (Int32.ofInt n = gC i.2.2.2.2)
  | .bipush n => decide ((Int8.ofInt n).toInt32 = gC i.2.2.2.2)
  | .sipush n => decide ((Int16.ofInt n).toInt32 = gC i.2.2.2.2)
  | .ldc x => cIT.any (fun q => q.1 == mi.2.2.2.2.2 && q.2.1 == x && decide (q.2.2.1 = gC i.2.2.2.2))
  | .ldc_w x => cIT.any (fun q => q.1 == mi.2.2.2.2.2 && q.2.1 == x && decide (q.2.2.1 = gC i.2.2.2.2))
  | .lconst n => decide (Int64.ofNat (n : Nat) = gL i.2.2.2.2)
  | .ldc2_w x => cLT.any (fun q => q.1 == mi.2.2.2.2.2 && q.2.1 == x && decide (q.2.2.1 = gL i.2.2.2.2))
  | .istore k => decide (k < mi.2.2.1)
  | .istore_n k => decide (k.val < mi.2.2.1)
  | .iinc k n => decide (k < mi.2.2.1) && decide (Int32.ofInt n = gC i.2.2.2.2)
  | .goto o => okTs cd i.2.2.1 [o] (gT i.2.2.2.2)
  | .ifCond _ o => okTs cd i.2.2.1 [o] (gT i.2.2.2.2)
  | .if_icmp _ o => okTs cd i.2.2.1 [o] (gT i.2.2.2.2)
  | .tableswitch d _ _ os => okTs cd i.2.2.1 (d :: os.toList) (gT i.2.2.2.2)
  | .lookupswitch d ps => okTs cd i.2.2.1 (d :: ps.toList.map (fun q => q.2)) (gT i.2.2.2.2) && ps.toList.all (fun q => decide ((Int32.ofInt q.1).toInt = q.1)) && (ps.toList.zip (ps.toList.drop 1)).all (fun (a, next) => a.1 < next.1)
  | .getfield x => fLT.any (fun q => q.1 == mi.2.2.2.2.2 && q.2.1 == x && q.2.2.1 == (gF i.2.2.2.2).1 && q.2.2.2.1 == (gF i.2.2.2.2).2.1) && offs (gF i.2.2.2.2).1 (gF i.2.2.2.2).2.1 == (gF i.2.2.2.2).2.2.1 && decide ((gF i.2.2.2.2).1 < 7) && decide ((gF i.2.2.2.2).2.1 < nF (gF i.2.2.2.2).1)
  | .putfield x => fLT.any (fun q => q.1 == mi.2.2.2.2.2 && q.2.1 == x && q.2.2.1 == (gF i.2.2.2.2).1 && q.2.2.2.1 == (gF i.2.2.2.2).2.1) && offs (gF i.2.2.2.2).1 (gF i.2.2.2.2).2.1 == 0 && decide ((gF i.2.2.2.2).1 < 7) && decide ((gF i.2.2.2.2).2.1 < nF (gF i.2.2.2.2).1) && !(Tn (gF i.2.2.2.2).1 (gF i.2.2.2.2).2.1).2.2.2 && decide (parseFieldDescriptor (Tn (gF i.2.2.2.2).1 (gF i.2.2.2.2).2.1).2.2.1 = some (if (gF i.2.2.2.2).2.2.2 then .boolean else .int))
  | .invokevirtual x => mLT.any (fun q => q.1 == mi.2.2.2.2.2 && q.2.1 == x && q.2.2.1 == (gM i.2.2.2.2).1) && mFT.any (fun q => q.1 == (gM i.2.2.2.2).1 && q.2.1 == (gM i.2.2.2.2).2.1 && q.2.2.1 == false) && (mT (gM i.2.2.2.2).1).2.2.2.2.2 == (gM i.2.2.2.2).2.2.2.2 && (mT (gM i.2.2.2.2).1).2.2.2.1.isSome == (gM i.2.2.2.2).2.2.2.1 && decide ((mT (gM i.2.2.2.2).1).2.2.2.2.1 < mi.2.2.2.2.1) && decide ((mT (gM i.2.2.2.2).1).2.2.1 ≤ 23) && decide ((gM i.2.2.2.2).2.2.2.2 < 7)
  | .invokestatic x => if (gM i.2.2.2.2).1 = 900 then cpT.any (fun q => q.1 == mi.2.2.2.2.2 && q.2.1 == x) && decide (1 ≤ mi.2.2.2.2.1)
      else if (gM i.2.2.2.2).1 = 901 then mxT.any (fun q => q.1 == mi.2.2.2.2.2 && q.2.1 == x) && decide (1 ≤ mi.2.2.2.2.1)
      else (mLT.any (fun q => q.1 == mi.2.2.2.2.2 && q.2.1 == x && q.2.2.1 == (gM i.2.2.2.2).1) || mLN.any (fun q => q.1 == mi.2.2.2.2.2 && q.2.1 == x && q.2.2.1 == (gM i.2.2.2.2).1)) && mFT.any (fun q => q.1 == (gM i.2.2.2.2).1 && q.2.1 == (gM i.2.2.2.2).2.1 && q.2.2.1 == true) && (mT (gM i.2.2.2.2).1).2.2.2.1.isSome == (gM i.2.2.2.2).2.2.2.1 && decide ((mT (gM i.2.2.2.2).1).2.2.2.2.1 < mi.2.2.2.2.1) && decide ((mT (gM i.2.2.2.2).1).2.2.1 ≤ 23)
  | _ => true
def okI (mi : MI) (cd : List Ins) (k : Nat) : Bool := match cd[k]? with
  | none => false
  | some i => i.2.1 == k && (match decode mi.2.1 i.2.2.1 with | .ok (j, n) => decide (j = i.1) && (isSw i.1 || n == lnI i.1) | .error _ => false) && (isSw i.1 || (match cd[k + 1]? with | some j => j.2.2.1 == i.2.2.1 + lnI i.1 | none => true)) && okA mi cd i
def okCode (mi : MI) (cd : List Ins) : Bool := (List.range cd.length).all (okI mi cd)
/-! the tables' words, by their places -/
theorem big_at {w : Cond} (i : Nat) (h : lw_tbl[i]? = some w) (g : goodWord w = true) : w ∈ BIG := List.mem_filter.mpr ⟨List.mem_of_getElem? h, g⟩
theorem big_good : ∀ w ∈ BIG, goodWord w = true := fun _ h => (List.mem_filter.mp h).2
theorem fLT_ok : fLT.all (fun q => decide (lw_tbl[q.2.2.2.2]? = some (Cond.fieldLink (Rn q.1) q.2.1 (Tn q.2.2.1 q.2.2.2.1).1 (Tn q.2.2.1 q.2.2.2.1).2.1 (Tn q.2.2.1 q.2.2.2.1).2.2.1))) = true := by decide +kernel
theorem mLT_ok : mLT.all (fun q => decide (lw_tbl[q.2.2.2]? = some (Cond.methodLink (Rn q.1) q.2.1 (mT q.2.2.1).1))) = true := by decide +kernel
theorem mLN_ok : mLN.all (fun q => decide (lw_tbl[q.2.2.2]? = some (Cond.methodLinkNest (Rn q.1) q.2.1 (mT q.2.2.1).1 RX5))) = true := by decide +kernel
theorem cIT_ok : cIT.all (fun q => decide (lw_tbl[q.2.2.2]? = some (Cond.constant (Rn q.1) q.2.1 q.2.2.1))) = true := by decide +kernel
theorem cLT_ok : cLT.all (fun q => decide (lw_tbl[q.2.2.2]? = some (Cond.constantLong (Rn q.1) q.2.1 q.2.2.1))) = true := by decide +kernel
theorem cpT_ok : cpT.all (fun q => decide (lw_tbl[q.2.2]? = some (Cond.methodLink (Rn q.1) q.2.1 arraycopyName))) = true := by decide +kernel
theorem mxT_ok : mxT.all (fun q => decide (lw_tbl[q.2.2]? = some (Cond.methodLink (Rn q.1) q.2.1 Lib.Math.max.name))) = true := by decide +kernel
/-- the facts of a method: code, initialised, static or instance and selected, its class' name, how many arguments -/
def mFq (q : Nat × Nat × Bool × Nat × Nat × Nat × Nat) : Bool :=
  decide ((mT q.1).1.cls = Rn (mT q.1).2.2.2.2.2) && decide (lw_tbl[q.2.2.2.2.1]? = some (Cond.initialized (Rn (mT q.1).2.2.2.2.2))) && (if q.2.2.1 then decide (lw_tbl[q.2.2.2.2.2.1]? = some (Cond.static (mT q.1).1)) else decide (lw_tbl[q.2.2.2.2.2.1]? = some (Cond.instanceMethod (mT q.1).1)) && decide (lw_tbl[q.2.2.2.2.2.2]? = some (Cond.selects (Rn (mT q.1).2.2.2.2.2) (mT q.1).1 (mT q.1).1)))
   && decide ((parseMethodDescriptor (mT q.1).1.desc).map (fun d => d.parameters.length) = some q.2.1)
theorem mFT_ok : mFT.all mFq = true := by decide +kernel
theorem Rn_plain : (List.range 9).all (fun k => decide (Rn k ≠ "java/lang/invoke/MethodHandle" ∧ Rn k ≠ "java/lang/invoke/VarHandle") && plainName (Rn k)) = true := by decide +kernel
theorem mT_own : (List.range 200).all (fun k => decide ((mT k).2.2.2.2.2 < 8)) = true := by decide +kernel
end
section
set_option maxRecDepth 1000000 in
theorem mFT_code : mFT.map (fun q => lw_tbl[q.2.2.2.1]?) = mFT.map (fun q => some (Cond.code (mT q.1).1 (mT q.1).2.1 (mT q.1).2.2.1 (mT q.1).2.2.2.1)) := by rfl
theorem ids_of {k : Nat} (h : clsOf k ≤ 7) : k ∈ idsL := by
  unfold clsOf at h
  split at h <;> first | decide | (exact absurd h (by decide))
theorem ids_nd : idsL.Nodup := by decide +kernel
theorem ids_pos {k : Nat} (h : clsOf k ≤ 7) : ∃ q : Nat, idsL[q]? = some k := List.getElem?_of_mem (ids_of h)
theorem ws_at {cI : ClassId} {ad : Nat → Nat} {σ : St} {q k : Nat} (h : idsL[q]? = some k) : (wsW cI ad σ)[q]? = some (ad k, cellE cI ad σ k) := by
  unfold wsW
  rw [List.getElem?_map, h]
  rfl
theorem cellE_eq {cI : ClassId} {ad : Nat → Nat} {σ σ' : St} {k : Nat} (h : σ' k = σ k) : cellE cI ad σ' k = cellE cI ad σ k := by
  have hf : fv ad σ' k = fv ad σ k := by funext j; simp [fv, h]
  simp [cellE, h, hf]
theorem ws_set {cI : ClassId} {ad : Nat → Nat} {σ σ' : St} {q k : Nat} {e : va_E} (hq : idsL[q]? = some k) (hσ : ∀ k', k' ≠ k → σ' k' = σ k') (he : cellE cI ad σ' k = e) : (wsW cI ad σ).set q (ad k, e) = wsW cI ad σ' := by
  have hql : q < idsL.length := (List.getElem?_eq_some_iff.mp hq).1
  apply List.ext_getElem?
  intro j
  by_cases hj : j = q
  · subst hj
    rw [List.getElem?_set_self (by simpa [wsW] using hql), ws_at hq, he]
  · rw [List.getElem?_set_ne (Ne.symm hj)]
    unfold wsW
    rw [List.getElem?_map, List.getElem?_map]
    cases hk : idsL[j]? with
    | none => rfl
    | some k' =>
      have hne : k' ≠ k := by
        intro h
        subst h
        exact hj ((List.getElem?_inj (List.getElem?_eq_some_iff.mp hk).1 ids_nd).mp (hk.trans hq.symm))
      simp [cellE_eq (hσ k' hne)]
theorem wr_ne {σ : St} {k j : Nat} {v : Int32} : ∀ k', k' ≠ k → wr σ k j v k' = σ k' := fun k' h => by simp [wr, h]
theorem wrR_ne {σ : St} {k : Nat} {f : Nat → Int32} : ∀ k', k' ≠ k → wrR σ k f k' = σ k' := fun k' h => by simp [wrR, h]
theorem cell_obj {cI : ClassId} {ad : Nat → Nat} {σ : St} {k ci : Nat} (h : clsOf k = ci) (hc : ci < 7) : cellE cI ad σ k = .inr (ci, (List.range (nF ci)).map (fv ad σ k)) := by
  subst h
  simp [cellE, hc]
theorem cell_arr {cI : ClassId} {ad : Nat → Nat} {σ : St} {k : Nat} (h : clsOf k = 7) : cellE cI ad σ k = .inl (cI, lenOf k, .inl (σ k)) := by
  simp [cellE, h]
/-- the addresses don't move -/
theorem wsD {A B : Nat → Prop} {cI : ClassId} {ad : Nat → Nat} {σ σ' : St} (h : va_D A (wsW cI ad σ)) (hB : ∀ (k : Nat) (q : Nat × va_E), (wsW cI ad σ)[k]? = some q → B q.1) : va_D B (wsW cI ad σ') := by
  have key : ∀ (i : Nat) (x : Nat × va_E), (wsW cI ad σ')[i]? = some x → ∃ y, (wsW cI ad σ)[i]? = some y ∧ y.1 = x.1 := by
    intro i x hx
    unfold wsW at hx ⊢
    rw [List.getElem?_map] at hx ⊢
    cases hk : idsL[i]? with
    | none => rw [hk] at hx; cases hx
    | some k => rw [hk] at hx; cases hx; exact ⟨_, rfl, rfl⟩
  refine ⟨fun i j x y hi hj hxy => ?_, fun i x hi => ?_⟩
  · obtain ⟨x', h1, h2⟩ := key i x hi
    obtain ⟨y', h3, h4⟩ := key j y hj
    exact h.1 i j x' y' h1 h3 (h2.trans (hxy.trans h4.symm))
  · obtain ⟨x', h1, h2⟩ := key i x hi
    rw [← h2]
    exact hB i x' h1
/-! locals -/
def LsOk (ls : Array Slot) (nL : Nat) (ad : Nat → Nat) (L : List Value) : Prop := ls.size = nL ∧ lv_wf ls ∧ L.length = nL ∧ ∀ (i : Nat) (v : Value), L[i]? = some v → v ≠ .null → ls[i]? = some (.val (cv ad v))
def toL (ad : Nat → Nat) (L : List Value) : List (Nat × Value) := (List.range L.length).filterMap (fun i => if L.getD i .null = .null then none else some (i, cv ad (L.getD i .null)))
theorem getD_some {L : List Value} {k : Nat} {v : Value} (h : L.getD k .null = v) (hv : v ≠ .null) : L[k]? = some v := by
  rw [List.getD_eq_getElem?_getD] at h
  cases hk : L[k]? with
  | none => rw [hk] at h; exact absurd h.symm hv
  | some w => rw [hk] at h; simpa using h
theorem LsOk.get {ls : Array Slot} {nL : Nat} {ad : Nat → Nat} {L : List Value} (h : LsOk ls nL ad L) {k : Nat} {v : Value} (hk : L.getD k .null = v) (hv : v ≠ .null) : ls[k]? = some (.val (cv ad v)) := h.2.2.2 k v (getD_some hk hv) hv
theorem toL_mem {ad : Nat → Nat} {L : List Value} {i : Nat} {v : Value} (h : L[i]? = some v) (hv : v ≠ .null) : (i, cv ad v) ∈ toL ad L := by
  have hl := (List.getElem?_eq_some_iff.mp h).1
  have hg : L.getD i .null = v := by rw [List.getD_eq_getElem?_getD, h]; rfl
  exact List.mem_filterMap.mpr ⟨i, List.mem_range.mpr hl, by rw [hg, if_neg hv]⟩
theorem LsOk.lv {ls : Array Slot} {nL : Nat} {ad : Nat → Nat} {L : List Value} (h : LsOk ls nL ad L) : lv_has ls nL (toL ad L) := by
  refine ⟨h.1, h.2.1, fun q hq => ?_⟩
  obtain ⟨i, -, hi⟩ := List.mem_filterMap.mp hq
  by_cases hn : L.getD i .null = .null
  · rw [if_pos hn] at hi; cases hi
  · rw [if_neg hn] at hi
    cases hi
    exact h.get rfl hn
theorem cv_cat {ad : Nat → Nat} (v : Value) : (cv ad v).category = v.category := by cases v <;> rfl
theorem LsOk.set {ls ls' : Array Slot} {nL : Nat} {ad : Nat → Nat} {L : List Value} {k : Nat} {x : Int32} (h : LsOk ls nL ad L) (hb : lngB L k = false) (h' : lv_has ls' nL ((k, Value.int x) :: (toL ad L).filter (fun q => !(q.1 == k) && !(q.1 + 1 == k && q.2.category == 2)))) : LsOk ls' nL ad (L.set k (.int x)) := by
  refine ⟨h'.1, h'.2.1, by rw [List.length_set]; exact h.2.2.1, fun i v hi hv => ?_⟩
  by_cases hik : i = k
  · subst hik
    have hl : i < L.length := by
      have := (List.getElem?_eq_some_iff.mp hi).1
      rwa [List.length_set] at this
    rw [List.getElem?_set_self hl] at hi
    cases hi
    exact h'.2.2 (i, .int x) List.mem_cons_self
  · rw [List.getElem?_set_ne (Ne.symm hik)] at hi
    refine h'.2.2 (i, cv ad v) (List.mem_cons_of_mem _ (List.mem_filter.mpr ⟨toL_mem hi hv, ?_⟩))
    simp only [Bool.and_eq_true, Bool.not_eq_true', beq_eq_false_iff_ne, Bool.and_eq_false_iff, cv_cat]
    refine ⟨hik, ?_⟩
    by_cases h1 : i + 1 = k
    · right
      subst h1
      have hg : L.getD i .null = v := by rw [List.getD_eq_getElem?_getD, hi]; rfl
      unfold lngB lng at hb
      dsimp only at hb
      rw [hg] at hb
      simpa using hb
    · left
      exact h1
end
section
theorem cl_at {ci : Nat} (h : ci < 7) : vwCl[ci]? = some (Rn ci, Tn ci, nF ci) := by
  rcases (show ci = 0 ∨ ci = 1 ∨ ci = 2 ∨ ci = 3 ∨ ci = 4 ∨ ci = 5 ∨ ci = 6 by omega) with rfl | rfl | rfl | rfl | rfl | rfl | rfl <;> rfl
theorem cl_in {ci : Nat} (h : ci < 7) : ∀ w ∈ u_ws (Rn ci) (Tn ci) (nF ci), w ∈ BIG := by
  intro w hw
  rcases (show ci = 0 ∨ ci = 1 ∨ ci = 2 ∨ ci = 3 ∨ ci = 4 ∨ ci = 5 ∨ ci = 6 by omega) with rfl | rfl | rfl | rfl | rfl | rfl | rfl
  · exact List.mem_filter.mpr ⟨in_X0 w hw, ig_X0 w hw⟩
  · exact List.mem_filter.mpr ⟨in_X1 w hw, ig_X1 w hw⟩
  · exact List.mem_filter.mpr ⟨in_X2 w hw, ig_X2 w hw⟩
  · exact List.mem_filter.mpr ⟨in_X3 w hw, ig_X3 w hw⟩
  · exact List.mem_filter.mpr ⟨in_X4 w hw, ig_X4 w hw⟩
  · exact List.mem_filter.mpr ⟨in_X5 w hw, ig_X5 w hw⟩
  · exact List.mem_filter.mpr ⟨in_X6 w hw, ig_X6 w hw⟩
theorem cl_ty {ci : Nat} (h : ci < 7) : ∀ k, k < nF ci → parseFieldDescriptor (Tn ci k).2.2.1 = some (tyn ci k) := by
  rcases (show ci = 0 ∨ ci = 1 ∨ ci = 2 ∨ ci = 3 ∨ ci = 4 ∨ ci = 5 ∨ ci = 6 by omega) with rfl | rfl | rfl | rfl | rfl | rfl | rfl
  · exact tyX0_ok
  · exact tyX1_ok
  · exact tyX2_ok
  · exact tyX3_ok
  · exact tyX4_ok
  · exact tyX5_ok
  · exact tyX6_ok
theorem cl_nm {ci : Nat} (h : ci < 7) : ∀ a, a < nF ci → ∀ b, b < nF ci → a ≠ b → (Tn ci a).2.1 ≠ (Tn ci b).2.1 := by
  rcases (show ci = 0 ∨ ci = 1 ∨ ci = 2 ∨ ci = 3 ∨ ci = 4 ∨ ci = 5 ∨ ci = 6 by omega) with rfl | rfl | rfl | rfl | rfl | rfl | rfl
  · exact nmX0
  · exact nmX1
  · exact nmX2
  · exact nmX3
  · exact nmX4
  · exact nmX5
  · exact nmX6
theorem fl_big {own x ci j : Nat} (h : fLT.any (fun q => q.1 == own && q.2.1 == x && q.2.2.1 == ci && q.2.2.2.1 == j) = true) : Cond.fieldLink (Rn own) x (Tn ci j).1 (Tn ci j).2.1 (Tn ci j).2.2.1 ∈ BIG := by
  obtain ⟨q, hq, h2⟩ := List.any_eq_true.mp h
  simp only [Bool.and_eq_true, beq_iff_eq] at h2
  obtain ⟨⟨⟨rfl, rfl⟩, rfl⟩, rfl⟩ := h2
  exact big_at _ (of_decide_eq_true (List.all_eq_true.mp fLT_ok q hq)) rfl
theorem ml_big {own x k : Nat} (h : mLT.any (fun q => q.1 == own && q.2.1 == x && q.2.2.1 == k) = true) : Cond.methodLink (Rn own) x (mT k).1 ∈ BIG := by
  obtain ⟨q, hq, h2⟩ := List.any_eq_true.mp h
  simp only [Bool.and_eq_true, beq_iff_eq] at h2
  obtain ⟨⟨rfl, rfl⟩, rfl⟩ := h2
  exact big_at _ (of_decide_eq_true (List.all_eq_true.mp mLT_ok q hq)) rfl
theorem mn_nest {own x k : Nat} (h : mLN.any (fun q => q.1 == own && q.2.1 == x && q.2.2.1 == k) = true) : Cond.methodLinkNest (Rn own) x (mT k).1 RX5 ∈ nestL := by
  obtain ⟨q, hq, h2⟩ := List.any_eq_true.mp h
  simp only [Bool.and_eq_true, beq_iff_eq] at h2
  obtain ⟨⟨rfl, rfl⟩, rfl⟩ := h2
  exact List.mem_map.mpr ⟨q, hq, rfl⟩
theorem ci_big {own x : Nat} {v : Int32} (h : cIT.any (fun q => q.1 == own && q.2.1 == x && decide (q.2.2.1 = v)) = true) : Cond.constant (Rn own) x v ∈ BIG := by
  obtain ⟨q, hq, h2⟩ := List.any_eq_true.mp h
  simp only [Bool.and_eq_true, beq_iff_eq, decide_eq_true_eq] at h2
  obtain ⟨⟨rfl, rfl⟩, rfl⟩ := h2
  exact big_at _ (of_decide_eq_true (List.all_eq_true.mp cIT_ok q hq)) rfl
theorem cl_big {own x : Nat} {v : Int64} (h : cLT.any (fun q => q.1 == own && q.2.1 == x && decide (q.2.2.1 = v)) = true) : Cond.constantLong (Rn own) x v ∈ BIG := by
  obtain ⟨q, hq, h2⟩ := List.any_eq_true.mp h
  simp only [Bool.and_eq_true, beq_iff_eq, decide_eq_true_eq] at h2
  obtain ⟨⟨rfl, rfl⟩, rfl⟩ := h2
  exact big_at _ (of_decide_eq_true (List.all_eq_true.mp cLT_ok q hq)) rfl
theorem cp_big {own x : Nat} (h : cpT.any (fun q => q.1 == own && q.2.1 == x) = true) : Cond.methodLink (Rn own) x arraycopyName ∈ BIG := by
  obtain ⟨q, hq, h2⟩ := List.any_eq_true.mp h
  simp only [Bool.and_eq_true, beq_iff_eq] at h2
  obtain ⟨rfl, rfl⟩ := h2
  exact big_at _ (of_decide_eq_true (List.all_eq_true.mp cpT_ok q hq)) rfl
theorem mx_big {own x : Nat} (h : mxT.any (fun q => q.1 == own && q.2.1 == x) = true) : Cond.methodLink (Rn own) x Lib.Math.max.name ∈ BIG := by
  obtain ⟨q, hq, h2⟩ := List.any_eq_true.mp h
  simp only [Bool.and_eq_true, beq_iff_eq] at h2
  obtain ⟨rfl, rfl⟩ := h2
  exact big_at _ (of_decide_eq_true (List.all_eq_true.mp mxT_ok q hq)) rfl
theorem bg_copy : Cond.native arraycopyName ∈ BIG ∧ Cond.static arraycopyName ∈ BIG ∧ Cond.initialized "java/lang/System" ∈ BIG := by
  refine ⟨List.mem_filter.mpr ⟨by decide +kernel, rfl⟩, List.mem_filter.mpr ⟨by decide +kernel, rfl⟩, List.mem_filter.mpr ⟨by decide +kernel, rfl⟩⟩
theorem bg_max : Cond.static Lib.Math.max.name ∈ BIG ∧ Cond.initialized "java/lang/Math" ∈ BIG := by
  refine ⟨List.mem_filter.mpr ⟨by decide +kernel, rfl⟩, List.mem_filter.mpr ⟨by decide +kernel, rfl⟩⟩
theorem mf_code {q : Nat × Nat × Bool × Nat × Nat × Nat × Nat} (hq : q ∈ mFT) : Cond.code (mT q.1).1 (mT q.1).2.1 (mT q.1).2.2.1 (mT q.1).2.2.2.1 ∈ BIG := by
  obtain ⟨i, hi⟩ := List.getElem?_of_mem hq
  have h := congrArg (fun z => z[i]?) mFT_code
  simp only [List.getElem?_map, hi, Option.map_some, Option.some.injEq] at h
  exact big_at _ h rfl
/-- what is known of a method that is called: k, how many arguments, static or not -/
theorem mf_all {k n : Nat} {st : Bool} (h : mFT.any (fun q => q.1 == k && q.2.1 == n && q.2.2.1 == st) = true) :
    Cond.code (mT k).1 (mT k).2.1 (mT k).2.2.1 (mT k).2.2.2.1 ∈ BIG ∧ Cond.initialized (mT k).1.cls ∈ BIG ∧ (mT k).1.cls = Rn (mT k).2.2.2.2.2 ∧ (parseMethodDescriptor (mT k).1.desc).map (fun d => d.parameters.length) = some n ∧ (if st then Cond.static (mT k).1 ∈ BIG else Cond.instanceMethod (mT k).1 ∈ BIG ∧ Cond.selects (Rn (mT k).2.2.2.2.2) (mT k).1 (mT k).1 ∈ BIG) := by
  obtain ⟨q, hq, h2⟩ := List.any_eq_true.mp h
  simp only [Bool.and_eq_true, beq_iff_eq] at h2
  obtain ⟨⟨rfl, rfl⟩, rfl⟩ := h2
  have hc := mf_code hq
  have hf := List.all_eq_true.mp mFT_ok q hq
  unfold mFq at hf
  simp only [Bool.and_eq_true, decide_eq_true_eq] at hf
  obtain ⟨⟨⟨h1, h2⟩, h3⟩, h4⟩ := hf
  refine ⟨hc, by rw [h1]; exact big_at _ h2 rfl, h1, h4, ?_⟩
  cases hs : q.2.2.1 with
  | true =>
    rw [hs] at h3
    simp only [if_true, decide_eq_true_eq] at h3 ⊢
    exact big_at _ h3 rfl
  | false =>
    rw [hs] at h3
    simp only [Bool.false_eq_true, if_false, Bool.and_eq_true, decide_eq_true_eq] at h3 ⊢
    exact ⟨big_at _ h3.1 rfl, big_at _ h3.2 rfl⟩
theorem good_big {y : MethodName} {b : ByteArray} {n : Nat} {rt : Option FieldType} (h : Cond.code y b n rt ∈ BIG) : GoodIn BIG (.code y b n rt :: BIG) := by
  intro w hw
  rcases List.mem_cons.mp hw with rfl | hw
  · exact ⟨h, Or.inl rfl⟩
  · exact ⟨hw, good_of_word (big_good w hw)⟩
theorem nest_on {w : Cond} (h : w ∈ nestL) : w.onTables = true := by
  obtain ⟨q, -, rfl⟩ := List.mem_map.mp h
  rfl
theorem Wd.warm {D : va_G} {cI : ClassId} {s U : State} (hW : s.WarmedH U.vm) (h : Wd D cI s) : Wd D cI U := by
  refine ⟨va_K.moved hW.alike h.1, fun w hw => ?_⟩
  have h2 := h.2 w hw
  obtain ⟨q, -, rfl⟩ := List.mem_map.mp hw
  exact va_Nw.warmM hW h2
theorem Wd.same {D : va_G} {cI : ClassId} {s U : State} (hv : s.vm = U.vm) (h : Wd D cI s) : Wd D cI U :=
  ⟨va_K.moved (by rw [hv]; exact Vm.Alike.refl _) h.1, fun w hw => va_Nw.same (nest_on hw) hv (h.2 w hw)⟩
theorem Pw_blind (D : va_G) (cI : ClassId) (ad : Nat → Nat) (σ : St) (sz : Nat) (av : List Value) : FrameBlind (va_Pc av (Pw D cI ad σ sz)) :=
  fun a U g mk q => ⟨q.1, q.2.1, q.2.2.1, Wd.same (s := U) (U := U.calling g mk a) rfl q.2.2.2.1, q.2.2.2.2⟩
end
section
/-! one instruction of the walk, over the machine -/
def Cx (p : Program) (R : Room) (s : State) (m : MethodId) (args : Array Value) (meth : Method) (c : Code) (D : va_G) (cI : ClassId) (A : Nat → Prop) (mi : MI) : Prop :=
  p.tables.exec = Jvm.exec ∧ c.code = mi.2.1 ∧ c.maxLocals = mi.2.2.1 ∧ meth.sig.returnType = mi.2.2.2.1 ∧ meth.locks = false ∧ s.vm.findClass (Rn mi.2.2.2.2.2) = some m.cls ∧ (∀ w ∈ BIG, w.before args s = true) ∧ Wd D cI s ∧ R = rmL mi.2.2.2.2.1 ∧ (∀ q, s.heap.size ≤ q → A q)
section SM
variable (l : Launch) (p : Program) (e : Env) (R : Room) (s : State) (m : MethodId) (args : Array Value) (below : List Frame) (meth : Method) (c : Code) (D : va_G) (cI : ClassId) (ad : Nat → Nat) (A : Nat → Prop) (mi : MI) (Q : Int32 → St → Prop)
def Sm (pc : Nat) (L S : List Value) (σ : St) : Prop := ∀ (H : Heap) (locs : List Loc) (ls : Array Slot), va_P D vwCl (wsW cI ad σ) H → va_D A (wsW cI ad σ) → va_S A s.heap H locs → LsOk ls mi.2.2.1 ad L →
  W p l e R s m args below meth c H locs 0 0 (MQ below (Qc mi.2.2.2.1 Q D cI ad A) args s 0 0 A) (F0 m pc ls (S.map (cv ad)))
end SM
/-- the place k of the list cd, over every machine that runs the method -/
def V (l : Launch) (mi : MI) (cd : List Ins) (k : Nat) (L S : List Value) (σ : St) (Q : Int32 → St → Prop) : Prop :=
  ∀ (p : Program) (e : Env) (R : Room) (s : State) (m : MethodId) (args : Array Value) (below : List Frame) (meth : Method) (c : Code) (D : va_G) (cI : ClassId) (ad : Nat → Nat) (A : Nat → Prop), Cx p R s m args meth c D cI A mi → Sm l p e R s m args below meth c D cI ad A mi Q (pcA cd k) L S σ
section Snd
variable {l : Launch} {p : Program} {e : Env} {R : Room} {s : State} {m : MethodId} {args : Array Value} {below : List Frame} {meth : Method} {c : Code} {D : va_G} {cI : ClassId} {ad : Nat → Nat} {A : Nat → Prop} {mi : MI} {Q : Int32 → St → Prop}
theorem sum_le (S : List Value) : ∀ (ad : Nat → Nat), ((S.map (cv ad)).map fun v => v.category).sum ≤ 2 * S.length := by
  intro ad
  induction S with
  | nil => simp
  | cons v r ih =>
    have : (cv ad v).category ≤ 2 := by cases v <;> simp [cv, Value.category]
    simp only [List.map_cons, List.sum_cons, List.length_cons]
    omega
theorem sm_call {pc : Nat} {L S S' : List Value} {σ : St} {k : Nat} {as : List Value} {K : Int32 → St → Prop} (hC : Cx p R s m args meth c D cI A mi)
    (hrun : ∀ (H : Heap) (locs : List Loc) (ls : Array Slot), va_P D vwCl (wsW cI ad σ) H → va_D A (wsW cI ad σ) → LsOk ls mi.2.2.1 ad L → ∀ (Pc : Array Value → State → Prop) (Qq : Array Value → State → Outcome → State → Prop) (free : Addr → Prop), Met l (mT k).1 (.code (mT k).1 (mT k).2.1 (mT k).2.2.1 (mT k).2.2.2.1 :: BIG) (rmL (mT k).2.2.2.2.1) Pc Qq 0 0 free → FrameBlind Pc → (∀ U : State, U.heap = H → s.WarmedH U.vm → Pc (as.map (cv ad)).toArray U) →
      va_Run p l e R s m args below meth c H locs 0 0 0 0 (F0 m pc ls (S.map (cv ad))) (S'.map (cv ad)) (Qq (as.map (cv ad)).toArray) free)
    (hcall : CallAt l k as σ K) (hk : ∀ r σ', K r σ' → Sm l p e R s m args below meth c D cI ad A mi Q (pc + 3) L (if (mT k).2.2.2.1.isSome then .int r :: S' else S') σ') : Sm l p e R s m args below meth c D cI ad A mi Q pc L S σ := by
  obtain ⟨-, -, -, -, -, -, -, hWd, -, hA⟩ := hC
  obtain ⟨Sp, hM, hS⟩ := hcall
  intro H locs ls hP hD hS0 hl
  have hM := hM D cI ad σ as K H.size hS
  have hA1 : ∀ q, va_A (wsW cI ad σ) H.size q → A q := by
    rintro q (⟨j, e, hj⟩ | hq)
    · exact hD.2 j (q, e) hj
    · exact hA q (Nat.le_trans hS0.1 hq)
  have hr := hrun H locs ls hP hD hl _ _ _ hM (Pw_blind D cI ad σ H.size _) (fun U hU hW => ⟨rfl, by rw [hU], by rw [hU]; exact hP, hWd.warm hW, hD.weaken (fun _ _ _ _ => trivial)⟩)
  cases hrt : (mT k).2.2.2.1 with
  | none =>
    rw [hrt] at hr hk
    refine va_callv (a := (as.map (cv ad)).toArray) (A0 := A) (A1 := va_A (wsW cI ad σ) H.size) hr hS0 (fun q _ h => hA1 q h) hA1 (fun σ' t H1 locs1 ht _ hw hB _ _ hS1 => ?_)
    obtain ⟨hP1, -, hD1⟩ := hB
    rw [ht] at hP1
    exact hk 0 σ' hw H1 locs1 ls hP1 (hD1.weaken (fun _ _ _ h => hA1 _ h)) hS1 hl
  | some ty =>
    rw [hrt] at hr hk
    refine va_calli (a := (as.map (cv ad)).toArray) (A0 := A) (A1 := va_A (wsW cI ad σ) H.size) hr hS0 (fun q _ h => hA1 q h) hA1 (fun r σ' t H1 locs1 ht _ hw hB _ _ hS1 => ?_)
    obtain ⟨hP1, -, hD1⟩ := hB
    rw [ht] at hP1
    exact hk r σ' hw H1 locs1 ls hP1 (hD1.weaken (fun _ _ _ h => hA1 _ h)) hS1 hl
theorem room_ok {k : Nat} (hlev : (mT k).2.2.2.2.1 < mi.2.2.2.2.1) (hL : (mT k).2.2.1 ≤ 23) : (rmL (mT k).2.2.2.2.1).frames + 1 ≤ (rmL mi.2.2.2.2.1).frames ∧ 8 + ((mT k).2.2.1 + 11) + (rmL (mT k).2.2.2.2.1).locals ≤ (rmL mi.2.2.2.2.1).locals := by
  simp only [rmL]
  omega
theorem mh_ne {k : Nat} (h : (mT k).1.cls = Rn (mT k).2.2.2.2.2) (hk : (mT k).2.2.2.2.2 < 9) : (mT k).1.cls ≠ "java/lang/invoke/MethodHandle" ∧ (mT k).1.cls ≠ "java/lang/invoke/VarHandle" := by
  have h2 := List.all_eq_true.mp Rn_plain _ (List.mem_range.mpr hk)
  simp only [Bool.and_eq_true, decide_eq_true_eq] at h2
  rw [h]
  exact h2.1
theorem mF_own : mFT.all (fun q => decide ((mT q.1).2.2.2.2.2 < 9)) = true := by decide +kernel
theorem mT_lt {k n : Nat} {st : Bool} (h : mFT.any (fun q => q.1 == k && q.2.1 == n && q.2.2.1 == st) = true) : (mT k).2.2.2.2.2 < 9 := by
  obtain ⟨q, hq, h2⟩ := List.any_eq_true.mp h
  simp only [Bool.and_eq_true, beq_iff_eq] at h2
  obtain ⟨⟨rfl, rfl⟩, rfl⟩ := h2
  exact of_decide_eq_true (List.all_eq_true.mp mF_own q hq)
theorem sm_virtual {pc x k n : Nat} {L S S' : List Value} {σ : St} {b : Nat} {K : Int32 → St → Prop} (hC : Cx p R s m args meth c D cI A mi) (hd : decode mi.2.1 pc = .ok (.invokevirtual x, 3))
    (hml : mLT.any (fun q => q.1 == mi.2.2.2.2.2 && q.2.1 == x && q.2.2.1 == k) = true) (hmf : mFT.any (fun q => q.1 == k && q.2.1 == n && q.2.2.1 == false) = true) (hlev : (mT k).2.2.2.2.1 < mi.2.2.2.2.1) (hL : (mT k).2.2.1 ≤ 23) (hci : (mT k).2.2.2.2.2 < 7)
    (hst : S.drop n = .ref b :: S') (hb : clsOf b = (mT k).2.2.2.2.2) (hlen : S'.length ≤ 4) (hcall : CallAt l k (.ref b :: (S.take n).reverse) σ K)
    (hk : ∀ r σ', K r σ' → Sm l p e R s m args below meth c D cI ad A mi Q (pc + 3) L (if (mT k).2.2.2.1.isSome then .int r :: S' else S') σ') : Sm l p e R s m args below meth c D cI ad A mi Q pc L S σ := by
  refine sm_call hC (fun H locs ls hP hD hl Pc Qq free hM hblind hPc => ?_) hcall hk
  obtain ⟨hx, hbb, hmx, -, -, hown, hts, hWd, hR, -⟩ := hC
  obtain ⟨h1, h2, h3, h4, h5⟩ := mf_all hmf
  simp only [Bool.false_eq_true, if_false] at h5
  have hnl : n ≤ S.length := by
    rcases Nat.lt_or_ge S.length n with q | q
    · rw [List.drop_eq_nil_of_le (Nat.le_of_lt q)] at hst; cases hst
    · exact q
  have hSe : S = S.take n ++ (.ref b :: S') := by rw [← hst, List.take_append_drop]
  have hstack : S.map (cv ad) = (((S.take n).reverse).map (cv ad)).reverse ++ (Value.ref (ad b) :: S'.map (cv ad)) := by
    rw [← List.map_reverse, List.reverse_reverse]
    conv => lhs; rw [hSe]
    rw [List.map_append]
    rfl
  have hcw : CallW R s args (Rn mi.2.2.2.2.2) (Rn (mT k).2.2.2.2.2) x (mT k).1 (mT k).2.1 (mT k).2.2.1 (mT k).2.2.2.1 (.code (mT k).1 (mT k).2.1 (mT k).2.2.1 (mT k).2.2.2.1 :: BIG) (rmL (mT k).2.2.2.2.1) 0 0 n := by
    refine ⟨callB_of n hts (good_big h1) rfl rfl rfl (hts _ h2) (hts _ (ml_big hml)) ⟨(mh_ne h3 (mT_lt hmf)).1, (mh_ne h3 (mT_lt hmf)).2, h4⟩ (by rw [hR]; exact room_ok hlev hL), hts _ h5.1, hts _ h5.2⟩
  obtain ⟨q0, hq0⟩ := ids_pos (k := b) (by omega)
  have hat := ws_at (cI := cI) (ad := ad) (σ := σ) hq0
  rw [cell_obj hb hci] at hat
  exact va_runV (As := ((S.take n).reverse).map (cv ad)) (rest := S'.map (cv ad)) ⟨hx, hbb, hmx, hown, hts⟩ hM hcw ⟨hblind, va_recv hWd.1 hP (cl_at hci) hat, hPc⟩ rfl (by simp [hnl]) hl.1 hstack (lv_room (Nat.le_trans (sum_le S' ad) (by omega))) hd ⟨Nat.zero_le _, Nat.zero_le _⟩
theorem sm_static {pc x k n : Nat} {L S : List Value} {σ : St} {K : Int32 → St → Prop} (hC : Cx p R s m args meth c D cI A mi) (hd : decode mi.2.1 pc = .ok (.invokestatic x, 3))
    (hml : mLT.any (fun q => q.1 == mi.2.2.2.2.2 && q.2.1 == x && q.2.2.1 == k) = true ∨ mLN.any (fun q => q.1 == mi.2.2.2.2.2 && q.2.1 == x && q.2.2.1 == k) = true) (hmf : mFT.any (fun q => q.1 == k && q.2.1 == n && q.2.2.1 == true) = true) (hlev : (mT k).2.2.2.2.1 < mi.2.2.2.2.1) (hL : (mT k).2.2.1 ≤ 23)
    (hnl : (S.take n).length = n) (hlen : (S.drop n).length ≤ 4) (hcall : CallAt l k ((S.take n).reverse) σ K)
    (hk : ∀ r σ', K r σ' → Sm l p e R s m args below meth c D cI ad A mi Q (pc + 3) L (if (mT k).2.2.2.1.isSome then .int r :: S.drop n else S.drop n) σ') : Sm l p e R s m args below meth c D cI ad A mi Q pc L S σ := by
  refine sm_call hC (fun H locs ls hP hD hl Pc Qq free hM hblind hPc => ?_) hcall hk
  obtain ⟨hx, hbb, hmx, -, -, hown, hts, hWd, hR, -⟩ := hC
  obtain ⟨h1, h2, h3, h4, h5⟩ := mf_all hmf
  simp only [if_true] at h5
  have hstack : S.map (cv ad) = (((S.take n).reverse).map (cv ad)).reverse ++ ((S.drop n).map (cv ad)) := by
    rw [← List.map_reverse, List.reverse_reverse, ← List.map_append, List.take_append_drop]
  rcases hml with hml | hml
  · exact va_runS (As := ((S.take n).reverse).map (cv ad)) (rest := (S.drop n).map (cv ad)) ⟨hx, hbb, hmx, hown, hts⟩ hM ⟨callB_of n hts (good_big h1) rfl rfl rfl (hts _ h2) (hts _ (ml_big hml)) ⟨(mh_ne h3 (mT_lt hmf)).1, (mh_ne h3 (mT_lt hmf)).2, h4⟩ (by rw [hR]; exact room_ok hlev hL), hts _ h5⟩ ⟨hblind, hPc⟩ rfl (by simpa using hnl) hl.1 hstack (lv_room (Nat.le_trans (sum_le _ ad) (by omega))) hd ⟨Nat.zero_le _, Nat.zero_le _⟩
  · exact va_runSN (host := RX5) (As := ((S.take n).reverse).map (cv ad)) (rest := (S.drop n).map (cv ad)) ⟨hx, hbb, hmx, hown, hts⟩ hM ⟨va_cnB n hts (good_big h1) rfl rfl rfl (hWd.2 _ (mn_nest hml)) (hts _ h2) ⟨(mh_ne h3 (mT_lt hmf)).1, (mh_ne h3 (mT_lt hmf)).2, h4⟩ (by rw [hR]; exact room_ok hlev hL), hts _ h5, trivial⟩ ⟨hblind, hPc⟩ rfl (by simpa using hnl) hl.1 hstack (lv_room (Nat.le_trans (sum_le _ ad) (by omega))) hd ⟨Nat.zero_le _, Nat.zero_le _⟩
end Snd
end
section
set_option maxRecDepth 1000000 in
theorem bg_maxc : Cond.code Lib.Math.max.name Lib.Math.max.code 2 (some .int) ∈ BIG := big_at 515 rfl rfl
section Snd2
variable {l : Launch} {p : Program} {e : Env} {R : Room} {s : State} {m : MethodId} {args : Array Value} {below : List Frame} {meth : Method} {c : Code} {D : va_G} {cI : ClassId} {ad : Nat → Nat} {A : Nat → Prop} {mi : MI} {Q : Int32 → St → Prop}
theorem okTs1 {cd : List Ins} {pc t : Nat} {o : Int} (h : okTs cd pc [o] [t] = true) : t < cd.length ∧ (pc : Int) + o = (pcA cd t : Int) := by
  simp only [okTs, okT, Bool.and_true, Bool.and_eq_true, decide_eq_true_eq] at h
  exact h
theorem okTs2 {cd : List Ins} {pc t : Nat} {o : Int} {os : List Int} {ts : List Nat} (h : okTs cd pc (o :: os) (t :: ts) = true) : (t < cd.length ∧ (pc : Int) + o = (pcA cd t : Int)) ∧ okTs cd pc os ts = true := by
  simp only [okTs, okT, Bool.and_eq_true, decide_eq_true_eq] at h
  exact ⟨h.1, h.2⟩
theorem okTs_at {cd : List Ins} {pc : Nat} : ∀ {os : List Int} {ts : List Nat}, okTs cd pc os ts = true → ∀ (j t : Nat), ts[j]? = some t → ∃ o, os[j]? = some o ∧ t < cd.length ∧ (pc : Int) + o = (pcA cd t : Int)
  | [], [], _, j, t, h => by simp at h
  | [], _ :: _, h, _, _, _ => by simp [okTs] at h
  | _ :: _, [], h, _, _, _ => by simp [okTs] at h
  | o :: os, t0 :: ts, h, j, t, hj => by
    obtain ⟨h1, h2⟩ := okTs2 h
    cases j with
    | zero => simp at hj; subst hj; exact ⟨o, rfl, h1⟩
    | succ j => simpa using okTs_at h2 j t (by simpa using hj)
theorem okTs_len {cd : List Ins} {pc : Nat} : ∀ {os : List Int} {ts : List Nat}, okTs cd pc os ts = true → os.length = ts.length
  | [], [], _ => rfl
  | [], _ :: _, h => by simp [okTs] at h
  | _ :: _, [], h => by simp [okTs] at h
  | o :: os, t0 :: ts, h => by simp [okTs_len (okTs2 h).2]
theorem swT_at {jp : Nat → Prop} {x : Int32} : ∀ {n : Nat} {ts : List Nat}, swT jp x n ts → ∀ (j t : Nat), ts[j]? = some t → x = nI (n + j) → jp t
  | _, [], _, j, t, h, _ => by simp at h
  | n, t0 :: ts, h, j, t, hj, hx => by
    cases j with
    | zero => simp at hj; subst hj; exact h.1 hx
    | succ j => exact swT_at h.2 j t (by simpa using hj) (by rw [hx]; congr 1; omega)
theorem swL_at {jp : Nat → Prop} {x : Int32} {d : Nat} {cd : List Ins} {pc : Nat} {dO : Int} (hd : d < cd.length ∧ (pc : Int) + dO = (pcA cd d : Int)) : ∀ {ps : List (Int × Int)} {ts : List Nat}, okTs cd pc (ps.map (fun q => q.2)) ts = true → ps.all (fun q => decide ((Int32.ofInt q.1).toInt = q.1)) = true → swL jp x d ps ts → ∃ (t : Nat) (o : Int), Op.lookupswitch.offset ps dO x.toInt = o ∧ t < cd.length ∧ (pc : Int) + o = (pcA cd t : Int) ∧ jp t
  | [], [], _, _, h => ⟨d, dO, rfl, hd.1, hd.2, h⟩
  | [], _ :: _, h, _, _ => by simp [okTs] at h
  | (a, o) :: r, [], h, _, _ => by simp [okTs] at h
  | (a, o) :: r, t :: ts, h, hA, hs => by
    obtain ⟨h1, h2⟩ := okTs2 h
    simp only [List.all_cons, Bool.and_eq_true, decide_eq_true_eq] at hA
    by_cases hx : x = Int32.ofInt a
    · refine ⟨t, o, ?_, h1.1, h1.2, hs.1 hx⟩
      rw [Op.lookupswitch.offset_cons, if_pos]
      rw [hx, hA.1]
    · obtain ⟨t', o', e1, e2⟩ := swL_at hd h2 hA.2 (hs.2 hx)
      refine ⟨t', o', ?_, e2⟩
      rw [← e1]
      exact lv_osw hx hA.1
theorem narrow_b {v : Int32} (h : v = nI 0 ∨ v = nI 1) : narrow .boolean (.int v) = .int v ∧ fits .boolean (.int v) = true := by
  rcases h with rfl | rfl
  · exact ⟨by decide, by decide⟩
  · exact ⟨by decide, by decide⟩
theorem stp_snd {cd : List Ins} {i : Ins} {L S : List Value} {σ : St} {nx : List Value → List Value → St → Prop} {jp : Nat → List Value → List Value → St → Prop}
    (hC : Cx p R s m args meth c D cI A mi) (hdec : ∃ n, decode mi.2.1 i.2.2.1 = .ok (i.1, n) ∧ (isSw i.1 = true ∨ n = lnI i.1)) (hA : okA mi cd i = true)
    (hn : ∀ L S σ, nx L S σ → Sm l p e R s m args below meth c D cI ad A mi Q (i.2.2.1 + lnI i.1) L S σ)
    (hj : ∀ t, t < cd.length → ∀ L S σ, jp t L S σ → Sm l p e R s m args below meth c D cI ad A mi Q (pcA cd t) L S σ)
    (h : stp l mi.2.2.2.1 Q i L S σ nx jp) : Sm l p e R s m args below meth c D cI ad A mi Q i.2.2.1 L S σ := by
  obtain ⟨ins, ix, pc, hd0, ax⟩ := i
  dsimp only at hdec hn ⊢
  obtain ⟨n, hd, hsw⟩ := hdec
  obtain ⟨hx, hb, hml, hr, hlk, hown, hts, hWd, hR, hAA⟩ := id hC
  cases ins
  case iconst v =>
    obtain rfl : n = 1 := by simpa [isSw, lnI] using hsw
    have hv : Int32.ofInt v = gC ax := by simpa [okA] using hA
    intro H locs ls hP hD hS hl
    exact lv_iconst hx hb hd hv (hn _ _ _ h H locs ls hP hD hS hl)
  case bipush v =>
    obtain rfl : n = 2 := by simpa [isSw, lnI] using hsw
    have hv : (Int8.ofInt v).toInt32 = gC ax := by simpa [okA] using hA
    intro H locs ls hP hD hS hl
    exact lv_bipush hx hb hd hv (hn _ _ _ h H locs ls hP hD hS hl)
  case sipush v =>
    obtain rfl : n = 3 := by simpa [isSw, lnI] using hsw
    have hv : (Int16.ofInt v).toInt32 = gC ax := by simpa [okA] using hA
    intro H locs ls hP hD hS hl
    exact lv_sipush hx hb hd hv (hn _ _ _ h H locs ls hP hD hS hl)
  case ldc v =>
    obtain rfl : n = 2 := by simpa [isSw, lnI] using hsw
    intro H locs ls hP hD hS hl
    exact lv_ldc hx hb hown (hts _ (ci_big hA)) hd (hn _ _ _ h H locs ls hP hD hS hl)
  case ldc_w v =>
    obtain rfl : n = 3 := by simpa [isSw, lnI] using hsw
    intro H locs ls hP hD hS hl
    exact lv_ldcw hx hb hown (hts _ (ci_big hA)) hd (hn _ _ _ h H locs ls hP hD hS hl)
  case lconst v =>
    obtain rfl : n = 1 := by simpa [isSw, lnI] using hsw
    have hv : Int64.ofNat (v : Nat) = gL ax := by simpa [okA] using hA
    intro H locs ls hP hD hS hl
    exact lv_lconst hx hb hd hv (hn _ _ _ h H locs ls hP hD hS hl)
  case ldc2_w v =>
    obtain rfl : n = 3 := by simpa [isSw, lnI] using hsw
    intro H locs ls hP hD hS hl
    exact lv_ldc2 hx hb hown (hts _ (cl_big hA)) hd (hn _ _ _ h H locs ls hP hD hS hl)
  case iload k =>
    obtain rfl : n = 2 := by simpa [isSw, lnI] using hsw
    simp only [stp] at h
    split at h
    · rename_i x hx1
      intro H locs ls hP hD hS hl
      exact lv_iload hx hb hd (hl.get hx1 (by simp)) (hn _ _ _ h H locs ls hP hD hS hl)
    · exact h.elim
  case iload_n k =>
    obtain rfl : n = 1 := by simpa [isSw, lnI] using hsw
    simp only [stp] at h
    split at h
    · rename_i x hx1
      intro H locs ls hP hD hS hl
      exact lv_iload_n hx hb hd rfl (hl.get hx1 (by simp)) (hn _ _ _ h H locs ls hP hD hS hl)
    · exact h.elim
  case lload k =>
    obtain rfl : n = 2 := by simpa [isSw, lnI] using hsw
    simp only [stp] at h
    split at h
    · rename_i x hx1
      intro H locs ls hP hD hS hl
      exact lv_lload hx hb hd (hl.get hx1 (by simp)) (hn _ _ _ h H locs ls hP hD hS hl)
    · exact h.elim
  case lload_n k =>
    obtain rfl : n = 1 := by simpa [isSw, lnI] using hsw
    simp only [stp] at h
    split at h
    · rename_i x hx1
      intro H locs ls hP hD hS hl
      exact lv_lload_n hx hb hd rfl (hl.get hx1 (by simp)) (hn _ _ _ h H locs ls hP hD hS hl)
    · exact h.elim
  case aload k =>
    obtain rfl : n = 2 := by simpa [isSw, lnI] using hsw
    simp only [stp] at h
    split at h
    · rename_i x hx1
      intro H locs ls hP hD hS hl
      exact lv_aload hx hb hd (hl.get hx1 (by simp)) (hn _ _ _ h H locs ls hP hD hS hl)
    · exact h.elim
  case aload_n k =>
    obtain rfl : n = 1 := by simpa [isSw, lnI] using hsw
    simp only [stp] at h
    split at h
    · rename_i x hx1
      intro H locs ls hP hD hS hl
      exact lv_aload_n hx hb hd rfl (hl.get hx1 (by simp)) (hn _ _ _ h H locs ls hP hD hS hl)
    · exact h.elim
  case istore k =>
    obtain rfl : n = 2 := by simpa [isSw, lnI] using hsw
    have hk : k < mi.2.2.1 := by simpa [okA] using hA
    simp only [stp] at h
    split at h
    · rename_i x S'
      intro H locs ls hP hD hS hl
      exact lv_istore hx hb hd hl.lv hk rfl (fun ls' hl' => hn _ _ _ h.2 H locs ls' hP hD hS (hl.set h.1 hl'))
    · exact h.elim
  case istore_n k =>
    obtain rfl : n = 1 := by simpa [isSw, lnI] using hsw
    have hk : k.val < mi.2.2.1 := by simpa [okA] using hA
    simp only [stp] at h
    split at h
    · rename_i x S'
      intro H locs ls hP hD hS hl
      exact lv_istore_n hx hb hd rfl hl.lv hk rfl (fun ls' hl' => hn _ _ _ h.2 H locs ls' hP hD hS (hl.set h.1 hl'))
    · exact h.elim
  case iinc k v =>
    obtain rfl : n = 3 := by simpa [isSw, lnI] using hsw
    simp only [okA, Bool.and_eq_true, decide_eq_true_eq] at hA
    simp only [stp] at h
    split at h
    · rename_i x hx1
      intro H locs ls hP hD hS hl
      obtain ⟨j, hj⟩ := List.getElem?_of_mem (toL_mem (ad := ad) (getD_some hx1 (by simp)) (by simp))
      exact lv_iinc (v := x + gC ax) hx hb hd hl.lv hj (by rw [hA.2]) hA.1 rfl (fun ls' hl' => hn _ _ _ h.2 H locs ls' hP hD hS (hl.set h.1 hl'))
    · exact h.elim
  case dup =>
    obtain rfl : n = 1 := by simpa [isSw, lnI] using hsw
    simp only [stp] at h
    split at h
    · intro H locs ls hP hD hS hl
      exact lv_dup hx hb hd rfl (hn _ _ _ h H locs ls hP hD hS hl)
    · intro H locs ls hP hD hS hl
      exact lv_dup hx hb hd rfl (hn _ _ _ h H locs ls hP hD hS hl)
    · exact h.elim
  case pop =>
    obtain rfl : n = 1 := by simpa [isSw, lnI] using hsw
    simp only [stp] at h
    split at h
    · intro H locs ls hP hD hS hl
      exact lv_pop hx hb hd rfl (hn _ _ _ h H locs ls hP hD hS hl)
    · exact h.elim
  case goto o =>
    obtain rfl : n = 3 := by simpa [isSw, lnI] using hsw
    simp only [stp] at h
    simp only [okA] at hA
    split at h
    · rename_i t ht
      rw [ht] at hA
      intro H locs ls hP hD hS hl
      exact lv_goto hx hb hd (okTs1 hA).2 (hj t (okTs1 hA).1 _ _ _ h H locs ls hP hD hS hl)
    · exact h.elim
  case ifCond cn o =>
    obtain rfl : n = 3 := by simpa [isSw, lnI] using hsw
    simp only [stp] at h
    simp only [okA] at hA
    split at h
    · rename_i x S' t ht
      rw [ht] at hA
      intro H locs ls hP hD hS hl
      have k1 := fun hc => hj t (okTs1 hA).1 _ _ _ (h.1 hc) H locs ls hP hD hS hl
      have k2 := fun hc => hn _ _ _ (h.2 hc) H locs ls hP hD hS hl
      cases cn
      · exact lv_if_eq hx hb hd (okTs1 hA).2 k1 k2
      · exact lv_if_ne hx hb hd (okTs1 hA).2 k1 (fun z => k2 (fun q => q z))
      · exact lv_if_lt hx hb hd (okTs1 hA).2 k1 k2
      · exact lv_if_ge hx hb hd (okTs1 hA).2 k1 k2
      · exact lv_if_gt hx hb hd (okTs1 hA).2 k1 k2
      · exact lv_if_le hx hb hd (okTs1 hA).2 k1 k2
    · exact h.elim
  case if_icmp cn o =>
    obtain rfl : n = 3 := by simpa [isSw, lnI] using hsw
    simp only [stp] at h
    simp only [okA] at hA
    split at h
    · rename_i y x S' t ht
      rw [ht] at hA
      intro H locs ls hP hD hS hl
      have k1 := fun hc => hj t (okTs1 hA).1 _ _ _ (h.1 hc) H locs ls hP hD hS hl
      have k2 := fun hc => hn _ _ _ (h.2 hc) H locs ls hP hD hS hl
      cases cn
      · exact lv_icmp_eq hx hb hd (okTs1 hA).2 k1 k2
      · exact lv_icmp_ne hx hb hd (okTs1 hA).2 k1 (fun z => k2 (fun q => q z))
      · exact lv_icmp_lt hx hb hd (okTs1 hA).2 k1 k2
      · exact lv_icmp_ge hx hb hd (okTs1 hA).2 k1 k2
      · exact lv_icmp_gt hx hb hd (okTs1 hA).2 k1 k2
      · exact lv_icmp_le hx hb hd (okTs1 hA).2 k1 k2
    · exact h.elim
  case tableswitch dO lo hi os =>
    simp only [stp] at h
    simp only [okA] at hA
    split at h
    · rename_i x S' d ts ht
      rw [ht] at hA
      obtain ⟨hlo, hhi, hlen, hin, hout⟩ := h
      subst hlo
      intro H locs ls hP hD hS hl
      obtain ⟨h0, h1⟩ := okTs2 hA
      by_cases hq : x < nI 0 ∨ nI ts.length ≤ x
      · refine lv_tableOut hx hb hd ?_ h0.2 (hj d h0.1 _ _ _ (hout hq) H locs ls hP hD hS hl)
        rcases hq with hq | hq
        · left
          have := Int32.lt_iff_toInt_lt.mp hq
          rwa [nI_toInt (by decide)] at this
        · right
          have := Int32.le_iff_toInt_le.mp hq
          rw [nI_toInt hlen] at this
          omega
      · have hq1 : ¬ x < 0 := fun z => hq (Or.inl z)
        obtain ⟨j, hj1, rfl⟩ := nI_of hq1
        have hjl : j < ts.length := by
          rcases Nat.lt_or_ge j ts.length with q | q
          · exact q
          · exact absurd (Or.inr (nI_le q hj1)) hq
        have hti : (nI j).toInt = (j : Int) := nI_toInt hj1
        obtain ⟨o, ho, ht1, ht2⟩ := okTs_at h1 j ts[j] (by simp)
        refine lv_tableIn (off := o) hx hb hd (by rw [hti]; omega) (by rw [hti]; omega) ?_ ht2 (hj _ ht1 _ _ _ (swT_at hin j ts[j] (by simp) (by simp)) H locs ls hP hD hS hl)
        rw [hti]
        simpa using ho
    · exact h.elim
  case lookupswitch dO ps =>
    simp only [stp] at h
    simp only [okA, Bool.and_eq_true] at hA
    split at h
    · rename_i x S' d ts ht
      rw [ht] at hA
      intro H locs ls hP hD hS hl
      obtain ⟨h0, h1⟩ := okTs2 hA.1.1
      obtain ⟨t, o, e1, e2, e3, e4⟩ := swL_at h0 h1 hA.1.2 h
      exact lv_lookup hx hb hd hA.2 e1 e3 (hj t e2 _ _ _ e4 H locs ls hP hD hS hl)
    · exact h.elim
  case iadd =>
    obtain rfl : n = 1 := by simpa [isSw, lnI] using hsw
    simp only [stp] at h
    split at h
    · intro H locs ls hP hD hS hl
      exact lv_iadd hx hb hd (hn _ _ _ h H locs ls hP hD hS hl)
    · exact h.elim
  case isub =>
    obtain rfl : n = 1 := by simpa [isSw, lnI] using hsw
    simp only [stp] at h
    split at h
    · intro H locs ls hP hD hS hl
      exact lv_isub hx hb hd (hn _ _ _ h H locs ls hP hD hS hl)
    · exact h.elim
  case imul =>
    obtain rfl : n = 1 := by simpa [isSw, lnI] using hsw
    simp only [stp] at h
    split at h
    · intro H locs ls hP hD hS hl
      exact lv_imul hx hb hd (hn _ _ _ h H locs ls hP hD hS hl)
    · exact h.elim
  case iand =>
    obtain rfl : n = 1 := by simpa [isSw, lnI] using hsw
    simp only [stp] at h
    split at h
    · intro H locs ls hP hD hS hl
      exact lv_iand hx hb hd (hn _ _ _ h H locs ls hP hD hS hl)
    · exact h.elim
  case ior =>
    obtain rfl : n = 1 := by simpa [isSw, lnI] using hsw
    simp only [stp] at h
    split at h
    · intro H locs ls hP hD hS hl
      exact lv_ior hx hb hd (hn _ _ _ h H locs ls hP hD hS hl)
    · exact h.elim
  case ixor =>
    obtain rfl : n = 1 := by simpa [isSw, lnI] using hsw
    simp only [stp] at h
    split at h
    · intro H locs ls hP hD hS hl
      exact lv_ixor hx hb hd (hn _ _ _ h H locs ls hP hD hS hl)
    · exact h.elim
  case ishl =>
    obtain rfl : n = 1 := by simpa [isSw, lnI] using hsw
    simp only [stp] at h
    split at h
    · intro H locs ls hP hD hS hl
      exact lv_ishl hx hb hd (hn _ _ _ h H locs ls hP hD hS hl)
    · exact h.elim
  case ishr =>
    obtain rfl : n = 1 := by simpa [isSw, lnI] using hsw
    simp only [stp] at h
    split at h
    · intro H locs ls hP hD hS hl
      exact lv_ishr hx hb hd (hn _ _ _ h H locs ls hP hD hS hl)
    · exact h.elim
  case ladd =>
    obtain rfl : n = 1 := by simpa [isSw, lnI] using hsw
    simp only [stp] at h
    split at h
    · intro H locs ls hP hD hS hl
      exact lv_ladd hx hb hd (hn _ _ _ h H locs ls hP hD hS hl)
    · exact h.elim
  case lsub =>
    obtain rfl : n = 1 := by simpa [isSw, lnI] using hsw
    simp only [stp] at h
    split at h
    · intro H locs ls hP hD hS hl
      exact lv_lsub hx hb hd (hn _ _ _ h H locs ls hP hD hS hl)
    · exact h.elim
  case lmul =>
    obtain rfl : n = 1 := by simpa [isSw, lnI] using hsw
    simp only [stp] at h
    split at h
    · intro H locs ls hP hD hS hl
      exact lv_lmul hx hb hd (hn _ _ _ h H locs ls hP hD hS hl)
    · exact h.elim
  case land =>
    obtain rfl : n = 1 := by simpa [isSw, lnI] using hsw
    simp only [stp] at h
    split at h
    · intro H locs ls hP hD hS hl
      exact lv_land hx hb hd (hn _ _ _ h H locs ls hP hD hS hl)
    · exact h.elim
  case lor =>
    obtain rfl : n = 1 := by simpa [isSw, lnI] using hsw
    simp only [stp] at h
    split at h
    · intro H locs ls hP hD hS hl
      exact lv_lor hx hb hd (hn _ _ _ h H locs ls hP hD hS hl)
    · exact h.elim
  case idiv =>
    obtain rfl : n = 1 := by simpa [isSw, lnI] using hsw
    simp only [stp] at h
    split at h
    · intro H locs ls hP hD hS hl
      exact lv_idiv hx hb hd h.1 (hn _ _ _ h.2 H locs ls hP hD hS hl)
    · exact h.elim
  case irem =>
    obtain rfl : n = 1 := by simpa [isSw, lnI] using hsw
    simp only [stp] at h
    split at h
    · intro H locs ls hP hD hS hl
      exact lv_irem hx hb hd h.1 (hn _ _ _ h.2 H locs ls hP hD hS hl)
    · exact h.elim
  case iushr =>
    obtain rfl : n = 1 := by simpa [isSw, lnI] using hsw
    simp only [stp] at h
    split at h
    · intro H locs ls hP hD hS hl
      exact lv_iushr hx hb hd rfl (hn _ _ _ h H locs ls hP hD hS hl)
    · exact h.elim
  case lshl =>
    obtain rfl : n = 1 := by simpa [isSw, lnI] using hsw
    simp only [stp] at h
    split at h
    · intro H locs ls hP hD hS hl
      exact lv_lshl hx hb hd rfl (hn _ _ _ h H locs ls hP hD hS hl)
    · exact h.elim
  case lshr =>
    obtain rfl : n = 1 := by simpa [isSw, lnI] using hsw
    simp only [stp] at h
    split at h
    · intro H locs ls hP hD hS hl
      exact lv_lshr hx hb hd rfl (hn _ _ _ h H locs ls hP hD hS hl)
    · exact h.elim
  case i2l =>
    obtain rfl : n = 1 := by simpa [isSw, lnI] using hsw
    simp only [stp] at h
    split at h
    · intro H locs ls hP hD hS hl
      exact lv_i2l hx hb hd rfl (hn _ _ _ h H locs ls hP hD hS hl)
    · exact h.elim
  case l2i =>
    obtain rfl : n = 1 := by simpa [isSw, lnI] using hsw
    simp only [stp] at h
    split at h
    · intro H locs ls hP hD hS hl
      exact lv_l2i hx hb hd rfl (hn _ _ _ h H locs ls hP hD hS hl)
    · exact h.elim
  case i2b =>
    obtain rfl : n = 1 := by simpa [isSw, lnI] using hsw
    simp only [stp] at h
    split at h
    · intro H locs ls hP hD hS hl
      exact lv_i2b hx hb hd rfl (hn _ _ _ h H locs ls hP hD hS hl)
    · exact h.elim
  case i2s =>
    obtain rfl : n = 1 := by simpa [isSw, lnI] using hsw
    simp only [stp] at h
    split at h
    · intro H locs ls hP hD hS hl
      exact lv_i2s hx hb hd rfl (hn _ _ _ h H locs ls hP hD hS hl)
    · exact h.elim
  case lcmp =>
    obtain rfl : n = 1 := by simpa [isSw, lnI] using hsw
    simp only [stp] at h
    split at h
    · intro H locs ls hP hD hS hl
      exact W.lcmp hx hb hd (hn _ _ _ h H locs ls hP hD hS hl)
    · exact h.elim
  case getfield x =>
    obtain rfl : n = 3 := by simpa [isSw, lnI] using hsw
    simp only [okA, Bool.and_eq_true, beq_iff_eq, decide_eq_true_eq] at hA
    obtain ⟨⟨⟨h1, h2⟩, h3⟩, h4⟩ := hA
    simp only [stp] at h
    split at h
    · rename_i k S'
      obtain ⟨hc, h⟩ := h
      intro H locs ls hP hD hS hl
      obtain ⟨q0, hq0⟩ := ids_pos (k := k) (by omega)
      have hat := ws_at (cI := cI) (ad := ad) (σ := σ) hq0
      rw [cell_obj hc h3] at hat
      refine va_get (C := Rn (gF ax).1) (T := Tn (gF ax).1) (N := nF (gF ax).1) (ref := (Tn (gF ax).1 (gF ax).2.1).1) hx hb hts (cl_in h3) hown hWd.1 hP q0 hat (cl_at h3) (gF ax).2.1 h4 (hts _ (fl_big h1)) (fun _ z => z) (v := fv ad σ k (gF ax).2.1) (by rw [List.getElem?_map, List.getElem?_range h4]; rfl) hd ?_
      have h5 := hn _ _ _ h H locs ls hP hD hS hl
      have e1 : cv ad (if (gF ax).2.2.1 = 0 then .int (σ k (gF ax).2.1) else .ref (k + (gF ax).2.2.1)) = fv ad σ k (gF ax).2.1 := by
        unfold fv
        rw [hc, h2]
        split <;> rfl
      rw [List.map_cons, e1] at h5
      exact h5
    · exact h.elim
  case putfield x =>
    obtain rfl : n = 3 := by simpa [isSw, lnI] using hsw
    simp only [okA, Bool.and_eq_true, beq_iff_eq, decide_eq_true_eq, Bool.not_eq_true'] at hA
    obtain ⟨⟨⟨⟨⟨h1, h2⟩, h3⟩, h4⟩, h5⟩, h6⟩ := hA
    simp only [stp] at h
    split at h
    · rename_i v k S'
      obtain ⟨hc, hbo, h⟩ := h
      intro H locs ls hP hD hS hl
      obtain ⟨q0, hq0⟩ := ids_pos (k := k) (by omega)
      have hat := ws_at (cI := cI) (ad := ad) (σ := σ) hq0
      rw [cell_obj hc h3] at hat
      have hnf : narrow (if (gF ax).2.2.2 = true then .boolean else .int) (.int v) = .int v ∧ fits (if (gF ax).2.2.2 = true then .boolean else .int) (.int v) = true := by
        by_cases hz : (gF ax).2.2.2 = true
        · rw [if_pos hz]; exact narrow_b (hbo hz)
        · rw [if_neg hz]; exact ⟨rfl, rfl⟩
      have hset : (wsW cI ad σ).set q0 (ad k, .inr ((gF ax).1, ((List.range (nF (gF ax).1)).map (fv ad σ k)).set (gF ax).2.1 (.int v))) = wsW cI ad (wr σ k (gF ax).2.1 v) := by
        refine ws_set hq0 wr_ne ?_
        rw [cell_obj hc h3]
        congr 2
        apply List.ext_getElem?
        intro j
        by_cases hj : j = (gF ax).2.1
        · subst hj
          rw [List.getElem?_set_self (by simpa using h4), List.getElem?_map, List.getElem?_range h4]
          simp [fv, wr, upd, hc, h2]
        · rw [List.getElem?_set_ne (Ne.symm hj), List.getElem?_map, List.getElem?_map]
          cases hjj : (List.range (nF (gF ax).1))[j]? with
          | none => rfl
          | some j' =>
            obtain ⟨hz, ez⟩ := List.getElem?_eq_some_iff.mp hjj
            have ez : j' = j := by simpa using ez.symm
            subst ez
            simp [fv, wr, upd, hj]
      refine va_put (v := .int v) (C := Rn (gF ax).1) (T := Tn (gF ax).1) (N := nF (gF ax).1) (ref := (Tn (gF ax).1 (gF ax).2.1).1) hx hb hts (cl_in h3) (tyn (gF ax).1) (cl_ty h3) (cl_nm h3) hown hWd.1 hP hD hS q0 hat (cl_at h3) (gF ax).2.1 h4 (hts _ (fl_big h1)) (fun _ z => z) h5 h6 hnf.1 hnf.2 (by simpa using h4) hd (fun H1 locs1 hP1 hD1 hS1 => ?_)
      rw [hset] at hP1 hD1
      exact hn _ _ _ h H1 locs1 ls hP1 hD1 hS1 hl
    · exact h.elim
  case iaload =>
    obtain rfl : n = 1 := by simpa [isSw, lnI] using hsw
    simp only [stp] at h
    split at h
    · rename_i x k S'
      obtain ⟨hc, hin, h⟩ := h
      intro H locs ls hP hD hS hl
      obtain ⟨q0, hq0⟩ := ids_pos (k := k) (by omega)
      have hat := ws_at (cI := cI) (ad := ad) (σ := σ) hq0
      rw [cell_arr hc] at hat
      exact va_iald hx hb hWd.1 hP q0 0 hat rfl hin hd (hn _ _ _ h H locs ls hP hD hS hl)
    · exact h.elim
  case iastore =>
    obtain rfl : n = 1 := by simpa [isSw, lnI] using hsw
    simp only [stp] at h
    split at h
    · rename_i v x k S'
      obtain ⟨hc, hin, h⟩ := h
      intro H locs ls hP hD hS hl
      obtain ⟨q0, hq0⟩ := ids_pos (k := k) (by omega)
      have hat := ws_at (cI := cI) (ad := ad) (σ := σ) hq0
      rw [cell_arr hc] at hat
      refine va_iast hx hb hWd.1 hP hD hS q0 0 hat rfl hin hd (fun H1 locs1 hP1 hD1 hS1 => ?_)
      have hset : (wsW cI ad σ).set q0 (ad k, .inl (cI, lenOf k, .inl (upd (σ k) x.toNatClampNeg v))) = wsW cI ad (wr σ k x.toNatClampNeg v) := ws_set hq0 wr_ne (by rw [cell_arr hc]; simp [wr])
      rw [hset] at hP1 hD1
      exact hn _ _ _ h H1 locs1 ls hP1 hD1 hS1 hl
    · exact h.elim
  case arraylength =>
    obtain rfl : n = 1 := by simpa [isSw, lnI] using hsw
    simp only [stp] at h
    split at h
    · rename_i k S'
      obtain ⟨hc, h⟩ := h
      intro H locs ls hP hD hS hl
      obtain ⟨q0, hq0⟩ := ids_pos (k := k) (by omega)
      have hat := ws_at (cI := cI) (ad := ad) (σ := σ) hq0
      rw [cell_arr hc] at hat
      exact va_alen hx hb hWd.1 hP q0 0 hat rfl rfl hd (hn _ _ _ h H locs ls hP hD hS hl)
    · exact h.elim
  case invokevirtual x =>
    obtain rfl : n = 3 := by simpa [isSw, lnI] using hsw
    simp only [okA, Bool.and_eq_true, beq_iff_eq, decide_eq_true_eq] at hA
    obtain ⟨⟨⟨⟨⟨⟨h1, h2⟩, h3⟩, h4⟩, h5⟩, h6⟩, h7⟩ := hA
    simp only [stp] at h
    split at h
    · rename_i k S' hst
      obtain ⟨hc, hl4, h⟩ := h
      refine sm_virtual hC hd h1 h2 h5 h6 (by omega) hst (by rw [hc, h3]) hl4 h (fun r σ' hk => ?_)
      rw [h4]
      exact hn _ _ _ hk
    · exact h.elim
  case invokestatic x =>
    obtain rfl : n = 3 := by simpa [isSw, lnI] using hsw
    simp only [okA] at hA
    simp only [stp] at h
    split at h
    · rename_i h900
      rw [if_pos h900, Bool.and_eq_true, decide_eq_true_eq] at hA
      split at h
      · rename_i n dp kd sp ks S'
        obtain ⟨hl4, hc0, hc1, g1, g2, g3, g4, g5, h⟩ := h
        intro H locs ls hP hD hS hl
        obtain ⟨q0, hq0⟩ := ids_pos (k := ks) (by omega)
        obtain ⟨q1, hq1⟩ := ids_pos (k := kd) (by omega)
        have hat0 := ws_at (cI := cI) (ad := ad) (σ := σ) hq0
        have hat1 := ws_at (cI := cI) (ad := ad) (σ := σ) hq1
        rw [cell_arr hc0] at hat0
        rw [cell_arr hc1] at hat1
        refine va_copyi hx hb (hml.trans hl.1.symm) hown (hts _ (cp_big hA.1)) (hts _ bg_copy.1) (hts _ bg_copy.2.1) (hts _ bg_copy.2.2) hWd.1 hP hD hS q0 q1 0 0 hat0 hat1 rfl rfl rfl g1 g2 g3 g4 g5 (fun _ _ => rfl) (by rw [hR]; exact hA.2) ?_ hd (fun H1 locs1 hP1 hD1 hS1 => ?_)
        · rw [hR]
          have := sum_le S' ad
          have h42 : nativeFrameWords "java/lang/System" "arraycopy" 5 + 11 ≤ 34 := by decide
          simp only [rmL]
          omega
        · have hset : (wsW cI ad σ).set q1 (ad kd, .inl (cI, lenOf kd, .inl (va_cpy (σ ks) (σ kd) sp.toNatClampNeg dp.toNatClampNeg n.toNatClampNeg))) = wsW cI ad (wrR σ kd (va_cpy (σ ks) (σ kd) sp.toNatClampNeg dp.toNatClampNeg n.toNatClampNeg)) := ws_set hq1 wrR_ne (by rw [cell_arr hc1]; simp [wrR])
          rw [hset] at hP1 hD1
          exact hn _ _ _ h H1 locs1 ls hP1 hD1 hS1 hl
      · exact h.elim
    · rename_i h900
      rw [if_neg h900] at hA
      split at h
      · rename_i h901
        rw [if_pos h901, Bool.and_eq_true, decide_eq_true_eq] at hA
        split at h
        · rename_i y x' S'
          intro H locs ls hP hD hS hl
          refine va_mmax hx hb (hml.trans hl.1.symm) hown (hts _ (mx_big hA.1)) (hts _ bg_max.1) (hts _ bg_max.2) (hts _ bg_maxc) (by rw [hR]; exact hA.2) ?_ (Nat.zero_le _) (Nat.zero_le _) hd (hn _ _ _ h.2 H locs ls hP hD hS hl)
          rw [hR]
          have := sum_le S' ad
          have := h.1
          simp only [rmL]
          omega
        · exact h.elim
      · rename_i h901
        rw [if_neg h901] at hA
        simp only [Bool.and_eq_true, Bool.or_eq_true, beq_iff_eq, decide_eq_true_eq] at hA
        obtain ⟨⟨⟨⟨h1, h2⟩, h3⟩, h4⟩, h5⟩ := hA
        refine sm_static hC hd h1 h2 h4 h5 h.1 h.2.1 h.2.2 (fun r σ' hk => ?_)
        rw [h3]
        exact hn _ _ _ hk
  case ireturn =>
    obtain rfl : n = 1 := by simpa [isSw, lnI] using hsw
    simp only [stp] at h
    split at h
    · rename_i v
      obtain ⟨hok, hq⟩ := h
      intro H locs ls hP hD hS hl
      cases hrt : mi.2.2.2.1 with
      | none => rw [hrt] at hok; exact hok.elim
      | some ty =>
        have hn2 : narrow ty (.int v) = .int v := by
          rw [hrt] at hok
          cases ty <;> first | exact hok.elim | exact (narrow_b hok).1 | rfl
        refine W.zret hx hb (hr.trans hrt) hn2 (fun t ht hw => ⟨⟨v, σ, rfl, hq, by rw [ht]; exact hP, hWd.warm hw, hD⟩, hS.F ht⟩) hS.2.2 hd hlk
    · exact h.elim
  case return_ =>
    obtain rfl : n = 1 := by simpa [isSw, lnI] using hsw
    simp only [stp] at h
    split at h
    · obtain ⟨hok, hq⟩ := h
      intro H locs ls hP hD hS hl
      rw [hok]
      refine W.vret hx hb (hr.trans hok) (fun t ht hw => ⟨⟨σ, rfl, hq, by rw [ht]; exact hP, hWd.warm hw, hD⟩, hS.F ht⟩) hS.2.2 hd hlk
    · exact h.elim
  all_goals exact (show False from h).elim
end Snd2
end
section
def argL : List Value → List Value
  | [] => []
  | v :: r => if v.category = 2 then v :: .null :: argL r else v :: argL r
def ent (n : Nat) (as : List Value) : List Value := argL as ++ List.replicate (n - (argL as).length) .null
theorem argL_mem {ad : Nat → Nat} : ∀ (as : List Value) (j i : Nat) (v : Value), (argL as)[i]? = some v → v ≠ .null → (j + i, cv ad v) ∈ lv_args j (as.map (cv ad))
  | [], j, i, v, h, _ => by simp [argL] at h
  | w :: r, j, i, v, h, hv => by
    rw [List.map_cons, lv_args, cv_cat]
    unfold argL at h
    by_cases hc : w.category = 2
    · rw [if_pos hc] at h ⊢
      match i, h with
      | 0, h => simp at h; subst h; exact List.mem_cons_self
      | 1, h => simp at h; exact absurd h.symm hv
      | i + 2, h =>
        have := argL_mem (ad := ad) r (j + 2) i v (by simpa using h) hv
        rw [show j + 2 + i = j + (i + 2) by omega] at this
        exact List.mem_cons_of_mem _ this
    · rw [if_neg hc] at h ⊢
      match i, h with
      | 0, h => simp at h; subst h; exact List.mem_cons_self
      | i + 1, h =>
        have := argL_mem (ad := ad) r (j + 1) i v (by simpa using h) hv
        rw [show j + 1 + i = j + (i + 1) by omega] at this
        exact List.mem_cons_of_mem _ this
theorem argL_len {ad : Nat → Nat} : ∀ (as : List Value), (lg_sl (as.map (cv ad))).length = (argL as).length
  | [] => rfl
  | w :: r => by
    have ih := argL_len (ad := ad) r
    simp only [lg_sl, List.map_cons, List.flatMap_cons, List.length_append, cv_cat, argL] at ih ⊢
    by_cases hc : w.category = 2
    · simp [hc, ih]; omega
    · simp [hc, ih]; omega
theorem okI_spec {mi : MI} {cd : List Ins} {k : Nat} {i : Ins} (h : okCode mi cd = true) (hk : cd[k]? = some i) : i.2.1 = k ∧ (∃ n, decode mi.2.1 i.2.2.1 = .ok (i.1, n) ∧ (isSw i.1 = true ∨ n = lnI i.1)) ∧ (isSw i.1 = true ∨ ∀ j, cd[k + 1]? = some j → j.2.2.1 = i.2.2.1 + lnI i.1) ∧ okA mi cd i = true := by
  have hl := (List.getElem?_eq_some_iff.mp hk).1
  have h1 := List.all_eq_true.mp h k (List.mem_range.mpr hl)
  unfold okI at h1
  rw [hk] at h1
  simp only [Bool.and_eq_true, beq_iff_eq, Bool.or_eq_true] at h1
  obtain ⟨⟨⟨a1, a2⟩, a3⟩, a4⟩ := h1
  refine ⟨a1, ?_, ?_, a4⟩
  · split at a2
    · rename_i j n hj
      simp only [Bool.and_eq_true, decide_eq_true_eq, Bool.or_eq_true, beq_iff_eq] at a2
      exact ⟨n, by rw [hj, a2.1], a2.2⟩
    · cases a2
  · rcases a3 with a3 | a3
    · exact Or.inl a3
    · right
      intro j hj
      rw [hj] at a3
      simpa using a3
section Run
variable {l : Launch} {mi : MI} {cd : List Ins} {Q : Int32 → St → Prop}
theorem drop_cons {k : Nat} {i : Ins} {r : List Ins} (h : cd.drop k = i :: r) : cd[k]? = some i ∧ r = cd.drop (k + 1) := by
  refine ⟨?_, ?_⟩
  · have := congrArg (fun z => z[0]?) h
    simpa using this
  · have := congrArg List.tail h
    simpa using this.symm
theorem vc_snd (hok : okCode mi cd = true) {p : Program} {e : Env} {R : Room} {s : State} {m : MethodId} {args : Array Value} {below : List Frame} {meth : Method} {c : Code} {D : va_G} {cI : ClassId} {ad : Nat → Nat} {A : Nat → Prop} (hC : Cx p R s m args meth c D cI A mi) :
    ∀ (n k : Nat) (L S : List Value) (σ : St), vc l mi.2.2.2.1 Q (fun t L S σ => V l mi cd t L S σ Q) cd n (cd.drop k) L S σ → Sm l p e R s m args below meth c D cI ad A mi Q (pcA cd k) L S σ
  | 0, k, L, S, σ, h => by
    unfold vc at h
    split at h
    · exact h.elim
    · rename_i j r hr
      obtain ⟨h1, -⟩ := drop_cons hr
      rw [(okI_spec hok h1).1] at h
      exact h p e R s m args below meth c D cI ad A hC
  | n + 1, k, L, S, σ, h => by
    unfold vc at h
    split at h
    · exact h.elim
    · rename_i i r hr
      obtain ⟨h1, h2⟩ := drop_cons hr
      obtain ⟨-, o2, o3, o4⟩ := okI_spec hok h1
      have go : ∀ (t : Nat) (L S : List Value) (σ : St), goF (fun t L S σ => V l mi cd t L S σ Q) (vc l mi.2.2.2.1 Q (fun t L S σ => V l mi cd t L S σ Q) cd n) (cd.drop t) L S σ → Sm l p e R s m args below meth c D cI ad A mi Q (pcA cd t) L S σ := by
        intro t L S σ hg
        unfold goF at hg
        split at hg
        · exact hg.elim
        · rename_i j r' hj
          split at hg
          · rw [(okI_spec hok (drop_cons hj).1).1] at hg
            exact hg p e R s m args below meth c D cI ad A hC
          · exact vc_snd hok hC n t L S σ hg
      have hpc : pcA cd k = i.2.2.1 := by unfold pcA; rw [h1]
      rw [hpc]
      by_cases hsw : isSw i.1 = true
      · have h' : stp l mi.2.2.2.1 Q i L S σ (fun _ _ _ => False) (fun t => goF (fun t L S σ => V l mi cd t L S σ Q) (vc l mi.2.2.2.1 Q (fun t L S σ => V l mi cd t L S σ Q) cd n) (cd.drop t)) := by
          obtain ⟨ins, w⟩ := i
          cases ins <;> first | exact h | (exfalso; revert hsw; simp [isSw])
        exact stp_snd hC o2 o4 (fun _ _ _ z => z.elim) (fun t _ L S σ z => go t L S σ z) h'
      · refine stp_snd hC o2 o4 (fun L' S' σ' z => ?_) (fun t _ L S σ z => go t L S σ z) h
        rw [h2] at z
        have hz := go (k + 1) L' S' σ' z
        have hp2 : pcA cd (k + 1) = i.2.2.1 + lnI i.1 := by
          rcases o3 with o3 | o3
          · exact absurd o3 hsw
          · unfold goF at z
            split at z
            · exact z.elim
            · rename_i j r' hj
              have h3 := (drop_cons hj).1
              unfold pcA
              rw [h3]
              exact o3 j h3
        rw [hp2] at hz
        exact hz
/-- THE RULE: n steps of the walk from place k -/
theorem V_run (hok : okCode mi cd = true) (n k : Nat) {L S : List Value} {σ : St} (h : vc l mi.2.2.2.1 Q (fun t L S σ => V l mi cd t L S σ Q) cd n (cd.drop k) L S σ) : V l mi cd k L S σ Q :=
  fun p e R s m args below meth c D cI ad A hC => vc_snd hok hC n k L S σ h
end Run
/-- a method's contract out of a walk from its first instruction -/
theorem AMet.of {l : Launch} {mi : MI} {cd : List Ins} {Sp : Spec} (hok : okCode mi cd = true) (hpl : plainName mi.1.cls = true) (hown : mi.1.cls = Rn mi.2.2.2.2.2) (h0 : pcA cd 0 = 0)
    (h : ∀ (as : List Value) (σ : St) (Q : Int32 → St → Prop), Sp as σ Q → (argL as).length ≤ mi.2.2.1 ∧ V l mi cd 0 (ent mi.2.2.1 as) [] σ Q) : AMet l mi Sp := by
  intro D cI ad σ as Q sz hS
  obtain ⟨hlen, hV⟩ := h as σ Q hS
  refine Met.ofW (cc := mi.2.1) (maxL := mi.2.2.1) (ret := mi.2.2.2.1) hpl rfl ?_
  intro p e s m args below meth c s₁ B hml hv
  obtain ⟨rfl, hsz, hP, hWd, hD0⟩ := hv
  have hts := atoms_spec (ws := .code mi.1 mi.2.1 mi.2.2.1 mi.2.2.2.1 :: BIG) B.pre
  have hown2 : s.vm.findClass (Rn mi.2.2.2.2.2) = some m.cls := by rw [← hown]; exact findClass_of_methodNamed B.named
  subst hsz
  have hD := hD0.self (sz := s.heap.size)
  have hl := lv_entry (as.map (cv ad)) (n := mi.2.2.1) (by rw [argL_len]; exact hlen)
  rw [lg_entry_eq]
  have hC : Cx p (rmL mi.2.2.2.2.1) s m (as.map (cv ad)).toArray meth c D cI (va_A (wsW cI ad σ) s.heap.size) mi :=
    ⟨B.exec, B.bytes, hml, B.returns, B.notSynchronized, hown2, fun w hw => hts w (List.mem_cons_of_mem _ hw), hWd, rfl, fun q hq => Or.inr hq⟩
  have hz := hV p e (rmL mi.2.2.2.2.1) s m (as.map (cv ad)).toArray below meth c D cI ad _ hC s.heap [] _ hP hD va_S.rf ⟨hl.1, hl.2.1, ?_, ?_⟩
  · rw [h0] at hz
    exact hz
  · simp only [ent, List.length_append, List.length_replicate]
    omega
  · intro i v hi hv
    refine hl.2.2 (i, cv ad v) ?_
    unfold ent at hi
    by_cases hil : i < (argL as).length
    · rw [List.getElem?_append_left hil] at hi
      simpa using argL_mem (ad := ad) as 0 i v hi hv
    · rw [List.getElem?_append_right (by omega)] at hi
      obtain ⟨hz, hr⟩ := List.getElem?_eq_some_iff.mp hi
      simp at hr
      exact absurd hr.symm hv
end
section
/-- heads [] -/
def k_X0_takeFrom : List Ins := [(.aload_n 0, 0, 0, false, aC 0),
  (.aload_n 1, 1, 1, false, aC 0),
  (.getfield 9, 2, 2, false, aF 0 0 0 false),
  (.putfield 9, 3, 5, false, aF 0 0 0 false),
  (.aload_n 0, 4, 8, false, aC 0),
  (.aload_n 1, 5, 9, false, aC 0),
  (.getfield 15, 6, 10, false, aF 0 1 0 false),
  (.putfield 15, 7, 13, false, aF 0 1 0 false),
  (.aload_n 1, 8, 16, false, aC 0),
  (.getfield 18, 9, 17, false, aF 0 2 3 false),
  (.iconst 0, 10, 20, false, aC (nI 0)),
  (.aload_n 0, 11, 21, false, aC 0),
  (.getfield 18, 12, 22, false, aF 0 2 3 false),
  (.iconst 0, 13, 25, false, aC (nI 0)),
  (.bipush 12, 14, 26, false, aC (nI 12)),
  (.invokestatic 58, 15, 28, false, aM 900 5 true false 0),
  (.aload_n 1, 16, 31, false, aC 0),
  (.getfield 22, 17, 32, false, aF 0 3 4 false),
  (.iconst 0, 18, 35, false, aC (nI 0)),
  (.aload_n 0, 19, 36, false, aC 0),
  (.getfield 22, 20, 37, false, aF 0 3 4 false),
  (.iconst 0, 21, 40, false, aC (nI 0)),
  (.bipush 12, 22, 41, false, aC (nI 12)),
  (.invokestatic 58, 23, 43, false, aM 900 5 true false 0),
  (.aload_n 1, 24, 46, false, aC 0),
  (.getfield 25, 25, 47, false, aF 0 4 5 false),
  (.iconst 0, 26, 50, false, aC (nI 0)),
  (.aload_n 0, 27, 51, false, aC 0),
  (.getfield 25, 28, 52, false, aF 0 4 5 false),
  (.iconst 0, 29, 55, false, aC (nI 0)),
  (.bipush 12, 30, 56, false, aC (nI 12)),
  (.invokestatic 58, 31, 58, false, aM 900 5 true false 0),
  (.aload_n 1, 32, 61, false, aC 0),
  (.getfield 28, 33, 62, false, aF 0 5 6 false),
  (.iconst 0, 34, 65, false, aC (nI 0)),
  (.aload_n 0, 35, 66, false, aC 0),
  (.getfield 28, 36, 67, false, aF 0 5 6 false),
  (.iconst 0, 37, 70, false, aC (nI 0)),
  (.bipush 12, 38, 71, false, aC (nI 12)),
  (.invokestatic 58, 39, 73, false, aM 900 5 true false 0),
  (.aload_n 1, 40, 76, false, aC 0),
  (.getfield 31, 41, 77, false, aF 0 6 7 false),
  (.iconst 0, 42, 80, false, aC (nI 0)),
  (.aload_n 0, 43, 81, false, aC 0),
  (.getfield 31, 44, 82, false, aF 0 6 7 false),
  (.iconst 0, 45, 85, false, aC (nI 0)),
  (.bipush 12, 46, 86, false, aC (nI 12)),
  (.invokestatic 58, 47, 88, false, aM 900 5 true false 0),
  (.aload_n 0, 48, 91, false, aC 0),
  (.aload_n 1, 49, 92, false, aC 0),
  (.getfield 34, 50, 93, false, aF 0 7 0 false),
  (.putfield 34, 51, 96, false, aF 0 7 0 false),
  (.aload_n 1, 52, 99, false, aC 0),
  (.getfield 37, 53, 100, false, aF 0 8 9 false),
  (.iconst 0, 54, 103, false, aC (nI 0)),
  (.aload_n 0, 55, 104, false, aC 0),
  (.getfield 37, 56, 105, false, aF 0 8 9 false),
  (.iconst 0, 57, 108, false, aC (nI 0)),
  (.bipush 12, 58, 109, false, aC (nI 12)),
  (.invokestatic 58, 59, 111, false, aM 900 5 true false 0),
  (.aload_n 1, 60, 114, false, aC 0),
  (.getfield 40, 61, 115, false, aF 0 9 10 false),
  (.iconst 0, 62, 118, false, aC (nI 0)),
  (.aload_n 0, 63, 119, false, aC 0),
  (.getfield 40, 64, 120, false, aF 0 9 10 false),
  (.iconst 0, 65, 123, false, aC (nI 0)),
  (.bipush 12, 66, 124, false, aC (nI 12)),
  (.invokestatic 58, 67, 126, false, aM 900 5 true false 0),
  (.aload_n 1, 68, 129, false, aC 0),
  (.getfield 43, 69, 130, false, aF 0 10 11 false),
  (.iconst 0, 70, 133, false, aC (nI 0)),
  (.aload_n 0, 71, 134, false, aC 0),
  (.getfield 43, 72, 135, false, aF 0 10 11 false),
  (.iconst 0, 73, 138, false, aC (nI 0)),
  (.bipush 12, 74, 139, false, aC (nI 12)),
  (.invokestatic 58, 75, 141, false, aM 900 5 true false 0),
  (.aload_n 1, 76, 144, false, aC 0),
  (.getfield 46, 77, 145, false, aF 0 11 12 false),
  (.iconst 0, 78, 148, false, aC (nI 0)),
  (.aload_n 0, 79, 149, false, aC 0),
  (.getfield 46, 80, 150, false, aF 0 11 12 false),
  (.iconst 0, 81, 153, false, aC (nI 0)),
  (.bipush 12, 82, 154, false, aC (nI 12)),
  (.invokestatic 58, 83, 156, false, aM 900 5 true false 0),
  (.aload_n 1, 84, 159, false, aC 0),
  (.getfield 49, 85, 160, false, aF 0 12 13 false),
  (.iconst 0, 86, 163, false, aC (nI 0)),
  (.aload_n 0, 87, 164, false, aC 0),
  (.getfield 49, 88, 165, false, aF 0 12 13 false),
  (.iconst 0, 89, 168, false, aC (nI 0)),
  (.iconst 4, 90, 169, false, aC (nI 4)),
  (.invokestatic 58, 91, 170, false, aM 900 5 true false 0),
  (.aload_n 1, 92, 173, false, aC 0),
  (.getfield 52, 93, 174, false, aF 0 13 14 false),
  (.iconst 0, 94, 177, false, aC (nI 0)),
  (.aload_n 0, 95, 178, false, aC 0),
  (.getfield 52, 96, 179, false, aF 0 13 14 false),
  (.iconst 0, 97, 182, false, aC (nI 0)),
  (.iconst 4, 98, 183, false, aC (nI 4)),
  (.invokestatic 58, 99, 184, false, aM 900 5 true false 0),
  (.aload_n 0, 100, 187, false, aC 0),
  (.aload_n 1, 101, 188, false, aC 0),
  (.getfield 55, 102, 189, false, aF 0 14 0 false),
  (.putfield 55, 103, 192, false, aF 0 14 0 false),
  (.return_, 104, 195, false, aC 0)]
theorem ok_X0_takeFrom : okCode i_X0_takeFrom k_X0_takeFrom = true := by decide +kernel
/-- heads [] -/
def k_X0_clear : List Ins := [(.aload_n 0, 0, 0, false, aC 0),
  (.iconst 0, 1, 1, false, aC (nI 0)),
  (.putfield 9, 2, 2, false, aF 0 0 0 false),
  (.aload_n 0, 3, 5, false, aC 0),
  (.iconst 0, 4, 6, false, aC (nI 0)),
  (.putfield 15, 5, 7, false, aF 0 1 0 false),
  (.aload_n 0, 6, 10, false, aC 0),
  (.iconst 0, 7, 11, false, aC (nI 0)),
  (.putfield 34, 8, 12, false, aF 0 7 0 false),
  (.return_, 9, 15, false, aC 0)]
theorem ok_X0_clear : okCode i_X0_clear k_X0_clear = true := by decide +kernel
/-- heads [] -/
def k_X0_known : List Ins := [(.iload_n 1, 0, 0, false, aC 0),
  (.ifCond .lt 15, 1, 1, false, aT [8]),
  (.iload_n 1, 2, 4, false, aC 0),
  (.aload_n 0, 3, 5, false, aC 0),
  (.getfield 9, 4, 6, false, aF 0 0 0 false),
  (.if_icmp .ge 7, 5, 9, false, aT [8]),
  (.iconst 1, 6, 12, false, aC (nI 1)),
  (.goto 4, 7, 13, false, aT [9]),
  (.iconst 0, 8, 16, false, aC (nI 0)),
  (.ireturn, 9, 17, false, aC 0)]
theorem ok_X0_known : okCode i_X0_known k_X0_known = true := by decide +kernel
/-- heads [] -/
def k_X0_lives : List Ins := [(.aload_n 0, 0, 0, false, aC 0),
  (.iload_n 1, 1, 1, false, aC 0),
  (.invokevirtual 64, 2, 2, false, aM 3 1 false true 0),
  (.ifCond .eq 18, 3, 5, false, aT [11]),
  (.aload_n 0, 4, 8, false, aC 0),
  (.getfield 15, 5, 9, false, aF 0 1 0 false),
  (.iload_n 1, 6, 12, false, aC 0),
  (.invokestatic 68, 7, 13, false, aM 103 2 true true 5),
  (.ifCond .eq 7, 8, 16, false, aT [11]),
  (.iconst 1, 9, 19, false, aC (nI 1)),
  (.goto 4, 10, 20, false, aT [12]),
  (.iconst 0, 11, 23, false, aC (nI 0)),
  (.ireturn, 12, 24, false, aC 0)]
theorem ok_X0_lives : okCode i_X0_lives k_X0_lives = true := by decide +kernel
/-- heads [] -/
def k_X0_isOf : List Ins := [(.aload_n 0, 0, 0, false, aC 0),
  (.iload_n 1, 1, 1, false, aC 0),
  (.invokevirtual 64, 2, 2, false, aM 3 1 false true 0),
  (.ifCond .eq 17, 3, 5, false, aT [12]),
  (.aload_n 0, 4, 8, false, aC 0),
  (.getfield 18, 5, 9, false, aF 0 2 3 false),
  (.iload_n 1, 6, 12, false, aC 0),
  (.iaload, 7, 13, false, aC 0),
  (.iload_n 2, 8, 14, false, aC 0),
  (.if_icmp .ne 7, 9, 15, false, aT [12]),
  (.iconst 1, 10, 18, false, aC (nI 1)),
  (.goto 4, 11, 19, false, aT [13]),
  (.iconst 0, 12, 22, false, aC (nI 0)),
  (.ireturn, 13, 23, false, aC 0)]
theorem ok_X0_isOf : okCode i_X0_isOf k_X0_isOf = true := by decide +kernel
/-- heads [] -/
def k_X0_isThing : List Ins := [(.iload_n 1, 0, 0, false, aC 0),
  (.ifCond .lt 15, 1, 1, false, aT [8]),
  (.iload_n 1, 2, 4, false, aC 0),
  (.aload_n 0, 3, 5, false, aC 0),
  (.getfield 34, 4, 6, false, aF 0 7 0 false),
  (.if_icmp .ge 7, 5, 9, false, aT [8]),
  (.iconst 1, 6, 12, false, aC (nI 1)),
  (.goto 4, 7, 13, false, aT [9]),
  (.iconst 0, 8, 16, false, aC (nI 0)),
  (.ireturn, 9, 17, false, aC 0)]
theorem ok_X0_isThing : okCode i_X0_isThing k_X0_isThing = true := by decide +kernel
/-- heads [] -/
def k_X0_allLive : List Ins := [(.iload_n 1, 0, 0, false, aC 0),
  (.aload_n 0, 1, 1, false, aC 0),
  (.getfield 15, 2, 2, false, aF 0 1 0 false),
  (.iconst (-1), 3, 5, false, aC ((-1))),
  (.ixor, 4, 6, false, aC 0),
  (.iand, 5, 7, false, aC 0),
  (.ifCond .ne 7, 6, 8, false, aT [9]),
  (.iconst 1, 7, 11, false, aC (nI 1)),
  (.goto 4, 8, 12, false, aT [10]),
  (.iconst 0, 9, 15, false, aC (nI 0)),
  (.ireturn, 10, 16, false, aC 0)]
theorem ok_X0_allLive : okCode i_X0_allLive k_X0_allLive = true := by decide +kernel
/-- heads [] -/
def k_X0_addPerson : List Ins := [(.aload_n 0, 0, 0, false, aC 0),
  (.getfield 9, 1, 1, false, aF 0 0 0 false),
  (.istore 4, 2, 4, false, aC 0),
  (.iload 4, 3, 6, false, aC 0),
  (.bipush 12, 4, 8, false, aC (nI 12)),
  (.if_icmp .lt 6, 5, 10, false, aT [8]),
  (.bipush (-3), 6, 13, false, aC ((-3))),
  (.ireturn, 7, 15, false, aC 0),
  (.aload_n 0, 8, 16, false, aC 0),
  (.getfield 18, 9, 17, false, aF 0 2 3 false),
  (.iload 4, 10, 20, false, aC 0),
  (.iload_n 1, 11, 22, false, aC 0),
  (.iastore, 12, 23, false, aC 0),
  (.aload_n 0, 13, 24, false, aC 0),
  (.getfield 22, 14, 25, false, aF 0 3 4 false),
  (.iload 4, 15, 28, false, aC 0),
  (.iload_n 2, 16, 30, false, aC 0),
  (.iastore, 17, 31, false, aC 0),
  (.aload_n 0, 18, 32, false, aC 0),
  (.getfield 25, 19, 33, false, aF 0 4 5 false),
  (.iload 4, 20, 36, false, aC 0),
  (.iload_n 3, 21, 38, false, aC 0),
  (.iastore, 22, 39, false, aC 0),
  (.aload_n 0, 23, 40, false, aC 0),
  (.getfield 28, 24, 41, false, aF 0 5 6 false),
  (.iload 4, 25, 44, false, aC 0),
  (.bipush 12, 26, 46, false, aC (nI 12)),
  (.iastore, 27, 48, false, aC 0),
  (.aload_n 0, 28, 49, false, aC 0),
  (.getfield 31, 29, 50, false, aF 0 6 7 false),
  (.iload 4, 30, 53, false, aC 0),
  (.bipush 12, 31, 55, false, aC (nI 12)),
  (.iastore, 32, 57, false, aC 0),
  (.aload_n 0, 33, 58, false, aC 0),
  (.dup, 34, 59, false, aC 0),
  (.getfield 15, 35, 60, false, aF 0 1 0 false),
  (.iconst 1, 36, 63, false, aC (nI 1)),
  (.iload 4, 37, 64, false, aC 0),
  (.ishl, 38, 66, false, aC 0),
  (.ior, 39, 67, false, aC 0),
  (.putfield 15, 40, 68, false, aF 0 1 0 false),
  (.aload_n 0, 41, 71, false, aC 0),
  (.iload 4, 42, 72, false, aC 0),
  (.iconst 1, 43, 74, false, aC (nI 1)),
  (.iadd, 44, 75, false, aC 0),
  (.putfield 9, 45, 76, false, aF 0 0 0 false),
  (.iload 4, 46, 79, false, aC 0),
  (.ireturn, 47, 81, false, aC 0)]
theorem ok_X0_addPerson : okCode i_X0_addPerson k_X0_addPerson = true := by decide +kernel
/-- heads [] -/
def k_X0_addThing : List Ins := [(.aload_n 0, 0, 0, false, aC 0),
  (.getfield 34, 1, 1, false, aF 0 7 0 false),
  (.istore 5, 2, 4, false, aC 0),
  (.iload 5, 3, 6, false, aC 0),
  (.bipush 12, 4, 8, false, aC (nI 12)),
  (.if_icmp .lt 6, 5, 10, false, aT [8]),
  (.bipush (-3), 6, 13, false, aC ((-3))),
  (.ireturn, 7, 15, false, aC 0),
  (.aload_n 0, 8, 16, false, aC 0),
  (.getfield 37, 9, 17, false, aF 0 8 9 false),
  (.iload 5, 10, 20, false, aC 0),
  (.iload_n 1, 11, 22, false, aC 0),
  (.iastore, 12, 23, false, aC 0),
  (.aload_n 0, 13, 24, false, aC 0),
  (.getfield 40, 14, 25, false, aF 0 9 10 false),
  (.iload 5, 15, 28, false, aC 0),
  (.iload_n 2, 16, 30, false, aC 0),
  (.iastore, 17, 31, false, aC 0),
  (.aload_n 0, 18, 32, false, aC 0),
  (.getfield 43, 19, 33, false, aF 0 10 11 false),
  (.iload 5, 20, 36, false, aC 0),
  (.iload_n 3, 21, 38, false, aC 0),
  (.iastore, 22, 39, false, aC 0),
  (.aload_n 0, 23, 40, false, aC 0),
  (.getfield 46, 24, 41, false, aF 0 11 12 false),
  (.iload 5, 25, 44, false, aC 0),
  (.iload 4, 26, 46, false, aC 0),
  (.iastore, 27, 48, false, aC 0),
  (.aload_n 0, 28, 49, false, aC 0),
  (.iload 5, 29, 50, false, aC 0),
  (.iconst 1, 30, 52, false, aC (nI 1)),
  (.iadd, 31, 53, false, aC 0),
  (.putfield 34, 32, 54, false, aF 0 7 0 false),
  (.iload 5, 33, 57, false, aC 0),
  (.ireturn, 34, 59, false, aC 0)]
theorem ok_X0_addThing : okCode i_X0_addThing k_X0_addThing = true := by decide +kernel
/-- heads [] -/
def k_X0_setRule : List Ins := [(.aload_n 0, 0, 0, false, aC 0),
  (.getfield 49, 1, 1, false, aF 0 12 13 false),
  (.iload_n 1, 2, 4, false, aC 0),
  (.iload_n 2, 3, 5, false, aC 0),
  (.iastore, 4, 6, false, aC 0),
  (.aload_n 0, 5, 7, false, aC 0),
  (.getfield 52, 6, 8, false, aF 0 13 14 false),
  (.iload_n 1, 7, 11, false, aC 0),
  (.iload_n 3, 8, 12, false, aC 0),
  (.iastore, 9, 13, false, aC 0),
  (.return_, 10, 14, false, aC 0)]
theorem ok_X0_setRule : okCode i_X0_setRule k_X0_setRule = true := by decide +kernel
/-- heads [] -/
def k_X0_canMarry : List Ins := [(.aload_n 0, 0, 0, false, aC 0),
  (.iload_n 1, 1, 1, false, aC 0),
  (.iconst 0, 2, 2, false, aC (nI 0)),
  (.invokevirtual 72, 3, 3, false, aM 5 2 false true 0),
  (.ifCond .eq 28, 4, 6, false, aT [18]),
  (.aload_n 0, 5, 9, false, aC 0),
  (.iload_n 2, 6, 10, false, aC 0),
  (.iconst 1, 7, 11, false, aC (nI 1)),
  (.invokevirtual 72, 8, 12, false, aM 5 2 false true 0),
  (.ifCond .eq 19, 9, 15, false, aT [18]),
  (.aload_n 0, 10, 18, false, aC 0),
  (.iload_n 1, 11, 19, false, aC 0),
  (.invokevirtual 75, 12, 20, false, aM 4 1 false true 0),
  (.ifCond .eq 11, 13, 23, false, aT [18]),
  (.aload_n 0, 14, 26, false, aC 0),
  (.iload_n 2, 15, 27, false, aC 0),
  (.invokevirtual 75, 16, 28, false, aM 4 1 false true 0),
  (.ifCond .ne 5, 17, 31, false, aT [20]),
  (.iconst 0, 18, 34, false, aC (nI 0)),
  (.ireturn, 19, 35, false, aC 0),
  (.aload_n 0, 20, 36, false, aC 0),
  (.getfield 28, 21, 37, false, aF 0 5 6 false),
  (.iload_n 1, 22, 40, false, aC 0),
  (.iaload, 23, 41, false, aC 0),
  (.bipush 12, 24, 42, false, aC (nI 12)),
  (.if_icmp .ne 14, 25, 44, false, aT [32]),
  (.aload_n 0, 26, 47, false, aC 0),
  (.getfield 28, 27, 48, false, aF 0 5 6 false),
  (.iload_n 2, 28, 51, false, aC 0),
  (.iaload, 29, 52, false, aC 0),
  (.bipush 12, 30, 53, false, aC (nI 12)),
  (.if_icmp .eq 5, 31, 55, false, aT [34]),
  (.iconst 0, 32, 58, false, aC (nI 0)),
  (.ireturn, 33, 59, false, aC 0),
  (.aload_n 0, 34, 60, false, aC 0),
  (.getfield 22, 35, 61, false, aF 0 3 4 false),
  (.iload_n 1, 36, 64, false, aC 0),
  (.iaload, 37, 65, false, aC 0),
  (.bipush 12, 38, 66, false, aC (nI 12)),
  (.if_icmp .eq 20, 39, 68, false, aT [51]),
  (.aload_n 0, 40, 71, false, aC 0),
  (.getfield 22, 41, 72, false, aF 0 3 4 false),
  (.iload_n 1, 42, 75, false, aC 0),
  (.iaload, 43, 76, false, aC 0),
  (.aload_n 0, 44, 77, false, aC 0),
  (.getfield 22, 45, 78, false, aF 0 3 4 false),
  (.iload_n 2, 46, 81, false, aC 0),
  (.iaload, 47, 82, false, aC 0),
  (.if_icmp .ne 5, 48, 83, false, aT [51]),
  (.iconst 0, 49, 86, false, aC (nI 0)),
  (.ireturn, 50, 87, false, aC 0),
  (.aload_n 0, 51, 88, false, aC 0),
  (.getfield 25, 52, 89, false, aF 0 4 5 false),
  (.iload_n 1, 53, 92, false, aC 0),
  (.iaload, 54, 93, false, aC 0),
  (.bipush 12, 55, 94, false, aC (nI 12)),
  (.if_icmp .eq 20, 56, 96, false, aT [68]),
  (.aload_n 0, 57, 99, false, aC 0),
  (.getfield 25, 58, 100, false, aF 0 4 5 false),
  (.iload_n 1, 59, 103, false, aC 0),
  (.iaload, 60, 104, false, aC 0),
  (.aload_n 0, 61, 105, false, aC 0),
  (.getfield 25, 62, 106, false, aF 0 4 5 false),
  (.iload_n 2, 63, 109, false, aC 0),
  (.iaload, 64, 110, false, aC 0),
  (.if_icmp .ne 5, 65, 111, false, aT [68]),
  (.iconst 0, 66, 114, false, aC (nI 0)),
  (.ireturn, 67, 115, false, aC 0),
  (.aload_n 0, 68, 116, false, aC 0),
  (.getfield 22, 69, 117, false, aF 0 3 4 false),
  (.iload_n 2, 70, 120, false, aC 0),
  (.iaload, 71, 121, false, aC 0),
  (.iload_n 1, 72, 122, false, aC 0),
  (.if_icmp .eq 17, 73, 123, false, aT [82]),
  (.aload_n 0, 74, 126, false, aC 0),
  (.getfield 25, 75, 127, false, aF 0 4 5 false),
  (.iload_n 1, 76, 130, false, aC 0),
  (.iaload, 77, 131, false, aC 0),
  (.iload_n 2, 78, 132, false, aC 0),
  (.if_icmp .eq 7, 79, 133, false, aT [82]),
  (.iconst 1, 80, 136, false, aC (nI 1)),
  (.goto 4, 81, 137, false, aT [83]),
  (.iconst 0, 82, 140, false, aC (nI 0)),
  (.ireturn, 83, 141, false, aC 0)]
theorem ok_X0_canMarry : okCode i_X0_canMarry k_X0_canMarry = true := by decide +kernel
/-- heads [] -/
def k_X0_join : List Ins := [(.aload_n 0, 0, 0, false, aC 0),
  (.iload_n 1, 1, 1, false, aC 0),
  (.iload_n 2, 2, 2, false, aC 0),
  (.invokevirtual 78, 3, 3, false, aM 11 2 false true 0),
  (.ifCond .ne 5, 4, 6, false, aT [7]),
  (.iconst 0, 5, 9, false, aC (nI 0)),
  (.ireturn, 6, 10, false, aC 0),
  (.aload_n 0, 7, 11, false, aC 0),
  (.getfield 28, 8, 12, false, aF 0 5 6 false),
  (.iload_n 1, 9, 15, false, aC 0),
  (.iload_n 2, 10, 16, false, aC 0),
  (.iastore, 11, 17, false, aC 0),
  (.aload_n 0, 12, 18, false, aC 0),
  (.getfield 28, 13, 19, false, aF 0 5 6 false),
  (.iload_n 2, 14, 22, false, aC 0),
  (.iload_n 1, 15, 23, false, aC 0),
  (.iastore, 16, 24, false, aC 0),
  (.iconst 1, 17, 25, false, aC (nI 1)),
  (.ireturn, 18, 26, false, aC 0)]
theorem ok_X0_join : okCode i_X0_join k_X0_join = true := by decide +kernel
/-- heads [22] -/
def k_X0_houseOf : List Ins := [(.iload_n 1, 0, 0, false, aC 0),
  (.istore_n 2, 1, 1, false, aC 0),
  (.aload_n 0, 2, 2, false, aC 0),
  (.getfield 18, 3, 3, false, aF 0 2 3 false),
  (.iload_n 1, 4, 6, false, aC 0),
  (.iaload, 5, 7, false, aC 0),
  (.iconst 1, 6, 8, false, aC (nI 1)),
  (.if_icmp .ne 23, 7, 9, false, aT [20]),
  (.aload_n 0, 8, 12, false, aC 0),
  (.aload_n 0, 9, 13, false, aC 0),
  (.getfield 28, 10, 14, false, aF 0 5 6 false),
  (.iload_n 1, 11, 17, false, aC 0),
  (.iaload, 12, 18, false, aC 0),
  (.invokevirtual 64, 13, 19, false, aM 3 1 false true 0),
  (.ifCond .eq 10, 14, 22, false, aT [20]),
  (.aload_n 0, 15, 25, false, aC 0),
  (.getfield 28, 16, 26, false, aF 0 5 6 false),
  (.iload_n 1, 17, 29, false, aC 0),
  (.iaload, 18, 30, false, aC 0),
  (.istore_n 2, 19, 31, false, aC 0),
  (.iconst 0, 20, 32, false, aC (nI 0)),
  (.istore_n 3, 21, 33, false, aC 0),
  (.iload_n 3, 22, 34, true, aC 0),
  (.bipush 12, 23, 35, false, aC (nI 12)),
  (.if_icmp .ge 29, 24, 37, false, aT [39]),
  (.aload_n 0, 25, 40, false, aC 0),
  (.aload_n 0, 26, 41, false, aC 0),
  (.getfield 22, 27, 42, false, aF 0 3 4 false),
  (.iload_n 2, 28, 45, false, aC 0),
  (.iaload, 29, 46, false, aC 0),
  (.invokevirtual 64, 30, 47, false, aM 3 1 false true 0),
  (.ifCond .eq 16, 31, 50, false, aT [39]),
  (.aload_n 0, 32, 53, false, aC 0),
  (.getfield 22, 33, 54, false, aF 0 3 4 false),
  (.iload_n 2, 34, 57, false, aC 0),
  (.iaload, 35, 58, false, aC 0),
  (.istore_n 2, 36, 59, false, aC 0),
  (.iinc 3 1, 37, 60, false, aC (nI 1)),
  (.goto (-29), 38, 63, false, aT [22]),
  (.iload_n 2, 39, 66, false, aC 0),
  (.ireturn, 40, 67, false, aC 0)]
theorem ok_X0_houseOf : okCode i_X0_houseOf k_X0_houseOf = true := by decide +kernel
/-- heads [] -/
def k_X0_isIn : List Ins := [(.aload_n 0, 0, 0, false, aC 0),
  (.aload_n 0, 1, 1, false, aC 0),
  (.getfield 43, 2, 2, false, aF 0 10 11 false),
  (.iload_n 1, 3, 5, false, aC 0),
  (.iaload, 4, 6, false, aC 0),
  (.invokevirtual 64, 5, 7, false, aM 3 1 false true 0),
  (.ifCond .eq 21, 6, 10, false, aT [17]),
  (.aload_n 0, 7, 13, false, aC 0),
  (.aload_n 0, 8, 14, false, aC 0),
  (.getfield 43, 9, 15, false, aF 0 10 11 false),
  (.iload_n 1, 10, 18, false, aC 0),
  (.iaload, 11, 19, false, aC 0),
  (.invokevirtual 81, 12, 20, false, aM 13 1 false true 0),
  (.iload_n 2, 13, 23, false, aC 0),
  (.if_icmp .ne 7, 14, 24, false, aT [17]),
  (.iconst 1, 15, 27, false, aC (nI 1)),
  (.goto 4, 16, 28, false, aT [18]),
  (.iconst 0, 17, 31, false, aC (nI 0)),
  (.ireturn, 18, 32, false, aC 0)]
theorem ok_X0_isIn : okCode i_X0_isIn k_X0_isIn = true := by decide +kernel
/-- heads [4] -/
def k_X0_childrenOf : List Ins := [(.iconst 0, 0, 0, false, aC (nI 0)),
  (.istore_n 2, 1, 1, false, aC 0),
  (.iconst 0, 2, 2, false, aC (nI 0)),
  (.istore_n 3, 3, 3, false, aC 0),
  (.iload_n 3, 4, 4, true, aC 0),
  (.aload_n 0, 5, 5, false, aC 0),
  (.getfield 9, 6, 6, false, aF 0 0 0 false),
  (.if_icmp .ge 41, 7, 9, false, aT [30]),
  (.iload_n 1, 8, 12, false, aC 0),
  (.aload_n 0, 9, 13, false, aC 0),
  (.getfield 22, 10, 14, false, aF 0 3 4 false),
  (.iload_n 3, 11, 17, false, aC 0),
  (.iaload, 12, 18, false, aC 0),
  (.invokestatic 68, 13, 19, false, aM 103 2 true true 5),
  (.ifCond .ne 16, 14, 22, false, aT [22]),
  (.iload_n 1, 15, 25, false, aC 0),
  (.aload_n 0, 16, 26, false, aC 0),
  (.getfield 25, 17, 27, false, aF 0 4 5 false),
  (.iload_n 3, 18, 30, false, aC 0),
  (.iaload, 19, 31, false, aC 0),
  (.invokestatic 68, 20, 32, false, aM 103 2 true true 5),
  (.ifCond .eq 9, 21, 35, false, aT [28]),
  (.iload_n 2, 22, 38, false, aC 0),
  (.iconst 1, 23, 39, false, aC (nI 1)),
  (.iload_n 3, 24, 40, false, aC 0),
  (.ishl, 25, 41, false, aC 0),
  (.ior, 26, 42, false, aC 0),
  (.istore_n 2, 27, 43, false, aC 0),
  (.iinc 3 1, 28, 44, false, aC (nI 1)),
  (.goto (-43), 29, 47, false, aT [4]),
  (.iload_n 2, 30, 50, false, aC 0),
  (.ireturn, 31, 51, false, aC 0)]
theorem ok_X0_childrenOf : okCode i_X0_childrenOf k_X0_childrenOf = true := by decide +kernel
/-- heads [10] -/
def k_X0_siblingsOf : List Ins := [(.aload_n 0, 0, 0, false, aC 0),
  (.iload_n 1, 1, 1, false, aC 0),
  (.invokevirtual 64, 2, 2, false, aM 3 1 false true 0),
  (.ifCond .ne 5, 3, 5, false, aT [6]),
  (.iconst 0, 4, 8, false, aC (nI 0)),
  (.ireturn, 5, 9, false, aC 0),
  (.iconst 0, 6, 10, false, aC (nI 0)),
  (.istore_n 2, 7, 11, false, aC 0),
  (.iconst 0, 8, 12, false, aC (nI 0)),
  (.istore_n 3, 9, 13, false, aC 0),
  (.iload_n 3, 10, 14, true, aC 0),
  (.aload_n 0, 11, 15, false, aC 0),
  (.getfield 9, 12, 16, false, aF 0 0 0 false),
  (.if_icmp .ge 96, 13, 19, false, aT [67]),
  (.aload_n 0, 14, 22, false, aC 0),
  (.getfield 22, 15, 23, false, aF 0 3 4 false),
  (.iload_n 1, 16, 26, false, aC 0),
  (.iaload, 17, 27, false, aC 0),
  (.bipush 12, 18, 28, false, aC (nI 12)),
  (.if_icmp .eq 22, 19, 30, false, aT [31]),
  (.aload_n 0, 20, 33, false, aC 0),
  (.getfield 22, 21, 34, false, aF 0 3 4 false),
  (.iload_n 3, 22, 37, false, aC 0),
  (.iaload, 23, 38, false, aC 0),
  (.aload_n 0, 24, 39, false, aC 0),
  (.getfield 22, 25, 40, false, aF 0 3 4 false),
  (.iload_n 1, 26, 43, false, aC 0),
  (.iaload, 27, 44, false, aC 0),
  (.if_icmp .ne 7, 28, 45, false, aT [31]),
  (.iconst 1, 29, 48, false, aC (nI 1)),
  (.goto 4, 30, 49, false, aT [32]),
  (.iconst 0, 31, 52, false, aC (nI 0)),
  (.istore 4, 32, 53, false, aC 0),
  (.aload_n 0, 33, 55, false, aC 0),
  (.getfield 25, 34, 56, false, aF 0 4 5 false),
  (.iload_n 1, 35, 59, false, aC 0),
  (.iaload, 36, 60, false, aC 0),
  (.bipush 12, 37, 61, false, aC (nI 12)),
  (.if_icmp .eq 22, 38, 63, false, aT [50]),
  (.aload_n 0, 39, 66, false, aC 0),
  (.getfield 25, 40, 67, false, aF 0 4 5 false),
  (.iload_n 3, 41, 70, false, aC 0),
  (.iaload, 42, 71, false, aC 0),
  (.aload_n 0, 43, 72, false, aC 0),
  (.getfield 25, 44, 73, false, aF 0 4 5 false),
  (.iload_n 1, 45, 76, false, aC 0),
  (.iaload, 46, 77, false, aC 0),
  (.if_icmp .ne 7, 47, 78, false, aT [50]),
  (.iconst 1, 48, 81, false, aC (nI 1)),
  (.goto 4, 49, 82, false, aT [51]),
  (.iconst 0, 50, 85, false, aC (nI 0)),
  (.istore 5, 51, 86, false, aC 0),
  (.iload_n 3, 52, 88, false, aC 0),
  (.iload_n 1, 53, 89, false, aC 0),
  (.if_icmp .eq 19, 54, 90, false, aT [65]),
  (.iload 4, 55, 93, false, aC 0),
  (.ifCond .ne 8, 56, 95, false, aT [59]),
  (.iload 5, 57, 98, false, aC 0),
  (.ifCond .eq 9, 58, 100, false, aT [65]),
  (.iload_n 2, 59, 103, false, aC 0),
  (.iconst 1, 60, 104, false, aC (nI 1)),
  (.iload_n 3, 61, 105, false, aC 0),
  (.ishl, 62, 106, false, aC 0),
  (.ior, 63, 107, false, aC 0),
  (.istore_n 2, 64, 108, false, aC 0),
  (.iinc 3 1, 65, 109, false, aC (nI 1)),
  (.goto (-98), 66, 112, false, aT [10]),
  (.iload_n 2, 67, 115, false, aC 0),
  (.ireturn, 68, 116, false, aC 0)]
theorem ok_X0_siblingsOf : okCode i_X0_siblingsOf k_X0_siblingsOf = true := by decide +kernel
/-- heads [4] -/
def k_X0_ofSex : List Ins := [(.iconst 0, 0, 0, false, aC (nI 0)),
  (.istore_n 3, 1, 1, false, aC 0),
  (.iconst 0, 2, 2, false, aC (nI 0)),
  (.istore 4, 3, 3, false, aC 0),
  (.iload 4, 4, 5, true, aC 0),
  (.aload_n 0, 5, 7, false, aC 0),
  (.getfield 9, 6, 8, false, aF 0 0 0 false),
  (.if_icmp .ge 36, 7, 11, false, aT [26]),
  (.iload_n 1, 8, 14, false, aC 0),
  (.iload 4, 9, 15, false, aC 0),
  (.invokestatic 68, 10, 17, false, aM 103 2 true true 5),
  (.ifCond .eq 21, 11, 20, false, aT [24]),
  (.aload_n 0, 12, 23, false, aC 0),
  (.getfield 18, 13, 24, false, aF 0 2 3 false),
  (.iload 4, 14, 27, false, aC 0),
  (.iaload, 15, 29, false, aC 0),
  (.iload_n 2, 16, 30, false, aC 0),
  (.if_icmp .ne 10, 17, 31, false, aT [24]),
  (.iload_n 3, 18, 34, false, aC 0),
  (.iconst 1, 19, 35, false, aC (nI 1)),
  (.iload 4, 20, 36, false, aC 0),
  (.ishl, 21, 38, false, aC 0),
  (.ior, 22, 39, false, aC 0),
  (.istore_n 3, 23, 40, false, aC 0),
  (.iinc 4 1, 24, 41, false, aC (nI 1)),
  (.goto (-39), 25, 44, false, aT [4]),
  (.iload_n 3, 26, 47, false, aC 0),
  (.ireturn, 27, 48, false, aC 0)]
theorem ok_X0_ofSex : okCode i_X0_ofSex k_X0_ofSex = true := by decide +kernel
/-- heads [] -/
def k_X0_related : List Ins := [(.iconst 0, 0, 0, false, aC (nI 0)),
  (.istore_n 3, 1, 1, false, aC 0),
  (.iload_n 2, 2, 2, false, aC 0),
  (.tableswitch 145 0 5 #[37, 53, 69, 78, 121, 133], 3, 3, false, aT [74, 4, 14, 24, 29, 58, 66]),
  (.aload_n 0, 4, 40, false, aC 0),
  (.aload_n 0, 5, 41, false, aC 0),
  (.iconst 1, 6, 42, false, aC (nI 1)),
  (.iload_n 1, 7, 43, false, aC 0),
  (.ishl, 8, 44, false, aC 0),
  (.invokevirtual 85, 9, 45, false, aM 15 1 false true 0),
  (.iconst 0, 10, 48, false, aC (nI 0)),
  (.invokevirtual 88, 11, 49, false, aM 17 2 false true 0),
  (.istore_n 3, 12, 52, false, aC 0),
  (.goto 95, 13, 53, false, aT [74]),
  (.aload_n 0, 14, 56, false, aC 0),
  (.aload_n 0, 15, 57, false, aC 0),
  (.iconst 1, 16, 58, false, aC (nI 1)),
  (.iload_n 1, 17, 59, false, aC 0),
  (.ishl, 18, 60, false, aC 0),
  (.invokevirtual 85, 19, 61, false, aM 15 1 false true 0),
  (.iconst 1, 20, 64, false, aC (nI 1)),
  (.invokevirtual 88, 21, 65, false, aM 17 2 false true 0),
  (.istore_n 3, 22, 68, false, aC 0),
  (.goto 79, 23, 69, false, aT [74]),
  (.aload_n 0, 24, 72, false, aC 0),
  (.iload_n 1, 25, 73, false, aC 0),
  (.invokevirtual 92, 26, 74, false, aM 16 1 false true 0),
  (.istore_n 3, 27, 77, false, aC 0),
  (.goto 70, 28, 78, false, aT [74]),
  (.aload_n 0, 29, 81, false, aC 0),
  (.aload_n 0, 30, 82, false, aC 0),
  (.aload_n 0, 31, 83, false, aC 0),
  (.getfield 22, 32, 84, false, aF 0 3 4 false),
  (.iload_n 1, 33, 87, false, aC 0),
  (.iaload, 34, 88, false, aC 0),
  (.invokevirtual 92, 35, 89, false, aM 16 1 false true 0),
  (.aload_n 0, 36, 92, false, aC 0),
  (.aload_n 0, 37, 93, false, aC 0),
  (.getfield 25, 38, 94, false, aF 0 4 5 false),
  (.iload_n 1, 39, 97, false, aC 0),
  (.iaload, 40, 98, false, aC 0),
  (.invokevirtual 92, 41, 99, false, aM 16 1 false true 0),
  (.ior, 42, 102, false, aC 0),
  (.invokevirtual 85, 43, 103, false, aM 15 1 false true 0),
  (.aload_n 0, 44, 106, false, aC 0),
  (.iload_n 1, 45, 107, false, aC 0),
  (.invokevirtual 92, 46, 108, false, aM 16 1 false true 0),
  (.iconst (-1), 47, 111, false, aC ((-1))),
  (.ixor, 48, 112, false, aC 0),
  (.iand, 49, 113, false, aC 0),
  (.iconst 1, 50, 114, false, aC (nI 1)),
  (.iload_n 1, 51, 115, false, aC 0),
  (.ishl, 52, 116, false, aC 0),
  (.iconst (-1), 53, 117, false, aC ((-1))),
  (.ixor, 54, 118, false, aC 0),
  (.iand, 55, 119, false, aC 0),
  (.istore_n 3, 56, 120, false, aC 0),
  (.goto 27, 57, 121, false, aT [74]),
  (.iconst 1, 58, 124, false, aC (nI 1)),
  (.aload_n 0, 59, 125, false, aC 0),
  (.getfield 28, 60, 126, false, aF 0 5 6 false),
  (.iload_n 1, 61, 129, false, aC 0),
  (.iaload, 62, 130, false, aC 0),
  (.ishl, 63, 131, false, aC 0),
  (.istore_n 3, 64, 132, false, aC 0),
  (.goto 15, 65, 133, false, aT [74]),
  (.iconst 1, 66, 136, false, aC (nI 1)),
  (.aload_n 0, 67, 137, false, aC 0),
  (.getfield 31, 68, 138, false, aF 0 6 7 false),
  (.iload_n 1, 69, 141, false, aC 0),
  (.iaload, 70, 142, false, aC 0),
  (.ishl, 71, 143, false, aC 0),
  (.istore_n 3, 72, 144, false, aC 0),
  (.goto 3, 73, 145, false, aT [74]),
  (.iload_n 3, 74, 148, false, aC 0),
  (.aload_n 0, 75, 149, false, aC 0),
  (.getfield 15, 76, 150, false, aF 0 1 0 false),
  (.iand, 77, 153, false, aC 0),
  (.ireturn, 78, 154, false, aC 0)]
theorem ok_X0_related : okCode i_X0_related k_X0_related = true := by decide +kernel
/-- heads [2] -/
def k_X0_heirBy : List Ins := [(.iconst 0, 0, 0, false, aC (nI 0)),
  (.istore_n 3, 1, 1, false, aC 0),
  (.iload_n 3, 2, 2, true, aC 0),
  (.aload_n 0, 3, 3, false, aC 0),
  (.getfield 52, 4, 4, false, aF 0 13 14 false),
  (.iload_n 2, 5, 7, false, aC 0),
  (.iaload, 6, 8, false, aC 0),
  (.if_icmp .ge 42, 7, 9, false, aT [31]),
  (.aload_n 0, 8, 12, false, aC 0),
  (.iload_n 1, 9, 13, false, aC 0),
  (.aload_n 0, 10, 14, false, aC 0),
  (.getfield 49, 11, 15, false, aF 0 12 13 false),
  (.iload_n 2, 12, 18, false, aC 0),
  (.iaload, 13, 19, false, aC 0),
  (.iconst 3, 14, 20, false, aC (nI 3)),
  (.iload_n 3, 15, 21, false, aC 0),
  (.imul, 16, 22, false, aC 0),
  (.ishr, 17, 23, false, aC 0),
  (.bipush 7, 18, 24, false, aC (nI 7)),
  (.iand, 19, 26, false, aC 0),
  (.invokevirtual 95, 20, 27, false, aM 18 2 false true 0),
  (.istore 4, 21, 30, false, aC 0),
  (.iload 4, 22, 32, false, aC 0),
  (.ifCond .eq 11, 23, 34, false, aT [29]),
  (.aload_n 0, 24, 37, false, aC 0),
  (.iload 4, 25, 38, false, aC 0),
  (.iconst 0, 26, 40, false, aC (nI 0)),
  (.invokevirtual 98, 27, 41, false, aM 20 2 false true 0),
  (.ireturn, 28, 44, false, aC 0),
  (.iinc 3 1, 29, 45, false, aC (nI 1)),
  (.goto (-46), 30, 48, false, aT [2]),
  (.bipush 12, 31, 51, false, aC (nI 12)),
  (.ireturn, 32, 53, false, aC 0)]
theorem ok_X0_heirBy : okCode i_X0_heirBy k_X0_heirBy = true := by decide +kernel
/-- heads [4] -/
def k_X0_member : List Ins := [(.iload_n 2, 0, 0, false, aC 0),
  (.istore_n 3, 1, 1, false, aC 0),
  (.iconst 0, 2, 2, false, aC (nI 0)),
  (.istore 4, 3, 3, false, aC 0),
  (.iload 4, 4, 5, true, aC 0),
  (.bipush 12, 5, 7, false, aC (nI 12)),
  (.if_icmp .ge 28, 6, 9, false, aT [18]),
  (.iload_n 1, 7, 12, false, aC 0),
  (.iload 4, 8, 13, false, aC 0),
  (.invokestatic 68, 9, 15, false, aM 103 2 true true 5),
  (.ifCond .eq 13, 10, 18, false, aT [16]),
  (.iload_n 3, 11, 21, false, aC 0),
  (.ifCond .ne 6, 12, 22, false, aT [15]),
  (.iload 4, 13, 25, false, aC 0),
  (.ireturn, 14, 27, false, aC 0),
  (.iinc 3 (-1), 15, 28, false, aC ((-1))),
  (.iinc 4 1, 16, 31, false, aC (nI 1)),
  (.goto (-29), 17, 34, false, aT [4]),
  (.bipush 12, 18, 37, false, aC (nI 12)),
  (.ireturn, 19, 39, false, aC 0)]
theorem ok_X0_member : okCode i_X0_member k_X0_member = true := by decide +kernel
/-- heads [4] -/
def k_X0_heldBy : List Ins := [(.iconst 0, 0, 0, false, aC (nI 0)),
  (.istore_n 2, 1, 1, false, aC 0),
  (.iconst 0, 2, 2, false, aC (nI 0)),
  (.istore_n 3, 3, 3, false, aC 0),
  (.iload_n 3, 4, 4, true, aC 0),
  (.aload_n 0, 5, 5, false, aC 0),
  (.getfield 34, 6, 6, false, aF 0 7 0 false),
  (.if_icmp .ge 22, 7, 9, false, aT [17]),
  (.aload_n 0, 8, 12, false, aC 0),
  (.getfield 43, 9, 13, false, aF 0 10 11 false),
  (.iload_n 3, 10, 16, false, aC 0),
  (.iaload, 11, 17, false, aC 0),
  (.iload_n 1, 12, 18, false, aC 0),
  (.if_icmp .ne 6, 13, 19, false, aT [15]),
  (.iinc 2 1, 14, 22, false, aC (nI 1)),
  (.iinc 3 1, 15, 25, false, aC (nI 1)),
  (.goto (-24), 16, 28, false, aT [4]),
  (.iload_n 2, 17, 31, false, aC 0),
  (.ireturn, 18, 32, false, aC 0)]
theorem ok_X0_heldBy : okCode i_X0_heldBy k_X0_heldBy = true := by decide +kernel
/-- heads [4] -/
def k_X0_worthOfLands : List Ins := [(.iconst 0, 0, 0, false, aC (nI 0)),
  (.istore_n 1, 1, 1, false, aC 0),
  (.iconst 0, 2, 2, false, aC (nI 0)),
  (.istore_n 2, 3, 3, false, aC 0),
  (.iload_n 2, 4, 4, true, aC 0),
  (.aload_n 0, 5, 5, false, aC 0),
  (.getfield 34, 6, 6, false, aF 0 7 0 false),
  (.if_icmp .ge 40, 7, 9, false, aT [29]),
  (.aload_n 0, 8, 12, false, aC 0),
  (.getfield 37, 9, 13, false, aF 0 8 9 false),
  (.iload_n 2, 10, 16, false, aC 0),
  (.iaload, 11, 17, false, aC 0),
  (.ifCond .ne 25, 12, 18, false, aT [27]),
  (.aload_n 0, 13, 21, false, aC 0),
  (.aload_n 0, 14, 22, false, aC 0),
  (.getfield 43, 15, 23, false, aF 0 10 11 false),
  (.iload_n 2, 16, 26, false, aC 0),
  (.iaload, 17, 27, false, aC 0),
  (.invokevirtual 64, 18, 28, false, aM 3 1 false true 0),
  (.ifCond .eq 12, 19, 31, false, aT [27]),
  (.iload_n 1, 20, 34, false, aC 0),
  (.aload_n 0, 21, 35, false, aC 0),
  (.getfield 40, 22, 36, false, aF 0 9 10 false),
  (.iload_n 2, 23, 39, false, aC 0),
  (.iaload, 24, 40, false, aC 0),
  (.iadd, 25, 41, false, aC 0),
  (.istore_n 1, 26, 42, false, aC 0),
  (.iinc 2 1, 27, 43, false, aC (nI 1)),
  (.goto (-42), 28, 46, false, aT [4]),
  (.iload_n 1, 29, 49, false, aC 0),
  (.ireturn, 30, 50, false, aC 0)]
theorem ok_X0_worthOfLands : okCode i_X0_worthOfLands k_X0_worthOfLands = true := by decide +kernel
/-- heads [4] -/
def k_X0_owedTo : List Ins := [(.iconst 0, 0, 0, false, aC (nI 0)),
  (.istore_n 2, 1, 1, false, aC 0),
  (.iconst 0, 2, 2, false, aC (nI 0)),
  (.istore_n 3, 3, 3, false, aC 0),
  (.iload_n 3, 4, 4, true, aC 0),
  (.aload_n 0, 5, 5, false, aC 0),
  (.getfield 34, 6, 6, false, aF 0 7 0 false),
  (.if_icmp .ge 67, 7, 9, false, aT [48]),
  (.aload_n 0, 8, 12, false, aC 0),
  (.getfield 37, 9, 13, false, aF 0 8 9 false),
  (.iload_n 3, 10, 16, false, aC 0),
  (.iaload, 11, 17, false, aC 0),
  (.iconst 1, 12, 18, false, aC (nI 1)),
  (.if_icmp .ne 22, 13, 19, false, aT [27]),
  (.aload_n 0, 14, 22, false, aC 0),
  (.getfield 46, 15, 23, false, aF 0 11 12 false),
  (.iload_n 3, 16, 26, false, aC 0),
  (.iaload, 17, 27, false, aC 0),
  (.iload_n 1, 18, 28, false, aC 0),
  (.if_icmp .ne 12, 19, 29, false, aT [27]),
  (.iload_n 2, 20, 32, false, aC 0),
  (.aload_n 0, 21, 33, false, aC 0),
  (.getfield 40, 22, 34, false, aF 0 9 10 false),
  (.iload_n 3, 23, 37, false, aC 0),
  (.iaload, 24, 38, false, aC 0),
  (.iadd, 25, 39, false, aC 0),
  (.istore_n 2, 26, 40, false, aC 0),
  (.aload_n 0, 27, 41, false, aC 0),
  (.getfield 37, 28, 42, false, aF 0 8 9 false),
  (.iload_n 3, 29, 45, false, aC 0),
  (.iaload, 30, 46, false, aC 0),
  (.iconst 1, 31, 47, false, aC (nI 1)),
  (.if_icmp .ne 22, 32, 48, false, aT [46]),
  (.aload_n 0, 33, 51, false, aC 0),
  (.getfield 43, 34, 52, false, aF 0 10 11 false),
  (.iload_n 3, 35, 55, false, aC 0),
  (.iaload, 36, 56, false, aC 0),
  (.iload_n 1, 37, 57, false, aC 0),
  (.if_icmp .ne 12, 38, 58, false, aT [46]),
  (.iload_n 2, 39, 61, false, aC 0),
  (.aload_n 0, 40, 62, false, aC 0),
  (.getfield 40, 41, 63, false, aF 0 9 10 false),
  (.iload_n 3, 42, 66, false, aC 0),
  (.iaload, 43, 67, false, aC 0),
  (.isub, 44, 68, false, aC 0),
  (.istore_n 2, 45, 69, false, aC 0),
  (.iinc 3 1, 46, 70, false, aC (nI 1)),
  (.goto (-69), 47, 73, false, aT [4]),
  (.iload_n 2, 48, 76, false, aC 0),
  (.ireturn, 49, 77, false, aC 0)]
theorem ok_X0_owedTo : okCode i_X0_owedTo k_X0_owedTo = true := by decide +kernel
/-- heads [] -/
def k_X0_pass : List Ins := [(.aload_n 0, 0, 0, false, aC 0),
  (.getfield 43, 1, 1, false, aF 0 10 11 false),
  (.iload_n 1, 2, 4, false, aC 0),
  (.iaload, 3, 5, false, aC 0),
  (.iload_n 2, 4, 6, false, aC 0),
  (.if_icmp .ne 23, 5, 7, false, aT [18]),
  (.aload_n 0, 6, 10, false, aC 0),
  (.getfield 43, 7, 11, false, aF 0 10 11 false),
  (.iload_n 1, 8, 14, false, aC 0),
  (.aload_n 0, 9, 15, false, aC 0),
  (.iload_n 2, 10, 16, false, aC 0),
  (.aload_n 0, 11, 17, false, aC 0),
  (.getfield 37, 12, 18, false, aF 0 8 9 false),
  (.iload_n 1, 13, 21, false, aC 0),
  (.iaload, 14, 22, false, aC 0),
  (.invokevirtual 101, 15, 23, false, aM 19 2 false true 0),
  (.iastore, 16, 26, false, aC 0),
  (.goto 58, 17, 27, false, aT [51]),
  (.aload_n 0, 18, 30, false, aC 0),
  (.getfield 46, 19, 31, false, aF 0 11 12 false),
  (.iload_n 1, 20, 34, false, aC 0),
  (.iaload, 21, 35, false, aC 0),
  (.iload_n 2, 22, 36, false, aC 0),
  (.if_icmp .ne 48, 23, 37, false, aT [51]),
  (.aload_n 0, 24, 40, false, aC 0),
  (.getfield 46, 25, 41, false, aF 0 11 12 false),
  (.iload_n 1, 26, 44, false, aC 0),
  (.aload_n 0, 27, 45, false, aC 0),
  (.iload_n 2, 28, 46, false, aC 0),
  (.aload_n 0, 29, 47, false, aC 0),
  (.getfield 37, 30, 48, false, aF 0 8 9 false),
  (.iload_n 1, 31, 51, false, aC 0),
  (.iaload, 32, 52, false, aC 0),
  (.iconst 1, 33, 53, false, aC (nI 1)),
  (.if_icmp .ne 7, 34, 54, false, aT [37]),
  (.iconst 0, 35, 57, false, aC (nI 0)),
  (.goto 4, 36, 58, false, aT [38]),
  (.iconst 2, 37, 61, false, aC (nI 2)),
  (.invokevirtual 101, 38, 62, false, aM 19 2 false true 0),
  (.iastore, 39, 65, false, aC 0),
  (.aload_n 0, 40, 66, false, aC 0),
  (.getfield 46, 41, 67, false, aF 0 11 12 false),
  (.iload_n 1, 42, 70, false, aC 0),
  (.iaload, 43, 71, false, aC 0),
  (.bipush 12, 44, 72, false, aC (nI 12)),
  (.if_icmp .ne 11, 45, 74, false, aT [51]),
  (.aload_n 0, 46, 77, false, aC 0),
  (.getfield 43, 47, 78, false, aF 0 10 11 false),
  (.iload_n 1, 48, 81, false, aC 0),
  (.bipush 12, 49, 82, false, aC (nI 12)),
  (.iastore, 50, 84, false, aC 0),
  (.aload_n 0, 51, 85, false, aC 0),
  (.getfield 43, 52, 86, false, aF 0 10 11 false),
  (.iload_n 1, 53, 89, false, aC 0),
  (.iaload, 54, 90, false, aC 0),
  (.bipush 12, 55, 91, false, aC (nI 12)),
  (.if_icmp .ne 14, 56, 93, false, aT [63]),
  (.aload_n 0, 57, 96, false, aC 0),
  (.getfield 46, 58, 97, false, aF 0 11 12 false),
  (.iload_n 1, 59, 100, false, aC 0),
  (.bipush 12, 60, 101, false, aC (nI 12)),
  (.iastore, 61, 103, false, aC 0),
  (.goto 34, 62, 104, false, aT [82]),
  (.aload_n 0, 63, 107, false, aC 0),
  (.getfield 43, 64, 108, false, aF 0 10 11 false),
  (.iload_n 1, 65, 111, false, aC 0),
  (.iaload, 66, 112, false, aC 0),
  (.aload_n 0, 67, 113, false, aC 0),
  (.getfield 46, 68, 114, false, aF 0 11 12 false),
  (.iload_n 1, 69, 117, false, aC 0),
  (.iaload, 70, 118, false, aC 0),
  (.if_icmp .ne 19, 71, 119, false, aT [82]),
  (.aload_n 0, 72, 122, false, aC 0),
  (.getfield 43, 73, 123, false, aF 0 10 11 false),
  (.iload_n 1, 74, 126, false, aC 0),
  (.bipush 13, 75, 127, false, aC (nI 13)),
  (.iastore, 76, 129, false, aC 0),
  (.aload_n 0, 77, 130, false, aC 0),
  (.getfield 46, 78, 131, false, aF 0 11 12 false),
  (.iload_n 1, 79, 134, false, aC 0),
  (.bipush 12, 80, 135, false, aC (nI 12)),
  (.iastore, 81, 137, false, aC 0),
  (.return_, 82, 138, false, aC 0)]
theorem ok_X0_pass : okCode i_X0_pass k_X0_pass = true := by decide +kernel
/-- heads [] -/
def k_X0_bury : List Ins := [(.aload_n 0, 0, 0, false, aC 0),
  (.dup, 1, 1, false, aC 0),
  (.getfield 15, 2, 2, false, aF 0 1 0 false),
  (.iconst 1, 3, 5, false, aC (nI 1)),
  (.iload_n 1, 4, 6, false, aC 0),
  (.ishl, 5, 7, false, aC 0),
  (.iconst (-1), 6, 8, false, aC ((-1))),
  (.ixor, 7, 9, false, aC 0),
  (.iand, 8, 10, false, aC 0),
  (.putfield 15, 9, 11, false, aF 0 1 0 false),
  (.aload_n 0, 10, 14, false, aC 0),
  (.getfield 28, 11, 15, false, aF 0 5 6 false),
  (.iload_n 1, 12, 18, false, aC 0),
  (.iaload, 13, 19, false, aC 0),
  (.istore_n 2, 14, 20, false, aC 0),
  (.aload_n 0, 15, 21, false, aC 0),
  (.iload_n 2, 16, 22, false, aC 0),
  (.invokevirtual 64, 17, 23, false, aM 3 1 false true 0),
  (.ifCond .eq 11, 18, 26, false, aT [24]),
  (.aload_n 0, 19, 29, false, aC 0),
  (.getfield 28, 20, 30, false, aF 0 5 6 false),
  (.iload_n 2, 21, 33, false, aC 0),
  (.bipush 12, 22, 34, false, aC (nI 12)),
  (.iastore, 23, 36, false, aC 0),
  (.return_, 24, 37, false, aC 0)]
theorem ok_X0_bury : okCode i_X0_bury k_X0_bury = true := by decide +kernel
/-- heads [7] -/
def k_X0_death : List Ins := [(.aload_n 0, 0, 0, false, aC 0),
  (.iload_n 1, 1, 1, false, aC 0),
  (.invokevirtual 75, 2, 2, false, aM 4 1 false true 0),
  (.ifCond .ne 4, 3, 5, false, aT [5]),
  (.return_, 4, 8, false, aC 0),
  (.iconst 0, 5, 9, false, aC (nI 0)),
  (.istore_n 2, 6, 10, false, aC 0),
  (.iload_n 2, 7, 11, true, aC 0),
  (.aload_n 0, 8, 12, false, aC 0),
  (.getfield 34, 9, 13, false, aF 0 7 0 false),
  (.if_icmp .ge 15, 10, 16, false, aT [17]),
  (.aload_n 0, 11, 19, false, aC 0),
  (.iload_n 2, 12, 20, false, aC 0),
  (.iload_n 1, 13, 21, false, aC 0),
  (.invokevirtual 104, 14, 22, false, aM 24 2 false false 0),
  (.iinc 2 1, 15, 25, false, aC (nI 1)),
  (.goto (-17), 16, 28, false, aT [7]),
  (.aload_n 0, 17, 31, false, aC 0),
  (.iload_n 1, 18, 32, false, aC 0),
  (.invokevirtual 108, 19, 33, false, aM 25 1 false false 0),
  (.return_, 20, 36, false, aC 0)]
theorem ok_X0_death : okCode i_X0_death k_X0_death = true := by decide +kernel
/-- heads [2] -/
def k_X0_deaths : List Ins := [(.iconst 0, 0, 0, false, aC (nI 0)),
  (.istore_n 3, 1, 1, false, aC 0),
  (.iload_n 3, 2, 2, true, aC 0),
  (.iload_n 2, 3, 3, false, aC 0),
  (.if_icmp .ge 22, 4, 4, false, aT [16]),
  (.iload_n 3, 5, 7, false, aC 0),
  (.aload_n 1, 6, 8, false, aC 0),
  (.arraylength, 7, 9, false, aC 0),
  (.if_icmp .ge 16, 8, 10, false, aT [16]),
  (.aload_n 0, 9, 13, false, aC 0),
  (.aload_n 1, 10, 14, false, aC 0),
  (.iload_n 3, 11, 15, false, aC 0),
  (.iaload, 12, 16, false, aC 0),
  (.invokevirtual 112, 13, 17, false, aM 26 1 false false 0),
  (.iinc 3 1, 14, 20, false, aC (nI 1)),
  (.goto (-21), 15, 23, false, aT [2]),
  (.return_, 16, 26, false, aC 0)]
theorem ok_X0_deaths : okCode i_X0_deaths k_X0_deaths = true := by decide +kernel
/-- heads [9] -/
def k_X0_hasThingsOf : List Ins := [(.aload_n 0, 0, 0, false, aC 0),
  (.getfield 34, 1, 1, false, aF 0 7 0 false),
  (.aload_n 1, 2, 4, false, aC 0),
  (.getfield 34, 3, 5, false, aF 0 7 0 false),
  (.if_icmp .eq 5, 4, 8, false, aT [7]),
  (.iconst 0, 5, 11, false, aC (nI 0)),
  (.ireturn, 6, 12, false, aC 0),
  (.iconst 0, 7, 13, false, aC (nI 0)),
  (.istore_n 2, 8, 14, false, aC 0),
  (.iload_n 2, 9, 15, true, aC 0),
  (.aload_n 0, 10, 16, false, aC 0),
  (.getfield 34, 11, 17, false, aF 0 7 0 false),
  (.if_icmp .ge 73, 12, 20, false, aT [55]),
  (.aload_n 0, 13, 23, false, aC 0),
  (.getfield 37, 14, 24, false, aF 0 8 9 false),
  (.iload_n 2, 15, 27, false, aC 0),
  (.iaload, 16, 28, false, aC 0),
  (.aload_n 1, 17, 29, false, aC 0),
  (.getfield 37, 18, 30, false, aF 0 8 9 false),
  (.iload_n 2, 19, 33, false, aC 0),
  (.iaload, 20, 34, false, aC 0),
  (.if_icmp .ne 18, 21, 35, false, aT [31]),
  (.aload_n 0, 22, 38, false, aC 0),
  (.getfield 40, 23, 39, false, aF 0 9 10 false),
  (.iload_n 2, 24, 42, false, aC 0),
  (.iaload, 25, 43, false, aC 0),
  (.aload_n 1, 26, 44, false, aC 0),
  (.getfield 40, 27, 45, false, aF 0 9 10 false),
  (.iload_n 2, 28, 48, false, aC 0),
  (.iaload, 29, 49, false, aC 0),
  (.if_icmp .eq 5, 30, 50, false, aT [33]),
  (.iconst 0, 31, 53, false, aC (nI 0)),
  (.ireturn, 32, 54, false, aC 0),
  (.aload_n 0, 33, 55, false, aC 0),
  (.getfield 43, 34, 56, false, aF 0 10 11 false),
  (.iload_n 2, 35, 59, false, aC 0),
  (.iaload, 36, 60, false, aC 0),
  (.aload_n 1, 37, 61, false, aC 0),
  (.getfield 43, 38, 62, false, aF 0 10 11 false),
  (.iload_n 2, 39, 65, false, aC 0),
  (.iaload, 40, 66, false, aC 0),
  (.if_icmp .ne 18, 41, 67, false, aT [51]),
  (.aload_n 0, 42, 70, false, aC 0),
  (.getfield 46, 43, 71, false, aF 0 11 12 false),
  (.iload_n 2, 44, 74, false, aC 0),
  (.iaload, 45, 75, false, aC 0),
  (.aload_n 1, 46, 76, false, aC 0),
  (.getfield 46, 47, 77, false, aF 0 11 12 false),
  (.iload_n 2, 48, 80, false, aC 0),
  (.iaload, 49, 81, false, aC 0),
  (.if_icmp .eq 5, 50, 82, false, aT [53]),
  (.iconst 0, 51, 85, false, aC (nI 0)),
  (.ireturn, 52, 86, false, aC 0),
  (.iinc 2 1, 53, 87, false, aC (nI 1)),
  (.goto (-75), 54, 90, false, aT [9]),
  (.iconst 1, 55, 93, false, aC (nI 1)),
  (.ireturn, 56, 94, false, aC 0)]
theorem ok_X0_hasThingsOf : okCode i_X0_hasThingsOf k_X0_hasThingsOf = true := by decide +kernel
/-- heads [] -/
def k_X0_drawn : List Ins := [(.aload_n 0, 0, 0, false, aC 0),
  (.aload_n 0, 1, 1, false, aC 0),
  (.getfield 55, 2, 2, false, aF 0 14 0 false),
  (.ldc 115, 3, 5, false, aC (nI 1103515245)),
  (.imul, 4, 7, false, aC 0),
  (.sipush 12345, 5, 8, false, aC (nI 12345)),
  (.iadd, 6, 11, false, aC 0),
  (.ldc 116, 7, 12, false, aC (nI 2147483647)),
  (.iand, 8, 14, false, aC 0),
  (.putfield 55, 9, 15, false, aF 0 14 0 false),
  (.iload_n 1, 10, 18, false, aC 0),
  (.ifCond .le 15, 11, 19, false, aT [19]),
  (.aload_n 0, 12, 22, false, aC 0),
  (.getfield 55, 13, 23, false, aF 0 14 0 false),
  (.ldc 117, 14, 26, false, aC (nI 65536)),
  (.idiv, 15, 28, false, aC 0),
  (.iload_n 1, 16, 29, false, aC 0),
  (.irem, 17, 30, false, aC 0),
  (.goto 4, 18, 31, false, aT [20]),
  (.iconst 0, 19, 34, false, aC (nI 0)),
  (.ireturn, 20, 35, false, aC 0)]
theorem ok_X0_drawn : okCode i_X0_drawn k_X0_drawn = true := by decide +kernel
/-- heads [4] -/
def k_X0_wives : List Ins := [(.iconst 0, 0, 0, false, aC (nI 0)),
  (.istore_n 1, 1, 1, false, aC 0),
  (.iconst 0, 2, 2, false, aC (nI 0)),
  (.istore_n 2, 3, 3, false, aC 0),
  (.iload_n 2, 4, 4, true, aC 0),
  (.aload_n 0, 5, 5, false, aC 0),
  (.getfield 9, 6, 6, false, aF 0 0 0 false),
  (.if_icmp .ge 47, 7, 9, false, aT [33]),
  (.aload_n 0, 8, 12, false, aC 0),
  (.getfield 18, 9, 13, false, aF 0 2 3 false),
  (.iload_n 2, 10, 16, false, aC 0),
  (.iaload, 11, 17, false, aC 0),
  (.iconst 1, 12, 18, false, aC (nI 1)),
  (.if_icmp .ne 31, 13, 19, false, aT [31]),
  (.aload_n 0, 14, 22, false, aC 0),
  (.getfield 15, 15, 23, false, aF 0 1 0 false),
  (.iload_n 2, 16, 26, false, aC 0),
  (.invokestatic 68, 17, 27, false, aM 103 2 true true 5),
  (.ifCond .eq 20, 18, 30, false, aT [31]),
  (.aload_n 0, 19, 33, false, aC 0),
  (.getfield 28, 20, 34, false, aF 0 5 6 false),
  (.iload_n 2, 21, 37, false, aC 0),
  (.iaload, 22, 38, false, aC 0),
  (.bipush 12, 23, 39, false, aC (nI 12)),
  (.if_icmp .eq 9, 24, 41, false, aT [31]),
  (.iload_n 1, 25, 44, false, aC 0),
  (.iconst 1, 26, 45, false, aC (nI 1)),
  (.iload_n 2, 27, 46, false, aC 0),
  (.ishl, 28, 47, false, aC 0),
  (.ior, 29, 48, false, aC 0),
  (.istore_n 1, 30, 49, false, aC 0),
  (.iinc 2 1, 31, 50, false, aC (nI 1)),
  (.goto (-49), 32, 53, false, aT [4]),
  (.iload_n 1, 33, 56, false, aC 0),
  (.ireturn, 34, 57, false, aC 0)]
theorem ok_X0_wives : okCode i_X0_wives k_X0_wives = true := by decide +kernel
/-- heads [] -/
def k_X0_lot : List Ins := [(.aload_n 0, 0, 0, false, aC 0),
  (.iconst 3, 1, 1, false, aC (nI 3)),
  (.invokevirtual 118, 2, 2, false, aM 29 1 false true 0),
  (.ifCond .ne 37, 3, 5, false, aT [22]),
  (.aload_n 0, 4, 8, false, aC 0),
  (.getfield 15, 5, 9, false, aF 0 1 0 false),
  (.ifCond .ne 5, 6, 12, false, aT [9]),
  (.iconst 0, 7, 15, false, aC (nI 0)),
  (.ireturn, 8, 16, false, aC 0),
  (.aload_n 0, 9, 17, false, aC 0),
  (.aload_n 0, 10, 18, false, aC 0),
  (.aload_n 0, 11, 19, false, aC 0),
  (.getfield 15, 12, 20, false, aF 0 1 0 false),
  (.aload_n 0, 13, 23, false, aC 0),
  (.aload_n 0, 14, 24, false, aC 0),
  (.getfield 15, 15, 25, false, aF 0 1 0 false),
  (.invokestatic 121, 16, 28, false, aM 187 1 true true 7),
  (.invokevirtual 118, 17, 31, false, aM 29 1 false true 0),
  (.invokevirtual 98, 18, 34, false, aM 20 2 false true 0),
  (.invokevirtual 112, 19, 37, false, aM 26 1 false false 0),
  (.iconst 1, 20, 40, false, aC (nI 1)),
  (.ireturn, 21, 41, false, aC 0),
  (.aload_n 0, 22, 42, false, aC 0),
  (.invokevirtual 126, 23, 43, false, aM 30 0 false true 0),
  (.istore_n 1, 24, 46, false, aC 0),
  (.aload_n 0, 25, 47, false, aC 0),
  (.getfield 9, 26, 48, false, aF 0 0 0 false),
  (.bipush 12, 27, 51, false, aC (nI 12)),
  (.if_icmp .ge 7, 28, 53, false, aT [31]),
  (.iload_n 1, 29, 56, false, aC 0),
  (.ifCond .ne 5, 30, 57, false, aT [33]),
  (.iconst 0, 31, 60, false, aC (nI 0)),
  (.ireturn, 32, 61, false, aC 0),
  (.aload_n 0, 33, 62, false, aC 0),
  (.iload_n 1, 34, 63, false, aC 0),
  (.aload_n 0, 35, 64, false, aC 0),
  (.iload_n 1, 36, 65, false, aC 0),
  (.invokestatic 121, 37, 66, false, aM 187 1 true true 7),
  (.invokevirtual 118, 38, 69, false, aM 29 1 false true 0),
  (.invokevirtual 98, 39, 72, false, aM 20 2 false true 0),
  (.istore_n 2, 40, 75, false, aC 0),
  (.aload_n 0, 41, 76, false, aC 0),
  (.iload_n 2, 42, 77, false, aC 0),
  (.invokevirtual 64, 43, 78, false, aM 3 1 false true 0),
  (.ifCond .ne 5, 44, 81, false, aT [47]),
  (.iconst 0, 45, 84, false, aC (nI 0)),
  (.ireturn, 46, 85, false, aC 0),
  (.aload_n 0, 47, 86, false, aC 0),
  (.aload_n 0, 48, 87, false, aC 0),
  (.iconst 2, 49, 88, false, aC (nI 2)),
  (.invokevirtual 118, 50, 89, false, aM 29 1 false true 0),
  (.aload_n 0, 51, 92, false, aC 0),
  (.getfield 28, 52, 93, false, aF 0 5 6 false),
  (.iload_n 2, 53, 96, false, aC 0),
  (.iaload, 54, 97, false, aC 0),
  (.iload_n 2, 55, 98, false, aC 0),
  (.invokevirtual 130, 56, 99, false, aM 8 3 false true 0),
  (.pop, 57, 102, false, aC 0),
  (.bipush 100, 58, 103, false, aC (nI 100)),
  (.ireturn, 59, 105, false, aC 0)]
theorem ok_X0_lot : okCode i_X0_lot k_X0_lot = true := by decide +kernel
/-- heads [] -/
def k_X1_takes : List Ins := [(.iload_n 0, 0, 0, false, aC 0),
  (.ifCond .lt 22, 1, 1, false, aT [11]),
  (.iload_n 0, 2, 4, false, aC 0),
  (.sipush 4095, 3, 5, false, aC (nI 4095)),
  (.if_icmp .gt 15, 4, 8, false, aT [11]),
  (.iload_n 0, 5, 11, false, aC 0),
  (.invokestatic 28, 6, 12, false, aM 187 1 true true 7),
  (.iconst 5, 7, 15, false, aC (nI 5)),
  (.if_icmp .gt 7, 8, 16, false, aT [11]),
  (.iconst 1, 9, 19, false, aC (nI 1)),
  (.goto 4, 10, 20, false, aT [12]),
  (.iconst 0, 11, 23, false, aC (nI 0)),
  (.ireturn, 12, 24, false, aC 0)]
theorem ok_X1_takes : okCode i_X1_takes k_X1_takes = true := by decide +kernel
/-- heads [8] -/
def k_X1_gather : List Ins := [(.aload_n 0, 0, 0, false, aC 0),
  (.iconst 0, 1, 1, false, aC (nI 0)),
  (.putfield 21, 2, 2, false, aF 1 3 0 false),
  (.aload_n 0, 3, 5, false, aC 0),
  (.iconst 1, 4, 6, false, aC (nI 1)),
  (.putfield 25, 5, 7, false, aF 1 4 0 false),
  (.iconst 0, 6, 10, false, aC (nI 0)),
  (.istore_n 2, 7, 11, false, aC 0),
  (.iload_n 2, 8, 12, true, aC 0),
  (.bipush 12, 9, 13, false, aC (nI 12)),
  (.if_icmp .ge 58, 10, 15, false, aT [40]),
  (.iload_n 1, 11, 18, false, aC 0),
  (.iload_n 2, 12, 19, false, aC 0),
  (.invokestatic 34, 13, 20, false, aM 103 2 true true 5),
  (.ifCond .eq 44, 14, 23, false, aT [38]),
  (.aload_n 0, 15, 26, false, aC 0),
  (.getfield 21, 16, 27, false, aF 1 3 0 false),
  (.iconst 5, 17, 30, false, aC (nI 5)),
  (.if_icmp .ge 36, 18, 31, false, aT [38]),
  (.aload_n 0, 19, 34, false, aC 0),
  (.getfield 9, 20, 35, false, aF 1 0 1 false),
  (.aload_n 0, 21, 38, false, aC 0),
  (.getfield 21, 22, 39, false, aF 1 3 0 false),
  (.iload_n 2, 23, 42, false, aC 0),
  (.iastore, 24, 43, false, aC 0),
  (.aload_n 0, 25, 44, false, aC 0),
  (.dup, 26, 45, false, aC 0),
  (.getfield 21, 27, 46, false, aF 1 3 0 false),
  (.iconst 1, 28, 49, false, aC (nI 1)),
  (.iadd, 29, 50, false, aC 0),
  (.putfield 21, 30, 51, false, aF 1 3 0 false),
  (.aload_n 0, 31, 54, false, aC 0),
  (.dup, 32, 55, false, aC 0),
  (.getfield 25, 33, 56, false, aF 1 4 0 false),
  (.aload_n 0, 34, 59, false, aC 0),
  (.getfield 21, 35, 60, false, aF 1 3 0 false),
  (.imul, 36, 63, false, aC 0),
  (.putfield 25, 37, 64, false, aF 1 4 0 false),
  (.iinc 2 1, 38, 67, false, aC (nI 1)),
  (.goto (-58), 39, 70, false, aT [8]),
  (.return_, 40, 73, false, aC 0)]
theorem ok_X1_gather : okCode i_X1_gather k_X1_gather = true := by decide +kernel
/-- heads [12, 41] -/
def k_X1_lay : List Ins := [(.aload_n 0, 0, 0, false, aC 0),
  (.getfield 9, 1, 1, false, aF 1 0 1 false),
  (.iconst 0, 2, 4, false, aC (nI 0)),
  (.aload_n 0, 3, 5, false, aC 0),
  (.getfield 15, 4, 6, false, aF 1 1 2 false),
  (.iconst 0, 5, 9, false, aC (nI 0)),
  (.iconst 5, 6, 10, false, aC (nI 5)),
  (.invokestatic 38, 7, 11, false, aM 900 5 true false 0),
  (.iload_n 1, 8, 14, false, aC 0),
  (.istore_n 2, 9, 15, false, aC 0),
  (.iconst 0, 10, 16, false, aC (nI 0)),
  (.istore_n 3, 11, 17, false, aC 0),
  (.iload_n 3, 12, 18, true, aC 0),
  (.aload_n 0, 13, 19, false, aC 0),
  (.getfield 21, 14, 20, false, aF 1 3 0 false),
  (.if_icmp .ge 76, 15, 23, false, aT [58]),
  (.aload_n 0, 16, 26, false, aC 0),
  (.getfield 21, 17, 27, false, aF 1 3 0 false),
  (.iload_n 3, 18, 30, false, aC 0),
  (.isub, 19, 31, false, aC 0),
  (.istore 4, 20, 32, false, aC 0),
  (.iload_n 2, 21, 34, false, aC 0),
  (.iload 4, 22, 35, false, aC 0),
  (.irem, 23, 37, false, aC 0),
  (.istore 5, 24, 38, false, aC 0),
  (.iload_n 2, 25, 40, false, aC 0),
  (.iload 4, 26, 41, false, aC 0),
  (.idiv, 27, 43, false, aC 0),
  (.istore_n 2, 28, 44, false, aC 0),
  (.aload_n 0, 29, 45, false, aC 0),
  (.getfield 18, 30, 46, false, aF 1 2 3 false),
  (.iload_n 3, 31, 49, false, aC 0),
  (.aload_n 0, 32, 50, false, aC 0),
  (.getfield 15, 33, 51, false, aF 1 1 2 false),
  (.iload 5, 34, 54, false, aC 0),
  (.iaload, 35, 56, false, aC 0),
  (.iastore, 36, 57, false, aC 0),
  (.iload 5, 37, 58, false, aC 0),
  (.iconst 1, 38, 60, false, aC (nI 1)),
  (.iadd, 39, 61, false, aC 0),
  (.istore 6, 40, 62, false, aC 0),
  (.iload 6, 41, 64, true, aC 0),
  (.iload 4, 42, 66, false, aC 0),
  (.if_icmp .ge 25, 43, 68, false, aT [56]),
  (.aload_n 0, 44, 71, false, aC 0),
  (.getfield 15, 45, 72, false, aF 1 1 2 false),
  (.iload 6, 46, 75, false, aC 0),
  (.iconst 1, 47, 77, false, aC (nI 1)),
  (.isub, 48, 78, false, aC 0),
  (.aload_n 0, 49, 79, false, aC 0),
  (.getfield 15, 50, 80, false, aF 1 1 2 false),
  (.iload 6, 51, 83, false, aC 0),
  (.iaload, 52, 85, false, aC 0),
  (.iastore, 53, 86, false, aC 0),
  (.iinc 6 1, 54, 87, false, aC (nI 1)),
  (.goto (-26), 55, 90, false, aT [41]),
  (.iinc 3 1, 56, 93, false, aC (nI 1)),
  (.goto (-78), 57, 96, false, aT [12]),
  (.return_, 58, 99, false, aC 0)]
theorem ok_X1_lay : okCode i_X1_lay k_X1_lay = true := by decide +kernel
/-- heads [] -/
def k_X2_isSheet : List Ins := [(.iload_n 0, 0, 0, false, aC 0),
  (.ifCond .lt 12, 1, 1, false, aT [7]),
  (.iload_n 0, 2, 4, false, aC 0),
  (.iconst 4, 3, 5, false, aC (nI 4)),
  (.if_icmp .ge 7, 4, 6, false, aT [7]),
  (.iconst 1, 5, 9, false, aC (nI 1)),
  (.goto 4, 6, 10, false, aT [8]),
  (.iconst 0, 7, 13, false, aC (nI 0)),
  (.ireturn, 8, 14, false, aC 0)]
theorem ok_X2_isSheet : okCode i_X2_isSheet k_X2_isSheet = true := by decide +kernel
/-- heads [] -/
def k_X2_isLane : List Ins := [(.iload_n 0, 0, 0, false, aC 0),
  (.ifCond .lt 12, 1, 1, false, aT [7]),
  (.iload_n 0, 2, 4, false, aC 0),
  (.iconst 2, 3, 5, false, aC (nI 2)),
  (.if_icmp .gt 7, 4, 6, false, aT [7]),
  (.iconst 1, 5, 9, false, aC (nI 1)),
  (.goto 4, 6, 10, false, aT [8]),
  (.iconst 0, 7, 13, false, aC (nI 0)),
  (.ireturn, 8, 14, false, aC 0)]
theorem ok_X2_isLane : okCode i_X2_isLane k_X2_isLane = true := by decide +kernel
/-- heads [] -/
def k_X2_holds : List Ins := [(.aload_n 0, 0, 0, false, aC 0),
  (.getfield 11, 1, 1, false, aF 2 0 1 false),
  (.iload_n 1, 2, 4, false, aC 0),
  (.iaload, 3, 5, false, aC 0),
  (.iconst (-1), 4, 6, false, aC ((-1))),
  (.if_icmp .eq 7, 5, 7, false, aT [8]),
  (.iconst 1, 6, 10, false, aC (nI 1)),
  (.goto 4, 7, 11, false, aT [9]),
  (.iconst 0, 8, 14, false, aC (nI 0)),
  (.ireturn, 9, 15, false, aC 0)]
theorem ok_X2_holds : okCode i_X2_holds k_X2_holds = true := by decide +kernel
/-- heads [] -/
def k_X2_spans : List Ins := [(.iload_n 3, 0, 0, false, aC 0),
  (.ifCond .lt 23, 1, 1, false, aT [14]),
  (.iload_n 2, 2, 4, false, aC 0),
  (.ifCond .lt 19, 3, 5, false, aT [14]),
  (.iload_n 2, 4, 8, false, aC 0),
  (.aload_n 0, 5, 9, false, aC 0),
  (.getfield 15, 6, 10, false, aF 2 1 2 false),
  (.iload_n 1, 7, 13, false, aC 0),
  (.iaload, 8, 14, false, aC 0),
  (.iload_n 3, 9, 15, false, aC 0),
  (.isub, 10, 16, false, aC 0),
  (.if_icmp .gt 7, 11, 17, false, aT [14]),
  (.iconst 1, 12, 20, false, aC (nI 1)),
  (.goto 4, 13, 21, false, aT [15]),
  (.iconst 0, 14, 24, false, aC (nI 0)),
  (.ireturn, 15, 25, false, aC 0)]
theorem ok_X2_spans : okCode i_X2_spans k_X2_spans = true := by decide +kernel
/-- heads [] -/
def k_X2_look : List Ins := [(.iload_n 1, 0, 0, false, aC 0),
  (.invokestatic 21, 1, 1, false, aM 37 1 true true 2),
  (.ifCond .eq 10, 2, 4, false, aT [6]),
  (.iload_n 2, 3, 7, false, aC 0),
  (.invokestatic 25, 4, 8, false, aM 38 1 true true 2),
  (.ifCond .ne 5, 5, 11, false, aT [8]),
  (.iconst (-1), 6, 14, false, aC ((-1))),
  (.ireturn, 7, 15, false, aC 0),
  (.aload_n 0, 8, 16, false, aC 0),
  (.iload_n 1, 9, 17, false, aC 0),
  (.invokevirtual 28, 10, 18, false, aM 39 1 false true 2),
  (.ifCond .ne 6, 11, 21, false, aT [14]),
  (.bipush (-11), 12, 24, false, aC ((-11))),
  (.ireturn, 13, 26, false, aC 0),
  (.aload_n 0, 14, 27, false, aC 0),
  (.getfield 11, 15, 28, false, aF 2 0 1 false),
  (.iload_n 1, 16, 31, false, aC 0),
  (.iaload, 17, 32, false, aC 0),
  (.iload_n 2, 18, 33, false, aC 0),
  (.if_icmp .eq 6, 19, 34, false, aT [22]),
  (.bipush (-12), 20, 37, false, aC ((-12))),
  (.ireturn, 21, 39, false, aC 0),
  (.aload_n 0, 22, 40, false, aC 0),
  (.iload_n 1, 23, 41, false, aC 0),
  (.iload_n 3, 24, 42, false, aC 0),
  (.iload 4, 25, 43, false, aC 0),
  (.invokevirtual 31, 26, 45, false, aM 40 3 false true 2),
  (.ifCond .eq 7, 27, 48, false, aT [30]),
  (.iconst 0, 28, 51, false, aC (nI 0)),
  (.goto 5, 29, 52, false, aT [31]),
  (.bipush (-13), 30, 55, false, aC ((-13))),
  (.ireturn, 31, 57, false, aC 0)]
theorem ok_X2_look : okCode i_X2_look k_X2_look = true := by decide +kernel
/-- heads [12] -/
def k_X2_renew : List Ins := [(.aload_n 0, 0, 0, false, aC 0),
  (.getfield 11, 1, 1, false, aF 2 0 1 false),
  (.iload_n 1, 2, 4, false, aC 0),
  (.iload_n 2, 3, 5, false, aC 0),
  (.iastore, 4, 6, false, aC 0),
  (.aload_n 0, 5, 7, false, aC 0),
  (.getfield 15, 6, 8, false, aF 2 1 2 false),
  (.iload_n 1, 7, 11, false, aC 0),
  (.iload_n 3, 8, 12, false, aC 0),
  (.iastore, 9, 13, false, aC 0),
  (.iconst 0, 10, 14, false, aC (nI 0)),
  (.istore 4, 11, 15, false, aC 0),
  (.iload 4, 12, 17, true, aC 0),
  (.bipush 24, 13, 19, false, aC (nI 24)),
  (.if_icmp .ge 22, 14, 21, false, aT [26]),
  (.aload_n 0, 15, 24, false, aC 0),
  (.getfield 18, 16, 25, false, aF 2 2 3 false),
  (.iload_n 1, 17, 28, false, aC 0),
  (.bipush 24, 18, 29, false, aC (nI 24)),
  (.imul, 19, 31, false, aC 0),
  (.iload 4, 20, 32, false, aC 0),
  (.iadd, 21, 34, false, aC 0),
  (.iconst 0, 22, 35, false, aC (nI 0)),
  (.iastore, 23, 36, false, aC 0),
  (.iinc 4 1, 24, 37, false, aC (nI 1)),
  (.goto (-23), 25, 40, false, aT [12]),
  (.return_, 26, 43, false, aC 0)]
theorem ok_X2_renew : okCode i_X2_renew k_X2_renew = true := by decide +kernel
/-- heads [] -/
def k_X2_get : List Ins := [(.aload_n 0, 0, 0, false, aC 0),
  (.getfield 18, 1, 1, false, aF 2 2 3 false),
  (.iload_n 1, 2, 4, false, aC 0),
  (.bipush 24, 3, 5, false, aC (nI 24)),
  (.imul, 4, 7, false, aC 0),
  (.iload_n 2, 5, 8, false, aC 0),
  (.iadd, 6, 9, false, aC 0),
  (.iaload, 7, 10, false, aC 0),
  (.ireturn, 8, 11, false, aC 0)]
theorem ok_X2_get : okCode i_X2_get k_X2_get = true := by decide +kernel
/-- heads [] -/
def k_X2_put : List Ins := [(.iload_n 3, 0, 0, false, aC 0),
  (.istore 4, 1, 1, false, aC 0),
  (.aload_n 0, 2, 3, false, aC 0),
  (.getfield 11, 3, 4, false, aF 2 0 1 false),
  (.iload_n 1, 4, 7, false, aC 0),
  (.iaload, 5, 8, false, aC 0),
  (.ifCond .ne 10, 6, 9, false, aT [11]),
  (.iload_n 3, 7, 12, false, aC 0),
  (.i2b, 8, 13, false, aC 0),
  (.istore 4, 9, 14, false, aC 0),
  (.goto 17, 10, 16, false, aT [20]),
  (.aload_n 0, 11, 19, false, aC 0),
  (.getfield 11, 12, 20, false, aF 2 0 1 false),
  (.iload_n 1, 13, 23, false, aC 0),
  (.iaload, 14, 24, false, aC 0),
  (.iconst 1, 15, 25, false, aC (nI 1)),
  (.if_icmp .ne 7, 16, 26, false, aT [20]),
  (.iload_n 3, 17, 29, false, aC 0),
  (.i2s, 18, 30, false, aC 0),
  (.istore 4, 19, 31, false, aC 0),
  (.aload_n 0, 20, 33, false, aC 0),
  (.getfield 18, 21, 34, false, aF 2 2 3 false),
  (.iload_n 1, 22, 37, false, aC 0),
  (.bipush 24, 23, 38, false, aC (nI 24)),
  (.imul, 24, 40, false, aC 0),
  (.iload_n 2, 25, 41, false, aC 0),
  (.iadd, 26, 42, false, aC 0),
  (.iload 4, 27, 43, false, aC 0),
  (.iastore, 28, 45, false, aC 0),
  (.return_, 29, 46, false, aC 0)]
theorem ok_X2_put : okCode i_X2_put k_X2_put = true := by decide +kernel
/-- heads [] -/
def k_X2_move : List Ins := [(.aload_n 0, 0, 0, false, aC 0),
  (.getfield 18, 1, 1, false, aF 2 2 3 false),
  (.iload_n 1, 2, 4, false, aC 0),
  (.bipush 24, 3, 5, false, aC (nI 24)),
  (.imul, 4, 7, false, aC 0),
  (.iload_n 2, 5, 8, false, aC 0),
  (.iadd, 6, 9, false, aC 0),
  (.aload_n 0, 7, 10, false, aC 0),
  (.getfield 18, 8, 11, false, aF 2 2 3 false),
  (.iload_n 3, 9, 14, false, aC 0),
  (.bipush 24, 10, 15, false, aC (nI 24)),
  (.imul, 11, 17, false, aC 0),
  (.iload 4, 12, 18, false, aC 0),
  (.iadd, 13, 20, false, aC 0),
  (.iload 5, 14, 21, false, aC 0),
  (.invokestatic 35, 15, 23, false, aM 900 5 true false 0),
  (.return_, 16, 26, false, aC 0)]
theorem ok_X2_move : okCode i_X2_move k_X2_move = true := by decide +kernel
/-- heads [5] -/
def k_X3_tell : List Ins := [(.aload_n 0, 0, 0, false, aC 0),
  (.iconst 0, 1, 1, false, aC (nI 0)),
  (.putfield 22, 2, 2, false, aF 3 2 0 false),
  (.iconst 0, 3, 5, false, aC (nI 0)),
  (.istore 5, 4, 6, false, aC 0),
  (.iload 5, 5, 8, true, aC 0),
  (.iload 4, 6, 10, false, aC 0),
  (.if_icmp .ge 42, 7, 12, false, aT [29]),
  (.iload 5, 8, 15, false, aC 0),
  (.bipush 8, 9, 17, false, aC (nI 8)),
  (.if_icmp .ge 35, 10, 19, false, aT [29]),
  (.aload_n 0, 11, 22, false, aC 0),
  (.getfield 18, 12, 23, false, aF 3 1 2 false),
  (.iload 5, 13, 26, false, aC 0),
  (.aload_n 1, 14, 28, false, aC 0),
  (.iload_n 2, 15, 29, false, aC 0),
  (.iload_n 3, 16, 30, false, aC 0),
  (.iload 5, 17, 31, false, aC 0),
  (.iadd, 18, 33, false, aC 0),
  (.invokevirtual 29, 19, 34, false, aM 43 2 false true 2),
  (.iastore, 20, 37, false, aC 0),
  (.aload_n 0, 21, 38, false, aC 0),
  (.dup, 22, 39, false, aC 0),
  (.getfield 22, 23, 40, false, aF 3 2 0 false),
  (.iconst 1, 24, 43, false, aC (nI 1)),
  (.iadd, 25, 44, false, aC 0),
  (.putfield 22, 26, 45, false, aF 3 2 0 false),
  (.iinc 5 1, 27, 48, false, aC (nI 1)),
  (.goto (-43), 28, 51, false, aT [5]),
  (.return_, 29, 54, false, aC 0)]
theorem ok_X3_tell : okCode i_X3_tell k_X3_tell = true := by decide +kernel
/-- heads [4] -/
def k_X3_firstWhoCannotDie : List Ins := [(.iload_n 1, 0, 0, false, aC 0),
  (.istore_n 2, 1, 1, false, aC 0),
  (.iconst 0, 2, 2, false, aC (nI 0)),
  (.istore_n 3, 3, 3, false, aC 0),
  (.iload_n 3, 4, 4, true, aC 0),
  (.aload_n 0, 5, 5, false, aC 0),
  (.getfield 22, 6, 6, false, aF 3 2 0 false),
  (.if_icmp .ge 57, 7, 9, false, aT [41]),
  (.aload_n 0, 8, 12, false, aC 0),
  (.getfield 18, 9, 13, false, aF 3 1 2 false),
  (.iload_n 3, 10, 16, false, aC 0),
  (.iaload, 11, 17, false, aC 0),
  (.ifCond .lt 27, 12, 18, false, aT [26]),
  (.aload_n 0, 13, 21, false, aC 0),
  (.getfield 18, 14, 22, false, aF 3 1 2 false),
  (.iload_n 3, 15, 25, false, aC 0),
  (.iaload, 16, 26, false, aC 0),
  (.bipush 12, 17, 27, false, aC (nI 12)),
  (.if_icmp .ge 16, 18, 29, false, aT [26]),
  (.iload_n 2, 19, 32, false, aC 0),
  (.aload_n 0, 20, 33, false, aC 0),
  (.getfield 18, 21, 34, false, aF 3 1 2 false),
  (.iload_n 3, 22, 37, false, aC 0),
  (.iaload, 23, 38, false, aC 0),
  (.invokestatic 35, 24, 39, false, aM 103 2 true true 5),
  (.ifCond .ne 5, 25, 42, false, aT [28]),
  (.iload_n 3, 26, 45, false, aC 0),
  (.ireturn, 27, 46, false, aC 0),
  (.iload_n 2, 28, 47, false, aC 0),
  (.iconst 1, 29, 48, false, aC (nI 1)),
  (.aload_n 0, 30, 49, false, aC 0),
  (.getfield 18, 31, 50, false, aF 3 1 2 false),
  (.iload_n 3, 32, 53, false, aC 0),
  (.iaload, 33, 54, false, aC 0),
  (.ishl, 34, 55, false, aC 0),
  (.iconst (-1), 35, 56, false, aC ((-1))),
  (.ixor, 36, 57, false, aC 0),
  (.iand, 37, 58, false, aC 0),
  (.istore_n 2, 38, 59, false, aC 0),
  (.iinc 3 1, 39, 60, false, aC (nI 1)),
  (.goto (-59), 40, 63, false, aT [4]),
  (.aload_n 0, 41, 66, false, aC 0),
  (.getfield 22, 42, 67, false, aF 3 2 0 false),
  (.ireturn, 43, 70, false, aC 0)]
theorem ok_X3_firstWhoCannotDie : okCode i_X3_firstWhoCannotDie k_X3_firstWhoCannotDie = true := by decide +kernel
/-- heads [12, 34, 45] -/
def k_X3_fewest : List Ins := [(.aload_n 0, 0, 0, false, aC 0),
  (.aload_n 1, 1, 1, false, aC 0),
  (.iconst (-1), 2, 2, false, aC ((-1))),
  (.iconst (-1), 3, 3, false, aC ((-1))),
  (.iload_n 2, 4, 4, false, aC 0),
  (.iload_n 3, 5, 5, false, aC 0),
  (.invokevirtual 39, 6, 6, false, aM 51 5 false true 3),
  (.ifCond .eq 5, 7, 9, false, aT [10]),
  (.iconst 0, 8, 12, false, aC (nI 0)),
  (.ireturn, 9, 13, false, aC 0),
  (.iconst 0, 10, 14, false, aC (nI 0)),
  (.istore 4, 11, 15, false, aC 0),
  (.iload 4, 12, 17, true, aC 0),
  (.sipush 144, 13, 19, false, aC (nI 144)),
  (.if_icmp .ge 34, 14, 22, false, aT [32]),
  (.aload_n 0, 15, 25, false, aC 0),
  (.aload_n 1, 16, 26, false, aC 0),
  (.iload 4, 17, 27, false, aC 0),
  (.invokevirtual 43, 18, 29, false, aM 50 2 false true 3),
  (.ifCond .eq 18, 19, 32, false, aT [30]),
  (.aload_n 0, 20, 35, false, aC 0),
  (.aload_n 1, 21, 36, false, aC 0),
  (.iload 4, 22, 37, false, aC 0),
  (.iconst (-1), 23, 39, false, aC ((-1))),
  (.iload_n 2, 24, 40, false, aC 0),
  (.iload_n 3, 25, 41, false, aC 0),
  (.invokevirtual 39, 26, 42, false, aM 51 5 false true 3),
  (.ifCond .eq 5, 27, 45, false, aT [30]),
  (.iconst 1, 28, 48, false, aC (nI 1)),
  (.ireturn, 29, 49, false, aC 0),
  (.iinc 4 1, 30, 50, false, aC (nI 1)),
  (.goto (-36), 31, 53, false, aT [12]),
  (.iconst 0, 32, 56, false, aC (nI 0)),
  (.istore 4, 33, 57, false, aC 0),
  (.iload 4, 34, 59, true, aC 0),
  (.sipush 144, 35, 61, false, aC (nI 144)),
  (.if_icmp .ge 65, 36, 64, false, aT [67]),
  (.aload_n 0, 37, 67, false, aC 0),
  (.aload_n 1, 38, 68, false, aC 0),
  (.iload 4, 39, 69, false, aC 0),
  (.invokevirtual 43, 40, 71, false, aM 50 2 false true 3),
  (.ifCond .ne 6, 41, 74, false, aT [43]),
  (.goto 46, 42, 77, false, aT [65]),
  (.iconst 0, 43, 80, false, aC (nI 0)),
  (.istore 5, 44, 81, false, aC 0),
  (.iload 5, 45, 83, true, aC 0),
  (.sipush 144, 46, 85, false, aC (nI 144)),
  (.if_icmp .ge 35, 47, 88, false, aT [65]),
  (.aload_n 0, 48, 91, false, aC 0),
  (.aload_n 1, 49, 92, false, aC 0),
  (.iload 5, 50, 93, false, aC 0),
  (.invokevirtual 43, 51, 95, false, aM 50 2 false true 3),
  (.ifCond .eq 19, 52, 98, false, aT [63]),
  (.aload_n 0, 53, 101, false, aC 0),
  (.aload_n 1, 54, 102, false, aC 0),
  (.iload 4, 55, 103, false, aC 0),
  (.iload 5, 56, 105, false, aC 0),
  (.iload_n 2, 57, 107, false, aC 0),
  (.iload_n 3, 58, 108, false, aC 0),
  (.invokevirtual 39, 59, 109, false, aM 51 5 false true 3),
  (.ifCond .eq 5, 60, 112, false, aT [63]),
  (.iconst 2, 61, 115, false, aC (nI 2)),
  (.ireturn, 62, 116, false, aC 0),
  (.iinc 5 1, 63, 117, false, aC (nI 1)),
  (.goto (-37), 64, 120, false, aT [45]),
  (.iinc 4 1, 65, 123, false, aC (nI 1)),
  (.goto (-67), 66, 126, false, aT [34]),
  (.bipush (-2), 67, 129, false, aC ((-2))),
  (.ireturn, 68, 131, false, aC 0)]
theorem ok_X3_fewest : okCode i_X3_fewest k_X3_fewest = true := by decide +kernel
/-- heads [] -/
def k_X3_isPair : List Ins := [(.aload_n 1, 0, 0, false, aC 0),
  (.iload_n 2, 1, 1, false, aC 0),
  (.bipush 12, 2, 2, false, aC (nI 12)),
  (.idiv, 3, 4, false, aC 0),
  (.iload_n 2, 4, 5, false, aC 0),
  (.bipush 12, 5, 6, false, aC (nI 12)),
  (.irem, 6, 8, false, aC 0),
  (.invokevirtual 47, 7, 9, false, aM 11 2 false true 0),
  (.ireturn, 8, 12, false, aC 0)]
theorem ok_X3_isPair : okCode i_X3_isPair k_X3_isPair = true := by decide +kernel
/-- heads [18] -/
def k_X3_brings : List Ins := [(.aload_n 0, 0, 0, false, aC 0),
  (.getfield 12, 1, 1, false, aF 3 0 100 false),
  (.aload_n 1, 2, 4, false, aC 0),
  (.invokevirtual 50, 3, 5, false, aM 1 1 false false 0),
  (.aload_n 0, 4, 8, false, aC 0),
  (.iload_n 2, 5, 9, false, aC 0),
  (.iconst 0, 6, 10, false, aC (nI 0)),
  (.invokevirtual 54, 7, 11, false, aM 52 2 false true 3),
  (.ifCond .eq 12, 8, 14, false, aT [14]),
  (.aload_n 0, 9, 17, false, aC 0),
  (.iload_n 3, 10, 18, false, aC 0),
  (.iconst 2, 11, 19, false, aC (nI 2)),
  (.invokevirtual 54, 12, 20, false, aM 52 2 false true 3),
  (.ifCond .ne 5, 13, 23, false, aT [16]),
  (.iconst 0, 14, 26, false, aC (nI 0)),
  (.ireturn, 15, 27, false, aC 0),
  (.iconst 0, 16, 28, false, aC (nI 0)),
  (.istore 6, 17, 29, false, aC 0),
  (.iload 6, 18, 31, true, aC 0),
  (.aload_n 0, 19, 33, false, aC 0),
  (.getfield 22, 20, 34, false, aF 3 2 0 false),
  (.if_icmp .ge 39, 21, 37, false, aT [39]),
  (.aload_n 0, 22, 40, false, aC 0),
  (.getfield 12, 23, 41, false, aF 3 0 100 false),
  (.iload 4, 24, 44, false, aC 0),
  (.aload_n 0, 25, 46, false, aC 0),
  (.getfield 18, 26, 47, false, aF 3 1 2 false),
  (.iload 6, 27, 50, false, aC 0),
  (.iaload, 28, 52, false, aC 0),
  (.invokevirtual 57, 29, 53, false, aM 24 2 false false 0),
  (.aload_n 0, 30, 56, false, aC 0),
  (.getfield 12, 31, 57, false, aF 3 0 100 false),
  (.aload_n 0, 32, 60, false, aC 0),
  (.getfield 18, 33, 61, false, aF 3 1 2 false),
  (.iload 6, 34, 64, false, aC 0),
  (.iaload, 35, 66, false, aC 0),
  (.invokevirtual 61, 36, 67, false, aM 25 1 false false 0),
  (.iinc 6 1, 37, 70, false, aC (nI 1)),
  (.goto (-42), 38, 73, false, aT [18]),
  (.aload_n 0, 39, 76, false, aC 0),
  (.getfield 12, 40, 77, false, aF 3 0 100 false),
  (.iload 4, 41, 80, false, aC 0),
  (.iload 5, 42, 82, false, aC 0),
  (.invokevirtual 65, 43, 84, false, aM 14 2 false true 0),
  (.ireturn, 44, 87, false, aC 0)]
theorem ok_X3_brings : okCode i_X3_brings k_X3_brings = true := by decide +kernel
/-- heads [] -/
def k_X3_weds : List Ins := [(.iload_n 1, 0, 0, false, aC 0),
  (.iconst (-1), 1, 1, false, aC ((-1))),
  (.if_icmp .ne 5, 2, 2, false, aT [5]),
  (.iconst 1, 3, 5, false, aC (nI 1)),
  (.ireturn, 4, 6, false, aC 0),
  (.aload_n 0, 5, 7, false, aC 0),
  (.getfield 26, 6, 8, false, aF 3 3 4 false),
  (.iload_n 2, 7, 11, false, aC 0),
  (.iload_n 1, 8, 12, false, aC 0),
  (.bipush 12, 9, 13, false, aC (nI 12)),
  (.idiv, 10, 15, false, aC 0),
  (.iastore, 11, 16, false, aC 0),
  (.aload_n 0, 12, 17, false, aC 0),
  (.getfield 26, 13, 18, false, aF 3 3 4 false),
  (.iload_n 2, 14, 21, false, aC 0),
  (.iconst 1, 15, 22, false, aC (nI 1)),
  (.iadd, 16, 23, false, aC 0),
  (.iload_n 1, 17, 24, false, aC 0),
  (.bipush 12, 18, 25, false, aC (nI 12)),
  (.irem, 19, 27, false, aC 0),
  (.iastore, 20, 28, false, aC 0),
  (.aload_n 0, 21, 29, false, aC 0),
  (.getfield 12, 22, 30, false, aF 3 0 100 false),
  (.aload_n 0, 23, 33, false, aC 0),
  (.getfield 26, 24, 34, false, aF 3 3 4 false),
  (.iload_n 2, 25, 37, false, aC 0),
  (.iaload, 26, 38, false, aC 0),
  (.aload_n 0, 27, 39, false, aC 0),
  (.getfield 26, 28, 40, false, aF 3 3 4 false),
  (.iload_n 2, 29, 43, false, aC 0),
  (.iconst 1, 30, 44, false, aC (nI 1)),
  (.iadd, 31, 45, false, aC 0),
  (.iaload, 32, 46, false, aC 0),
  (.invokevirtual 68, 33, 47, false, aM 12 2 false true 0),
  (.ireturn, 34, 50, false, aC 0)]
theorem ok_X3_weds : okCode i_X3_weds k_X3_weds = true := by decide +kernel
/-- heads [10, 41] -/
def k_X4_put : List Ins := [(.iload_n 3, 0, 0, false, aC 0),
  (.iconst 1, 1, 1, false, aC (nI 1)),
  (.if_icmp .lt 9, 2, 2, false, aT [6]),
  (.iload_n 3, 3, 5, false, aC 0),
  (.bipush 8, 4, 6, false, aC (nI 8)),
  (.if_icmp .le 5, 5, 8, false, aT [8]),
  (.iconst (-1), 6, 11, false, aC ((-1))),
  (.ireturn, 7, 12, false, aC 0),
  (.iconst 0, 8, 13, false, aC (nI 0)),
  (.istore 4, 9, 14, false, aC 0),
  (.iload 4, 10, 16, true, aC 0),
  (.iload_n 3, 11, 18, false, aC 0),
  (.if_icmp .ge 35, 12, 19, false, aT [29]),
  (.aload_n 0, 13, 22, false, aC 0),
  (.lload_n 1, 14, 23, false, aC 0),
  (.iload 4, 15, 24, false, aC 0),
  (.invokevirtual 22, 16, 26, false, aM 55 2 false true 4),
  (.bipush 32, 17, 29, false, aC (nI 32)),
  (.if_icmp .lt 15, 18, 31, false, aT [25]),
  (.aload_n 0, 19, 34, false, aC 0),
  (.lload_n 1, 20, 35, false, aC 0),
  (.iload 4, 21, 36, false, aC 0),
  (.invokevirtual 22, 22, 38, false, aM 55 2 false true 4),
  (.bipush 126, 23, 41, false, aC (nI 126)),
  (.if_icmp .le 5, 24, 43, false, aT [27]),
  (.iconst (-1), 25, 46, false, aC ((-1))),
  (.ireturn, 26, 47, false, aC 0),
  (.iinc 4 1, 27, 48, false, aC (nI 1)),
  (.goto (-35), 28, 51, false, aT [10]),
  (.aload_n 0, 29, 54, false, aC 0),
  (.getfield 15, 30, 55, false, aF 4 1 0 false),
  (.bipush 120, 31, 58, false, aC (nI 120)),
  (.iload_n 3, 32, 60, false, aC 0),
  (.isub, 33, 61, false, aC 0),
  (.if_icmp .le 6, 34, 62, false, aT [37]),
  (.bipush (-3), 35, 65, false, aC ((-3))),
  (.ireturn, 36, 67, false, aC 0),
  (.iload_n 3, 37, 68, false, aC 0),
  (.iconst 1, 38, 69, false, aC (nI 1)),
  (.isub, 39, 70, false, aC 0),
  (.istore 4, 40, 71, false, aC 0),
  (.iload 4, 41, 73, true, aC 0),
  (.ifCond .lt 35, 42, 75, false, aT [60]),
  (.aload_n 0, 43, 78, false, aC 0),
  (.getfield 11, 44, 79, false, aF 4 0 1 false),
  (.aload_n 0, 45, 82, false, aC 0),
  (.getfield 15, 46, 83, false, aF 4 1 0 false),
  (.aload_n 0, 47, 86, false, aC 0),
  (.lload_n 1, 48, 87, false, aC 0),
  (.iload 4, 49, 88, false, aC 0),
  (.invokevirtual 22, 50, 90, false, aM 55 2 false true 4),
  (.iastore, 51, 93, false, aC 0),
  (.aload_n 0, 52, 94, false, aC 0),
  (.dup, 53, 95, false, aC 0),
  (.getfield 15, 54, 96, false, aF 4 1 0 false),
  (.iconst 1, 55, 99, false, aC (nI 1)),
  (.iadd, 56, 100, false, aC 0),
  (.putfield 15, 57, 101, false, aF 4 1 0 false),
  (.iinc 4 (-1), 58, 104, false, aC ((-1))),
  (.goto (-34), 59, 107, false, aT [41]),
  (.aload_n 0, 60, 110, false, aC 0),
  (.getfield 15, 61, 111, false, aF 4 1 0 false),
  (.ireturn, 62, 114, false, aC 0)]
theorem ok_X4_put : okCode i_X4_put k_X4_put = true := by decide +kernel
/-- heads [] -/
def k_X4_byteOf : List Ins := [(.lload_n 1, 0, 0, false, aC 0),
  (.bipush 8, 1, 1, false, aC (nI 8)),
  (.iload_n 3, 2, 3, false, aC 0),
  (.imul, 3, 4, false, aC 0),
  (.lshr, 4, 5, false, aC 0),
  (.ldc2_w 26, 5, 6, false, aL 255),
  (.land, 6, 9, false, aC 0),
  (.l2i, 7, 10, false, aC 0),
  (.ireturn, 8, 11, false, aC 0)]
theorem ok_X4_byteOf : okCode i_X4_byteOf k_X4_byteOf = true := by decide +kernel
/-- heads [] -/
def k_X4_open : List Ins := [(.aload_n 0, 0, 0, false, aC 0),
  (.iconst 0, 1, 1, false, aC (nI 0)),
  (.putfield 19, 2, 2, false, aF 4 2 0 false),
  (.aload_n 0, 3, 5, false, aC 0),
  (.invokevirtual 28, 4, 6, false, aM 57 0 false false 4),
  (.return_, 5, 9, false, aC 0)]
theorem ok_X4_open : okCode i_X4_open k_X4_open = true := by decide +kernel
/-- heads [3] -/
def k_X4_passBlanks : List Ins := [(.aload_n 0, 0, 0, false, aC 0),
  (.getfield 19, 1, 1, false, aF 4 2 0 false),
  (.istore_n 1, 2, 4, false, aC 0),
  (.iload_n 1, 3, 5, true, aC 0),
  (.aload_n 0, 4, 6, false, aC 0),
  (.getfield 15, 5, 7, false, aF 4 1 0 false),
  (.if_icmp .ge 28, 6, 10, false, aT [19]),
  (.aload_n 0, 7, 13, false, aC 0),
  (.invokevirtual 31, 8, 14, false, aM 60 0 false true 4),
  (.bipush 32, 9, 17, false, aC (nI 32)),
  (.if_icmp .ne 19, 10, 19, false, aT [19]),
  (.aload_n 0, 11, 22, false, aC 0),
  (.dup, 12, 23, false, aC 0),
  (.getfield 19, 13, 24, false, aF 4 2 0 false),
  (.iconst 1, 14, 27, false, aC (nI 1)),
  (.iadd, 15, 28, false, aC 0),
  (.putfield 19, 16, 29, false, aF 4 2 0 false),
  (.iinc 1 1, 17, 32, false, aC (nI 1)),
  (.goto (-30), 18, 35, false, aT [3]),
  (.return_, 19, 38, false, aC 0)]
theorem ok_X4_passBlanks : okCode i_X4_passBlanks k_X4_passBlanks = true := by decide +kernel
/-- heads [] -/
def k_X4_step : List Ins := [(.aload_n 0, 0, 0, false, aC 0),
  (.dup, 1, 1, false, aC 0),
  (.getfield 19, 2, 2, false, aF 4 2 0 false),
  (.iconst 1, 3, 5, false, aC (nI 1)),
  (.iadd, 4, 6, false, aC 0),
  (.putfield 19, 5, 7, false, aF 4 2 0 false),
  (.aload_n 0, 6, 10, false, aC 0),
  (.invokevirtual 28, 7, 11, false, aM 57 0 false false 4),
  (.return_, 8, 14, false, aC 0)]
theorem ok_X4_step : okCode i_X4_step k_X4_step = true := by decide +kernel
/-- heads [] -/
def k_X4_empty : List Ins := [(.aload_n 0, 0, 0, false, aC 0),
  (.iconst 0, 1, 1, false, aC (nI 0)),
  (.putfield 15, 2, 2, false, aF 4 1 0 false),
  (.return_, 3, 5, false, aC 0)]
theorem ok_X4_empty : okCode i_X4_empty k_X4_empty = true := by decide +kernel
/-- heads [] -/
def k_X4_next : List Ins := [(.aload_n 0, 0, 0, false, aC 0),
  (.getfield 19, 1, 1, false, aF 4 2 0 false),
  (.ifCond .lt 26, 2, 4, false, aT [14]),
  (.aload_n 0, 3, 7, false, aC 0),
  (.getfield 19, 4, 8, false, aF 4 2 0 false),
  (.aload_n 0, 5, 11, false, aC 0),
  (.getfield 15, 6, 12, false, aF 4 1 0 false),
  (.if_icmp .ge 15, 7, 15, false, aT [14]),
  (.aload_n 0, 8, 18, false, aC 0),
  (.getfield 11, 9, 19, false, aF 4 0 1 false),
  (.aload_n 0, 10, 22, false, aC 0),
  (.getfield 19, 11, 23, false, aF 4 2 0 false),
  (.iaload, 12, 26, false, aC 0),
  (.goto 4, 13, 27, false, aT [15]),
  (.iconst 0, 14, 30, false, aC (nI 0)),
  (.ireturn, 15, 31, false, aC 0)]
theorem ok_X4_next : okCode i_X4_next k_X4_next = true := by decide +kernel
/-- heads [] -/
def k_X4_skip : List Ins := [(.aload_n 0, 0, 0, false, aC 0),
  (.invokevirtual 31, 1, 1, false, aM 60 0 false true 4),
  (.iload_n 1, 2, 4, false, aC 0),
  (.if_icmp .eq 5, 3, 5, false, aT [6]),
  (.iconst 0, 4, 8, false, aC (nI 0)),
  (.ireturn, 5, 9, false, aC 0),
  (.aload_n 0, 6, 10, false, aC 0),
  (.invokevirtual 35, 7, 11, false, aM 58 0 false false 4),
  (.iconst 1, 8, 14, false, aC (nI 1)),
  (.ireturn, 9, 15, false, aC 0)]
theorem ok_X4_skip : okCode i_X4_skip k_X4_skip = true := by decide +kernel
/-- heads [] -/
def k_X4_fault : List Ins := [(.bipush (-20), 0, 0, false, aC ((-20))),
  (.aload_n 0, 1, 2, false, aC 0),
  (.getfield 19, 2, 3, false, aF 4 2 0 false),
  (.isub, 3, 6, false, aC 0),
  (.ireturn, 4, 7, false, aC 0)]
theorem ok_X4_fault : okCode i_X4_fault k_X4_fault = true := by decide +kernel
/-- heads [2] -/
def k_X4_readPeople : List Ins := [(.iconst 1, 0, 0, false, aC (nI 1)),
  (.istore_n 2, 1, 1, false, aC 0),
  (.iload_n 2, 2, 2, true, aC 0),
  (.bipush 12, 3, 3, false, aC (nI 12)),
  (.if_icmp .gt 51, 4, 5, false, aT [29]),
  (.aload_n 0, 5, 8, false, aC 0),
  (.aload_n 1, 6, 9, false, aC 0),
  (.invokevirtual 38, 7, 10, false, aM 64 1 false true 4),
  (.ifCond .ne 8, 8, 13, false, aT [12]),
  (.aload_n 0, 9, 16, false, aC 0),
  (.invokevirtual 42, 10, 17, false, aM 62 0 false true 4),
  (.ireturn, 11, 20, false, aC 0),
  (.aload_n 0, 12, 21, false, aC 0),
  (.invokevirtual 31, 13, 22, false, aM 60 0 false true 4),
  (.ifCond .ne 5, 14, 25, false, aT [17]),
  (.iload_n 2, 15, 28, false, aC 0),
  (.ireturn, 16, 29, false, aC 0),
  (.iload_n 2, 17, 30, false, aC 0),
  (.bipush 12, 18, 31, false, aC (nI 12)),
  (.if_icmp .eq 12, 19, 33, false, aT [24]),
  (.aload_n 0, 20, 36, false, aC 0),
  (.bipush 44, 21, 37, false, aC (nI 44)),
  (.invokevirtual 45, 22, 39, false, aM 61 1 false true 4),
  (.ifCond .ne 8, 23, 42, false, aT [27]),
  (.aload_n 0, 24, 45, false, aC 0),
  (.invokevirtual 42, 25, 46, false, aM 62 0 false true 4),
  (.ireturn, 26, 49, false, aC 0),
  (.iinc 2 1, 27, 50, false, aC (nI 1)),
  (.goto (-51), 28, 53, false, aT [2]),
  (.aload_n 0, 29, 56, false, aC 0),
  (.invokevirtual 42, 30, 57, false, aM 62 0 false true 4),
  (.ireturn, 31, 60, false, aC 0)]
theorem ok_X4_readPeople : okCode i_X4_readPeople k_X4_readPeople = true := by decide +kernel
/-- heads [] -/
def k_X4_readPerson : List Ins := [(.iconst 0, 0, 0, false, aC (nI 0)),
  (.istore_n 2, 1, 1, false, aC 0),
  (.aload_n 0, 2, 2, false, aC 0),
  (.invokevirtual 31, 3, 3, false, aM 60 0 false true 4),
  (.bipush 119, 4, 6, false, aC (nI 119)),
  (.if_icmp .ne 8, 5, 8, false, aT [9]),
  (.iconst 1, 6, 11, false, aC (nI 1)),
  (.istore_n 2, 7, 12, false, aC 0),
  (.goto 14, 8, 13, false, aT [15]),
  (.aload_n 0, 9, 16, false, aC 0),
  (.invokevirtual 31, 10, 17, false, aM 60 0 false true 4),
  (.bipush 109, 11, 20, false, aC (nI 109)),
  (.if_icmp .eq 5, 12, 22, false, aT [15]),
  (.iconst 0, 13, 25, false, aC (nI 0)),
  (.ireturn, 14, 26, false, aC 0),
  (.aload_n 0, 15, 27, false, aC 0),
  (.invokevirtual 35, 16, 28, false, aM 58 0 false false 4),
  (.aload_n 1, 17, 31, false, aC 0),
  (.iload_n 2, 18, 32, false, aC 0),
  (.bipush 12, 19, 33, false, aC (nI 12)),
  (.bipush 12, 20, 35, false, aC (nI 12)),
  (.invokevirtual 49, 21, 37, false, aM 8 3 false true 0),
  (.istore_n 3, 22, 40, false, aC 0),
  (.aload_n 1, 23, 41, false, aC 0),
  (.iload_n 3, 24, 42, false, aC 0),
  (.invokevirtual 55, 25, 43, false, aM 3 1 false true 0),
  (.ifCond .eq 34, 26, 46, false, aT [44]),
  (.aload_n 0, 27, 49, false, aC 0),
  (.aload_n 1, 28, 50, false, aC 0),
  (.iload_n 3, 29, 51, false, aC 0),
  (.invokevirtual 58, 30, 52, false, aM 65 2 false true 4),
  (.ifCond .eq 25, 31, 55, false, aT [44]),
  (.aload_n 0, 32, 58, false, aC 0),
  (.aload_n 1, 33, 59, false, aC 0),
  (.iload_n 3, 34, 60, false, aC 0),
  (.invokevirtual 62, 35, 61, false, aM 66 2 false true 4),
  (.ifCond .eq 16, 36, 64, false, aT [44]),
  (.aload_n 0, 37, 67, false, aC 0),
  (.aload_n 1, 38, 68, false, aC 0),
  (.iload_n 3, 39, 69, false, aC 0),
  (.invokevirtual 65, 40, 70, false, aM 67 2 false true 4),
  (.ifCond .eq 7, 41, 73, false, aT [44]),
  (.iconst 1, 42, 76, false, aC (nI 1)),
  (.goto 4, 43, 77, false, aT [45]),
  (.iconst 0, 44, 80, false, aC (nI 0)),
  (.ireturn, 45, 81, false, aC 0)]
theorem ok_X4_readPerson : okCode i_X4_readPerson k_X4_readPerson = true := by decide +kernel
/-- heads [] -/
def k_X4_readFather : List Ins := [(.aload_n 0, 0, 0, false, aC 0),
  (.bipush 102, 1, 1, false, aC (nI 102)),
  (.invokevirtual 45, 2, 3, false, aM 61 1 false true 4),
  (.ifCond .ne 5, 3, 6, false, aT [6]),
  (.iconst 1, 4, 9, false, aC (nI 1)),
  (.ireturn, 5, 10, false, aC 0),
  (.aload_n 0, 6, 11, false, aC 0),
  (.invokevirtual 31, 7, 12, false, aM 60 0 false true 4),
  (.bipush 97, 8, 15, false, aC (nI 97)),
  (.isub, 9, 17, false, aC 0),
  (.istore_n 3, 10, 18, false, aC 0),
  (.iload_n 3, 11, 19, false, aC 0),
  (.iload_n 2, 12, 20, false, aC 0),
  (.if_icmp .ge 12, 13, 21, false, aT [19]),
  (.aload_n 1, 14, 24, false, aC 0),
  (.iload_n 3, 15, 25, false, aC 0),
  (.iconst 0, 16, 26, false, aC (nI 0)),
  (.invokevirtual 68, 17, 27, false, aM 5 2 false true 0),
  (.ifCond .ne 5, 18, 30, false, aT [21]),
  (.iconst 0, 19, 33, false, aC (nI 0)),
  (.ireturn, 20, 34, false, aC 0),
  (.aload_n 1, 21, 35, false, aC 0),
  (.getfield 72, 22, 36, false, aF 0 3 4 false),
  (.iload_n 2, 23, 39, false, aC 0),
  (.iload_n 3, 24, 40, false, aC 0),
  (.iastore, 25, 41, false, aC 0),
  (.aload_n 0, 26, 42, false, aC 0),
  (.invokevirtual 35, 27, 43, false, aM 58 0 false false 4),
  (.iconst 1, 28, 46, false, aC (nI 1)),
  (.ireturn, 29, 47, false, aC 0)]
theorem ok_X4_readFather : okCode i_X4_readFather k_X4_readFather = true := by decide +kernel
/-- heads [] -/
def k_X4_readMother : List Ins := [(.aload_n 0, 0, 0, false, aC 0),
  (.bipush 111, 1, 1, false, aC (nI 111)),
  (.invokevirtual 45, 2, 3, false, aM 61 1 false true 4),
  (.ifCond .ne 5, 3, 6, false, aT [6]),
  (.iconst 1, 4, 9, false, aC (nI 1)),
  (.ireturn, 5, 10, false, aC 0),
  (.aload_n 0, 6, 11, false, aC 0),
  (.invokevirtual 31, 7, 12, false, aM 60 0 false true 4),
  (.bipush 97, 8, 15, false, aC (nI 97)),
  (.isub, 9, 17, false, aC 0),
  (.istore_n 3, 10, 18, false, aC 0),
  (.iload_n 3, 11, 19, false, aC 0),
  (.iload_n 2, 12, 20, false, aC 0),
  (.if_icmp .ge 12, 13, 21, false, aT [19]),
  (.aload_n 1, 14, 24, false, aC 0),
  (.iload_n 3, 15, 25, false, aC 0),
  (.iconst 1, 16, 26, false, aC (nI 1)),
  (.invokevirtual 68, 17, 27, false, aM 5 2 false true 0),
  (.ifCond .ne 5, 18, 30, false, aT [21]),
  (.iconst 0, 19, 33, false, aC (nI 0)),
  (.ireturn, 20, 34, false, aC 0),
  (.aload_n 1, 21, 35, false, aC 0),
  (.getfield 75, 22, 36, false, aF 0 4 5 false),
  (.iload_n 2, 23, 39, false, aC 0),
  (.iload_n 3, 24, 40, false, aC 0),
  (.iastore, 25, 41, false, aC 0),
  (.aload_n 0, 26, 42, false, aC 0),
  (.invokevirtual 35, 27, 43, false, aM 58 0 false false 4),
  (.iconst 1, 28, 46, false, aC (nI 1)),
  (.ireturn, 29, 47, false, aC 0)]
theorem ok_X4_readMother : okCode i_X4_readMother k_X4_readMother = true := by decide +kernel
/-- heads [] -/
def k_X4_readSpouse : List Ins := [(.aload_n 0, 0, 0, false, aC 0),
  (.bipush 115, 1, 1, false, aC (nI 115)),
  (.invokevirtual 45, 2, 3, false, aM 61 1 false true 4),
  (.ifCond .ne 5, 3, 6, false, aT [6]),
  (.iconst 1, 4, 9, false, aC (nI 1)),
  (.ireturn, 5, 10, false, aC 0),
  (.aload_n 0, 6, 11, false, aC 0),
  (.invokevirtual 31, 7, 12, false, aM 60 0 false true 4),
  (.bipush 97, 8, 15, false, aC (nI 97)),
  (.isub, 9, 17, false, aC 0),
  (.istore_n 3, 10, 18, false, aC 0),
  (.aload_n 1, 11, 19, false, aC 0),
  (.getfield 78, 12, 20, false, aF 0 2 3 false),
  (.iload_n 2, 13, 23, false, aC 0),
  (.iaload, 14, 24, false, aC 0),
  (.ifCond .ne 7, 15, 25, false, aT [18]),
  (.iconst 1, 16, 28, false, aC (nI 1)),
  (.goto 4, 17, 29, false, aT [19]),
  (.iconst 0, 18, 32, false, aC (nI 0)),
  (.istore 4, 19, 33, false, aC 0),
  (.iload_n 3, 20, 35, false, aC 0),
  (.iload_n 2, 21, 36, false, aC 0),
  (.if_icmp .ge 24, 22, 37, false, aT [34]),
  (.aload_n 1, 23, 40, false, aC 0),
  (.iload_n 3, 24, 41, false, aC 0),
  (.iload 4, 25, 42, false, aC 0),
  (.invokevirtual 68, 26, 44, false, aM 5 2 false true 0),
  (.ifCond .eq 14, 27, 47, false, aT [34]),
  (.aload_n 1, 28, 50, false, aC 0),
  (.getfield 81, 29, 51, false, aF 0 5 6 false),
  (.iload_n 3, 30, 54, false, aC 0),
  (.iaload, 31, 55, false, aC 0),
  (.bipush 12, 32, 56, false, aC (nI 12)),
  (.if_icmp .eq 5, 33, 58, false, aT [36]),
  (.iconst 0, 34, 61, false, aC (nI 0)),
  (.ireturn, 35, 62, false, aC 0),
  (.aload_n 1, 36, 63, false, aC 0),
  (.getfield 81, 37, 64, false, aF 0 5 6 false),
  (.iload_n 2, 38, 67, false, aC 0),
  (.iload_n 3, 39, 68, false, aC 0),
  (.iastore, 40, 69, false, aC 0),
  (.aload_n 1, 41, 70, false, aC 0),
  (.getfield 81, 42, 71, false, aF 0 5 6 false),
  (.iload_n 3, 43, 74, false, aC 0),
  (.iload_n 2, 44, 75, false, aC 0),
  (.iastore, 45, 76, false, aC 0),
  (.aload_n 0, 46, 77, false, aC 0),
  (.invokevirtual 35, 47, 78, false, aM 58 0 false false 4),
  (.iconst 1, 48, 81, false, aC (nI 1)),
  (.ireturn, 49, 82, false, aC 0)]
theorem ok_X4_readSpouse : okCode i_X4_readSpouse k_X4_readSpouse = true := by decide +kernel
/-- heads [4] -/
def k_X4_readRules : List Ins := [(.iconst 0, 0, 0, false, aC (nI 0)),
  (.istore_n 2, 1, 1, false, aC 0),
  (.iconst 1, 2, 2, false, aC (nI 1)),
  (.istore_n 3, 3, 3, false, aC 0),
  (.iload_n 3, 4, 4, true, aC 0),
  (.iconst 4, 5, 5, false, aC (nI 4)),
  (.if_icmp .gt 104, 6, 6, false, aT [59]),
  (.aload_n 0, 7, 9, false, aC 0),
  (.aload_n 0, 8, 10, false, aC 0),
  (.invokevirtual 31, 9, 11, false, aM 60 0 false true 4),
  (.invokevirtual 84, 10, 14, false, aM 69 1 false true 4),
  (.istore 4, 11, 17, false, aC 0),
  (.iload 4, 12, 19, false, aC 0),
  (.invokestatic 88, 13, 21, false, aM 104 1 true true 5),
  (.ifCond .eq 12, 14, 24, false, aT [19]),
  (.iload_n 2, 15, 27, false, aC 0),
  (.iload 4, 16, 28, false, aC 0),
  (.invokestatic 91, 17, 30, false, aM 103 2 true true 5),
  (.ifCond .eq 8, 18, 33, false, aT [22]),
  (.aload_n 0, 19, 36, false, aC 0),
  (.invokevirtual 42, 20, 37, false, aM 62 0 false true 4),
  (.ireturn, 21, 40, false, aC 0),
  (.iload_n 2, 22, 41, false, aC 0),
  (.iconst 1, 23, 42, false, aC (nI 1)),
  (.iload 4, 24, 43, false, aC 0),
  (.ishl, 25, 45, false, aC 0),
  (.ior, 26, 46, false, aC 0),
  (.istore_n 2, 27, 47, false, aC 0),
  (.aload_n 0, 28, 48, false, aC 0),
  (.invokevirtual 35, 29, 49, false, aM 58 0 false false 4),
  (.aload_n 0, 30, 52, false, aC 0),
  (.bipush 58, 31, 53, false, aC (nI 58)),
  (.invokevirtual 45, 32, 55, false, aM 61 1 false true 4),
  (.ifCond .eq 13, 33, 58, false, aT [39]),
  (.aload_n 0, 34, 61, false, aC 0),
  (.aload_n 1, 35, 62, false, aC 0),
  (.iload 4, 36, 63, false, aC 0),
  (.invokevirtual 94, 37, 65, false, aM 70 2 false true 4),
  (.ifCond .ne 8, 38, 68, false, aT [42]),
  (.aload_n 0, 39, 71, false, aC 0),
  (.invokevirtual 42, 40, 72, false, aM 62 0 false true 4),
  (.ireturn, 41, 75, false, aC 0),
  (.aload_n 0, 42, 76, false, aC 0),
  (.invokevirtual 31, 43, 77, false, aM 60 0 false true 4),
  (.ifCond .ne 5, 44, 80, false, aT [47]),
  (.iload_n 3, 45, 83, false, aC 0),
  (.ireturn, 46, 84, false, aC 0),
  (.iload_n 3, 47, 85, false, aC 0),
  (.iconst 4, 48, 86, false, aC (nI 4)),
  (.if_icmp .eq 12, 49, 87, false, aT [54]),
  (.aload_n 0, 50, 90, false, aC 0),
  (.bipush 59, 51, 91, false, aC (nI 59)),
  (.invokevirtual 45, 52, 93, false, aM 61 1 false true 4),
  (.ifCond .ne 8, 53, 96, false, aT [57]),
  (.aload_n 0, 54, 99, false, aC 0),
  (.invokevirtual 42, 55, 100, false, aM 62 0 false true 4),
  (.ireturn, 56, 103, false, aC 0),
  (.iinc 3 1, 57, 104, false, aC (nI 1)),
  (.goto (-103), 58, 107, false, aT [4]),
  (.aload_n 0, 59, 110, false, aC 0),
  (.invokevirtual 42, 60, 111, false, aM 62 0 false true 4),
  (.ireturn, 61, 114, false, aC 0)]
theorem ok_X4_readRules : okCode i_X4_readRules k_X4_readRules = true := by decide +kernel
/-- heads [] -/
def k_X4_kindOf : List Ins := [(.iload_n 1, 0, 0, false, aC 0),
  (.lookupswitch 51 #[(100, 45), (106, 49), (108, 43), (113, 47)], 1, 1, false, aT [10, 4, 8, 2, 6]),
  (.iconst 0, 2, 44, false, aC (nI 0)),
  (.ireturn, 3, 45, false, aC 0),
  (.iconst 1, 4, 46, false, aC (nI 1)),
  (.ireturn, 5, 47, false, aC 0),
  (.iconst 2, 6, 48, false, aC (nI 2)),
  (.ireturn, 7, 49, false, aC 0),
  (.iconst 3, 8, 50, false, aC (nI 3)),
  (.ireturn, 9, 51, false, aC 0),
  (.iconst 4, 10, 52, false, aC (nI 4)),
  (.ireturn, 11, 53, false, aC 0)]
theorem ok_X4_kindOf : okCode i_X4_kindOf k_X4_kindOf = true := by decide +kernel
/-- heads [6] -/
def k_X4_readRow : List Ins := [(.iconst 0, 0, 0, false, aC (nI 0)),
  (.istore_n 3, 1, 1, false, aC 0),
  (.iconst 0, 2, 2, false, aC (nI 0)),
  (.istore 4, 3, 3, false, aC 0),
  (.iconst 0, 4, 5, false, aC (nI 0)),
  (.istore 5, 5, 6, false, aC 0),
  (.iload 5, 6, 8, true, aC 0),
  (.iconst 3, 7, 10, false, aC (nI 3)),
  (.if_icmp .ge 68, 8, 11, false, aT [45]),
  (.aload_n 0, 9, 14, false, aC 0),
  (.invokevirtual 31, 10, 15, false, aM 60 0 false true 4),
  (.bipush 48, 11, 18, false, aC (nI 48)),
  (.isub, 12, 20, false, aC 0),
  (.istore 6, 13, 21, false, aC 0),
  (.iload 6, 14, 23, false, aC 0),
  (.ifCond .lt 54, 15, 25, false, aT [45]),
  (.iload 6, 16, 28, false, aC 0),
  (.iconst 5, 17, 30, false, aC (nI 5)),
  (.if_icmp .gt 48, 18, 31, false, aT [45]),
  (.iload_n 3, 19, 34, false, aC 0),
  (.iload 6, 20, 35, false, aC 0),
  (.iconst 3, 21, 37, false, aC (nI 3)),
  (.iload 5, 22, 38, false, aC 0),
  (.imul, 23, 40, false, aC 0),
  (.ishl, 24, 41, false, aC 0),
  (.ior, 25, 42, false, aC 0),
  (.iload 5, 26, 43, false, aC 0),
  (.iconst 1, 27, 45, false, aC (nI 1)),
  (.iadd, 28, 46, false, aC 0),
  (.invokestatic 97, 29, 47, false, aM 106 2 true true 5),
  (.ifCond .ne 6, 30, 50, false, aT [32]),
  (.goto 26, 31, 53, false, aT [45]),
  (.iload_n 3, 32, 56, false, aC 0),
  (.iload 6, 33, 57, false, aC 0),
  (.iconst 3, 34, 59, false, aC (nI 3)),
  (.iload 5, 35, 60, false, aC 0),
  (.imul, 36, 62, false, aC 0),
  (.ishl, 37, 63, false, aC 0),
  (.ior, 38, 64, false, aC 0),
  (.istore_n 3, 39, 65, false, aC 0),
  (.iinc 4 1, 40, 66, false, aC (nI 1)),
  (.aload_n 0, 41, 69, false, aC 0),
  (.invokevirtual 35, 42, 70, false, aM 58 0 false false 4),
  (.iinc 5 1, 43, 73, false, aC (nI 1)),
  (.goto (-68), 44, 76, false, aT [6]),
  (.iload 4, 45, 79, false, aC 0),
  (.ifCond .ne 5, 46, 81, false, aT [49]),
  (.iconst 0, 47, 84, false, aC (nI 0)),
  (.ireturn, 48, 85, false, aC 0),
  (.aload_n 1, 49, 86, false, aC 0),
  (.iload_n 2, 50, 87, false, aC 0),
  (.iload_n 3, 51, 88, false, aC 0),
  (.iload 4, 52, 89, false, aC 0),
  (.invokevirtual 100, 53, 91, false, aM 10 3 false false 0),
  (.iconst 1, 54, 94, false, aC (nI 1)),
  (.ireturn, 55, 95, false, aC 0)]
theorem ok_X4_readRow : okCode i_X4_readRow k_X4_readRow = true := by decide +kernel
/-- heads [] -/
def k_X5_person : List Ins := [(.iload_n 1, 0, 0, false, aC 0),
  (.ifCond .eq 10, 1, 1, false, aT [7]),
  (.iload_n 1, 2, 4, false, aC 0),
  (.iconst 1, 3, 5, false, aC (nI 1)),
  (.if_icmp .eq 5, 4, 6, false, aT [7]),
  (.iconst (-1), 5, 9, false, aC ((-1))),
  (.ireturn, 6, 10, false, aC 0),
  (.iload_n 2, 7, 11, false, aC 0),
  (.bipush 12, 8, 12, false, aC (nI 12)),
  (.if_icmp .eq 17, 9, 14, false, aT [18]),
  (.aload_n 0, 10, 17, false, aC 0),
  (.getfield 10, 11, 18, false, aF 5 0 100 false),
  (.iload_n 2, 12, 21, false, aC 0),
  (.iconst 0, 13, 22, false, aC (nI 0)),
  (.invokevirtual 54, 14, 23, false, aM 5 2 false true 0),
  (.ifCond .ne 5, 15, 26, false, aT [18]),
  (.iconst (-1), 16, 29, false, aC ((-1))),
  (.ireturn, 17, 30, false, aC 0),
  (.iload_n 3, 18, 31, false, aC 0),
  (.bipush 12, 19, 32, false, aC (nI 12)),
  (.if_icmp .eq 17, 20, 34, false, aT [29]),
  (.aload_n 0, 21, 37, false, aC 0),
  (.getfield 10, 22, 38, false, aF 5 0 100 false),
  (.iload_n 3, 23, 41, false, aC 0),
  (.iconst 1, 24, 42, false, aC (nI 1)),
  (.invokevirtual 54, 25, 43, false, aM 5 2 false true 0),
  (.ifCond .ne 5, 26, 46, false, aT [29]),
  (.iconst (-1), 27, 49, false, aC ((-1))),
  (.ireturn, 28, 50, false, aC 0),
  (.aload_n 0, 29, 51, false, aC 0),
  (.getfield 10, 30, 52, false, aF 5 0 100 false),
  (.iload_n 1, 31, 55, false, aC 0),
  (.iload_n 2, 32, 56, false, aC 0),
  (.iload_n 3, 33, 57, false, aC 0),
  (.invokevirtual 58, 34, 58, false, aM 8 3 false true 0),
  (.ireturn, 35, 61, false, aC 0)]
theorem ok_X5_person : okCode i_X5_person k_X5_person = true := by decide +kernel
/-- heads [] -/
def k_X5_marry : List Ins := [(.aload_n 0, 0, 0, false, aC 0),
  (.getfield 10, 1, 1, false, aF 5 0 100 false),
  (.iload_n 1, 2, 4, false, aC 0),
  (.iconst 0, 3, 5, false, aC (nI 0)),
  (.invokevirtual 54, 4, 6, false, aM 5 2 false true 0),
  (.ifCond .eq 15, 5, 9, false, aT [12]),
  (.aload_n 0, 6, 12, false, aC 0),
  (.getfield 10, 7, 13, false, aF 5 0 100 false),
  (.iload_n 2, 8, 16, false, aC 0),
  (.iconst 1, 9, 17, false, aC (nI 1)),
  (.invokevirtual 54, 10, 18, false, aM 5 2 false true 0),
  (.ifCond .ne 5, 11, 21, false, aT [14]),
  (.iconst (-1), 12, 24, false, aC ((-1))),
  (.ireturn, 13, 25, false, aC 0),
  (.aload_n 0, 14, 26, false, aC 0),
  (.getfield 10, 15, 27, false, aF 5 0 100 false),
  (.iload_n 1, 16, 30, false, aC 0),
  (.iload_n 2, 17, 31, false, aC 0),
  (.invokevirtual 62, 18, 32, false, aM 12 2 false true 0),
  (.ifCond .eq 7, 19, 35, false, aT [22]),
  (.iconst 1, 20, 38, false, aC (nI 1)),
  (.goto 5, 21, 39, false, aT [23]),
  (.bipush (-2), 22, 42, false, aC ((-2))),
  (.ireturn, 23, 44, false, aC 0)]
theorem ok_X5_marry : okCode i_X5_marry k_X5_marry = true := by decide +kernel
/-- heads [] -/
def k_X5_adopt : List Ins := [(.aload_n 0, 0, 0, false, aC 0),
  (.getfield 10, 1, 1, false, aF 5 0 100 false),
  (.iload_n 1, 2, 4, false, aC 0),
  (.invokevirtual 65, 3, 5, false, aM 3 1 false true 0),
  (.ifCond .eq 20, 4, 8, false, aT [14]),
  (.aload_n 0, 5, 11, false, aC 0),
  (.getfield 10, 6, 12, false, aF 5 0 100 false),
  (.iload_n 2, 7, 15, false, aC 0),
  (.iconst 0, 8, 16, false, aC (nI 0)),
  (.invokevirtual 54, 9, 17, false, aM 5 2 false true 0),
  (.ifCond .eq 8, 10, 20, false, aT [14]),
  (.iload_n 2, 11, 23, false, aC 0),
  (.iload_n 1, 12, 24, false, aC 0),
  (.if_icmp .lt 5, 13, 25, false, aT [16]),
  (.iconst (-1), 14, 28, false, aC ((-1))),
  (.ireturn, 15, 29, false, aC 0),
  (.aload_n 0, 16, 30, false, aC 0),
  (.getfield 10, 17, 31, false, aF 5 0 100 false),
  (.iload_n 1, 18, 34, false, aC 0),
  (.invokevirtual 69, 19, 35, false, aM 4 1 false true 0),
  (.ifCond .eq 14, 20, 38, false, aT [26]),
  (.aload_n 0, 21, 41, false, aC 0),
  (.getfield 10, 22, 42, false, aF 5 0 100 false),
  (.iload_n 2, 23, 45, false, aC 0),
  (.invokevirtual 69, 24, 46, false, aM 4 1 false true 0),
  (.ifCond .ne 6, 25, 49, false, aT [28]),
  (.bipush (-2), 26, 52, false, aC ((-2))),
  (.ireturn, 27, 54, false, aC 0),
  (.aload_n 0, 28, 55, false, aC 0),
  (.getfield 10, 29, 56, false, aF 5 0 100 false),
  (.getfield 72, 30, 59, false, aF 0 3 4 false),
  (.iload_n 1, 31, 62, false, aC 0),
  (.iaload, 32, 63, false, aC 0),
  (.istore_n 3, 33, 64, false, aC 0),
  (.aload_n 0, 34, 65, false, aC 0),
  (.getfield 10, 35, 66, false, aF 5 0 100 false),
  (.getfield 72, 36, 69, false, aF 0 3 4 false),
  (.iload_n 1, 37, 72, false, aC 0),
  (.iload_n 2, 38, 73, false, aC 0),
  (.iastore, 39, 74, false, aC 0),
  (.iload_n 3, 40, 75, false, aC 0),
  (.ireturn, 41, 76, false, aC 0)]
theorem ok_X5_adopt : okCode i_X5_adopt k_X5_adopt = true := by decide +kernel
/-- heads [] -/
def k_X5_god : List Ins := [(.aload_n 0, 0, 0, false, aC 0),
  (.getfield 10, 1, 1, false, aF 5 0 100 false),
  (.iload_n 1, 2, 4, false, aC 0),
  (.invokevirtual 65, 3, 5, false, aM 3 1 false true 0),
  (.ifCond .eq 8, 4, 8, false, aT [8]),
  (.iload_n 2, 5, 11, false, aC 0),
  (.iload_n 1, 6, 12, false, aC 0),
  (.if_icmp .ne 5, 7, 13, false, aT [10]),
  (.iconst (-1), 8, 16, false, aC ((-1))),
  (.ireturn, 9, 17, false, aC 0),
  (.iload_n 2, 10, 18, false, aC 0),
  (.bipush 12, 11, 19, false, aC (nI 12)),
  (.if_icmp .eq 16, 12, 21, false, aT [20]),
  (.aload_n 0, 13, 24, false, aC 0),
  (.getfield 10, 14, 25, false, aF 5 0 100 false),
  (.iload_n 2, 15, 28, false, aC 0),
  (.invokevirtual 65, 16, 29, false, aM 3 1 false true 0),
  (.ifCond .ne 5, 17, 32, false, aT [20]),
  (.iconst (-1), 18, 35, false, aC ((-1))),
  (.ireturn, 19, 36, false, aC 0),
  (.aload_n 0, 20, 37, false, aC 0),
  (.getfield 10, 21, 38, false, aF 5 0 100 false),
  (.getfield 76, 22, 41, false, aF 0 6 7 false),
  (.iload_n 1, 23, 44, false, aC 0),
  (.iaload, 24, 45, false, aC 0),
  (.istore_n 3, 25, 46, false, aC 0),
  (.aload_n 0, 26, 47, false, aC 0),
  (.getfield 10, 27, 48, false, aF 5 0 100 false),
  (.getfield 76, 28, 51, false, aF 0 6 7 false),
  (.iload_n 1, 29, 54, false, aC 0),
  (.iload_n 2, 30, 55, false, aC 0),
  (.iastore, 31, 56, false, aC 0),
  (.iload_n 3, 32, 57, false, aC 0),
  (.ireturn, 33, 58, false, aC 0)]
theorem ok_X5_god : okCode i_X5_god k_X5_god = true := by decide +kernel
/-- heads [] -/
def k_X5_told : List Ins := [(.aload_n 0, 0, 0, false, aC 0),
  (.getfield 10, 1, 1, false, aF 5 0 100 false),
  (.iload_n 1, 2, 4, false, aC 0),
  (.invokevirtual 65, 3, 5, false, aM 3 1 false true 0),
  (.ifCond .ne 5, 4, 8, false, aT [7]),
  (.iconst (-1), 5, 11, false, aC ((-1))),
  (.ireturn, 6, 12, false, aC 0),
  (.iload_n 2, 7, 13, false, aC 0),
  (.tableswitch 118 0 6 #[42, 52, 69, 79, 89, 99, 109], 8, 14, false, aT [53, 9, 15, 24, 30, 36, 42, 48]),
  (.aload_n 0, 9, 56, false, aC 0),
  (.getfield 10, 10, 57, false, aF 5 0 100 false),
  (.getfield 79, 11, 60, false, aF 0 2 3 false),
  (.iload_n 1, 12, 63, false, aC 0),
  (.iaload, 13, 64, false, aC 0),
  (.ireturn, 14, 65, false, aC 0),
  (.aload_n 0, 15, 66, false, aC 0),
  (.getfield 10, 16, 67, false, aF 5 0 100 false),
  (.iload_n 1, 17, 70, false, aC 0),
  (.invokevirtual 69, 18, 71, false, aM 4 1 false true 0),
  (.ifCond .eq 7, 19, 74, false, aT [22]),
  (.iconst 1, 20, 77, false, aC (nI 1)),
  (.goto 4, 21, 78, false, aT [23]),
  (.iconst 0, 22, 81, false, aC (nI 0)),
  (.ireturn, 23, 82, false, aC 0),
  (.aload_n 0, 24, 83, false, aC 0),
  (.getfield 10, 25, 84, false, aF 5 0 100 false),
  (.getfield 72, 26, 87, false, aF 0 3 4 false),
  (.iload_n 1, 27, 90, false, aC 0),
  (.iaload, 28, 91, false, aC 0),
  (.ireturn, 29, 92, false, aC 0),
  (.aload_n 0, 30, 93, false, aC 0),
  (.getfield 10, 31, 94, false, aF 5 0 100 false),
  (.getfield 82, 32, 97, false, aF 0 4 5 false),
  (.iload_n 1, 33, 100, false, aC 0),
  (.iaload, 34, 101, false, aC 0),
  (.ireturn, 35, 102, false, aC 0),
  (.aload_n 0, 36, 103, false, aC 0),
  (.getfield 10, 37, 104, false, aF 5 0 100 false),
  (.getfield 85, 38, 107, false, aF 0 5 6 false),
  (.iload_n 1, 39, 110, false, aC 0),
  (.iaload, 40, 111, false, aC 0),
  (.ireturn, 41, 112, false, aC 0),
  (.aload_n 0, 42, 113, false, aC 0),
  (.getfield 10, 43, 114, false, aF 5 0 100 false),
  (.getfield 76, 44, 117, false, aF 0 6 7 false),
  (.iload_n 1, 45, 120, false, aC 0),
  (.iaload, 46, 121, false, aC 0),
  (.ireturn, 47, 122, false, aC 0),
  (.aload_n 0, 48, 123, false, aC 0),
  (.getfield 10, 49, 124, false, aF 5 0 100 false),
  (.iload_n 1, 50, 127, false, aC 0),
  (.invokevirtual 88, 51, 128, false, aM 13 1 false true 0),
  (.ireturn, 52, 131, false, aC 0),
  (.iconst (-1), 53, 132, false, aC ((-1))),
  (.ireturn, 54, 133, false, aC 0)]
theorem ok_X5_told : okCode i_X5_told k_X5_told = true := by decide +kernel
/-- heads [] -/
def k_X5_kin : List Ins := [(.aload_n 0, 0, 0, false, aC 0),
  (.getfield 10, 1, 1, false, aF 5 0 100 false),
  (.iload_n 1, 2, 4, false, aC 0),
  (.invokevirtual 65, 3, 5, false, aM 3 1 false true 0),
  (.ifCond .eq 12, 4, 8, false, aT [10]),
  (.iload_n 2, 5, 11, false, aC 0),
  (.ifCond .lt 8, 6, 12, false, aT [10]),
  (.iload_n 2, 7, 15, false, aC 0),
  (.iconst 5, 8, 16, false, aC (nI 5)),
  (.if_icmp .le 5, 9, 17, false, aT [12]),
  (.iconst (-1), 10, 20, false, aC ((-1))),
  (.ireturn, 11, 21, false, aC 0),
  (.aload_n 0, 12, 22, false, aC 0),
  (.getfield 10, 13, 23, false, aF 5 0 100 false),
  (.iload_n 1, 14, 26, false, aC 0),
  (.iload_n 2, 15, 27, false, aC 0),
  (.invokevirtual 92, 16, 28, false, aM 18 2 false true 0),
  (.ireturn, 17, 31, false, aC 0)]
theorem ok_X5_kin : okCode i_X5_kin k_X5_kin = true := by decide +kernel
/-- heads [] -/
def k_X5_thing : List Ins := [(.iload_n 1, 0, 0, false, aC 0),
  (.invokestatic 96, 1, 1, false, aM 104 1 true true 5),
  (.ifCond .eq 24, 2, 4, false, aT [13]),
  (.iload_n 2, 3, 7, false, aC 0),
  (.ifCond .lt 20, 4, 8, false, aT [13]),
  (.iload_n 2, 5, 11, false, aC 0),
  (.bipush 99, 6, 12, false, aC (nI 99)),
  (.if_icmp .gt 14, 7, 14, false, aT [13]),
  (.aload_n 0, 8, 17, false, aC 0),
  (.getfield 10, 9, 18, false, aF 5 0 100 false),
  (.iload_n 3, 10, 21, false, aC 0),
  (.invokevirtual 69, 11, 22, false, aM 4 1 false true 0),
  (.ifCond .ne 5, 12, 25, false, aT [15]),
  (.iconst (-1), 13, 28, false, aC ((-1))),
  (.ireturn, 14, 29, false, aC 0),
  (.iload_n 1, 15, 30, false, aC 0),
  (.invokestatic 99, 16, 31, false, aM 105 1 true true 5),
  (.ifCond .eq 23, 17, 34, false, aT [28]),
  (.aload_n 0, 18, 37, false, aC 0),
  (.getfield 10, 19, 38, false, aF 5 0 100 false),
  (.iload 4, 20, 41, false, aC 0),
  (.invokevirtual 69, 21, 43, false, aM 4 1 false true 0),
  (.ifCond .eq 9, 22, 46, false, aT [26]),
  (.iload 4, 23, 49, false, aC 0),
  (.iload_n 3, 24, 51, false, aC 0),
  (.if_icmp .ne 14, 25, 52, false, aT [33]),
  (.iconst (-1), 26, 55, false, aC ((-1))),
  (.ireturn, 27, 56, false, aC 0),
  (.iload 4, 28, 57, false, aC 0),
  (.bipush 12, 29, 59, false, aC (nI 12)),
  (.if_icmp .eq 5, 30, 61, false, aT [33]),
  (.iconst (-1), 31, 64, false, aC ((-1))),
  (.ireturn, 32, 65, false, aC 0),
  (.aload_n 0, 33, 66, false, aC 0),
  (.getfield 10, 34, 67, false, aF 5 0 100 false),
  (.iload_n 1, 35, 70, false, aC 0),
  (.iload_n 2, 36, 71, false, aC 0),
  (.iload_n 3, 37, 72, false, aC 0),
  (.iload 4, 38, 73, false, aC 0),
  (.invokevirtual 102, 39, 75, false, aM 9 4 false true 0),
  (.ireturn, 40, 78, false, aC 0)]
theorem ok_X5_thing : okCode i_X5_thing k_X5_thing = true := by decide +kernel
/-- heads [] -/
def k_X5_of : List Ins := [(.aload_n 0, 0, 0, false, aC 0),
  (.getfield 10, 1, 1, false, aF 5 0 100 false),
  (.iload_n 1, 2, 4, false, aC 0),
  (.invokevirtual 106, 3, 5, false, aM 6 1 false true 0),
  (.ifCond .ne 5, 4, 8, false, aT [7]),
  (.iconst (-1), 5, 11, false, aC ((-1))),
  (.ireturn, 6, 12, false, aC 0),
  (.iload_n 2, 7, 13, false, aC 0),
  (.tableswitch 70 0 3 #[30, 40, 50, 60], 8, 14, false, aT [33, 9, 15, 21, 27]),
  (.aload_n 0, 9, 44, false, aC 0),
  (.getfield 10, 10, 45, false, aF 5 0 100 false),
  (.getfield 109, 11, 48, false, aF 0 8 9 false),
  (.iload_n 1, 12, 51, false, aC 0),
  (.iaload, 13, 52, false, aC 0),
  (.ireturn, 14, 53, false, aC 0),
  (.aload_n 0, 15, 54, false, aC 0),
  (.getfield 10, 16, 55, false, aF 5 0 100 false),
  (.getfield 112, 17, 58, false, aF 0 9 10 false),
  (.iload_n 1, 18, 61, false, aC 0),
  (.iaload, 19, 62, false, aC 0),
  (.ireturn, 20, 63, false, aC 0),
  (.aload_n 0, 21, 64, false, aC 0),
  (.getfield 10, 22, 65, false, aF 5 0 100 false),
  (.getfield 115, 23, 68, false, aF 0 10 11 false),
  (.iload_n 1, 24, 71, false, aC 0),
  (.iaload, 25, 72, false, aC 0),
  (.ireturn, 26, 73, false, aC 0),
  (.aload_n 0, 27, 74, false, aC 0),
  (.getfield 10, 28, 75, false, aF 5 0 100 false),
  (.getfield 118, 29, 78, false, aF 0 11 12 false),
  (.iload_n 1, 30, 81, false, aC 0),
  (.iaload, 31, 82, false, aC 0),
  (.ireturn, 32, 83, false, aC 0),
  (.iconst (-1), 33, 84, false, aC ((-1))),
  (.ireturn, 34, 85, false, aC 0)]
theorem ok_X5_of : okCode i_X5_of k_X5_of = true := by decide +kernel
/-- heads [] -/
def k_X5_rule : List Ins := [(.iload_n 1, 0, 0, false, aC 0),
  (.invokestatic 96, 1, 1, false, aM 104 1 true true 5),
  (.ifCond .eq 21, 2, 4, false, aT [13]),
  (.iload_n 3, 3, 7, false, aC 0),
  (.iconst 1, 4, 8, false, aC (nI 1)),
  (.if_icmp .lt 16, 5, 9, false, aT [13]),
  (.iload_n 3, 6, 12, false, aC 0),
  (.iconst 3, 7, 13, false, aC (nI 3)),
  (.if_icmp .gt 11, 8, 14, false, aT [13]),
  (.iload_n 2, 9, 17, false, aC 0),
  (.iload_n 3, 10, 18, false, aC 0),
  (.invokestatic 121, 11, 19, false, aM 106 2 true true 5),
  (.ifCond .ne 5, 12, 22, false, aT [15]),
  (.iconst (-1), 13, 25, false, aC ((-1))),
  (.ireturn, 14, 26, false, aC 0),
  (.aload_n 0, 15, 27, false, aC 0),
  (.getfield 10, 16, 28, false, aF 5 0 100 false),
  (.getfield 124, 17, 31, false, aF 0 12 13 false),
  (.iload_n 1, 18, 34, false, aC 0),
  (.iaload, 19, 35, false, aC 0),
  (.istore 4, 20, 36, false, aC 0),
  (.aload_n 0, 21, 38, false, aC 0),
  (.getfield 10, 22, 39, false, aF 5 0 100 false),
  (.iload_n 1, 23, 42, false, aC 0),
  (.iload_n 2, 24, 43, false, aC 0),
  (.iload_n 3, 25, 44, false, aC 0),
  (.invokevirtual 127, 26, 45, false, aM 10 3 false false 0),
  (.iload 4, 27, 48, false, aC 0),
  (.ireturn, 28, 50, false, aC 0)]
theorem ok_X5_rule : okCode i_X5_rule k_X5_rule = true := by decide +kernel
/-- heads [] -/
def k_X5_heir : List Ins := [(.aload_n 0, 0, 0, false, aC 0),
  (.getfield 10, 1, 1, false, aF 5 0 100 false),
  (.iload_n 1, 2, 4, false, aC 0),
  (.invokevirtual 65, 3, 5, false, aM 3 1 false true 0),
  (.ifCond .eq 10, 4, 8, false, aT [8]),
  (.iload_n 2, 5, 11, false, aC 0),
  (.invokestatic 96, 6, 12, false, aM 104 1 true true 5),
  (.ifCond .ne 5, 7, 15, false, aT [10]),
  (.iconst (-1), 8, 18, false, aC ((-1))),
  (.ireturn, 9, 19, false, aC 0),
  (.aload_n 0, 10, 20, false, aC 0),
  (.getfield 10, 11, 21, false, aF 5 0 100 false),
  (.iload_n 1, 12, 24, false, aC 0),
  (.invokevirtual 69, 13, 25, false, aM 4 1 false true 0),
  (.ifCond .ne 6, 14, 28, false, aT [17]),
  (.bipush (-2), 15, 31, false, aC ((-2))),
  (.ireturn, 16, 33, false, aC 0),
  (.aload_n 0, 17, 34, false, aC 0),
  (.getfield 10, 18, 35, false, aF 5 0 100 false),
  (.iload_n 1, 19, 38, false, aC 0),
  (.iload_n 2, 20, 39, false, aC 0),
  (.invokevirtual 131, 21, 40, false, aM 19 2 false true 0),
  (.istore_n 3, 22, 43, false, aC 0),
  (.iload_n 3, 23, 44, false, aC 0),
  (.bipush 12, 24, 45, false, aC (nI 12)),
  (.if_icmp .ne 8, 25, 47, false, aT [28]),
  (.bipush (-4), 26, 50, false, aC ((-4))),
  (.goto 4, 27, 52, false, aT [29]),
  (.iload_n 3, 28, 55, false, aC 0),
  (.ireturn, 29, 56, false, aC 0)]
theorem ok_X5_heir : okCode i_X5_heir k_X5_heir = true := by decide +kernel
/-- heads [] -/
def k_X5_type : List Ins := [(.aload_n 0, 0, 0, false, aC 0),
  (.getfield 25, 1, 1, false, aF 5 3 400 false),
  (.lload_n 1, 2, 4, false, aC 0),
  (.iload_n 3, 3, 5, false, aC 0),
  (.invokevirtual 134, 4, 6, false, aM 54 2 false true 4),
  (.ireturn, 5, 9, false, aC 0)]
theorem ok_X5_type : okCode i_X5_type k_X5_type = true := by decide +kernel
/-- heads [] -/
def k_X5_family : List Ins := [(.aload_n 0, 0, 0, false, aC 0),
  (.getfield 19, 1, 1, false, aF 5 2 300 false),
  (.aload_n 0, 2, 4, false, aC 0),
  (.getfield 10, 3, 5, false, aF 5 0 100 false),
  (.invokevirtual 138, 4, 8, false, aM 1 1 false false 0),
  (.aload_n 0, 5, 11, false, aC 0),
  (.getfield 19, 6, 12, false, aF 5 2 300 false),
  (.invokevirtual 142, 7, 15, false, aM 2 0 false false 0),
  (.aload_n 0, 8, 18, false, aC 0),
  (.getfield 25, 9, 19, false, aF 5 3 400 false),
  (.invokevirtual 145, 10, 22, false, aM 56 0 false false 4),
  (.aload_n 0, 11, 25, false, aC 0),
  (.getfield 25, 12, 26, false, aF 5 3 400 false),
  (.aload_n 0, 13, 29, false, aC 0),
  (.getfield 19, 14, 30, false, aF 5 2 300 false),
  (.invokevirtual 148, 15, 33, false, aM 63 1 false true 4),
  (.istore_n 1, 16, 36, false, aC 0),
  (.aload_n 0, 17, 37, false, aC 0),
  (.getfield 25, 18, 38, false, aF 5 3 400 false),
  (.invokevirtual 152, 19, 41, false, aM 59 0 false false 4),
  (.iload_n 1, 20, 44, false, aC 0),
  (.ifCond .le 14, 21, 45, false, aT [27]),
  (.aload_n 0, 22, 48, false, aC 0),
  (.getfield 10, 23, 49, false, aF 5 0 100 false),
  (.aload_n 0, 24, 52, false, aC 0),
  (.getfield 19, 25, 53, false, aF 5 2 300 false),
  (.invokevirtual 138, 26, 56, false, aM 1 1 false false 0),
  (.iload_n 1, 27, 59, false, aC 0),
  (.ireturn, 28, 60, false, aC 0)]
theorem ok_X5_family : okCode i_X5_family k_X5_family = true := by decide +kernel
/-- heads [] -/
def k_X5_rules : List Ins := [(.aload_n 0, 0, 0, false, aC 0),
  (.getfield 19, 1, 1, false, aF 5 2 300 false),
  (.aload_n 0, 2, 4, false, aC 0),
  (.getfield 10, 3, 5, false, aF 5 0 100 false),
  (.invokevirtual 138, 4, 8, false, aM 1 1 false false 0),
  (.aload_n 0, 5, 11, false, aC 0),
  (.getfield 25, 6, 12, false, aF 5 3 400 false),
  (.invokevirtual 145, 7, 15, false, aM 56 0 false false 4),
  (.aload_n 0, 8, 18, false, aC 0),
  (.getfield 25, 9, 19, false, aF 5 3 400 false),
  (.aload_n 0, 10, 22, false, aC 0),
  (.getfield 19, 11, 23, false, aF 5 2 300 false),
  (.invokevirtual 155, 12, 26, false, aM 68 1 false true 4),
  (.istore_n 1, 13, 29, false, aC 0),
  (.aload_n 0, 14, 30, false, aC 0),
  (.getfield 25, 15, 31, false, aF 5 3 400 false),
  (.invokevirtual 152, 16, 34, false, aM 59 0 false false 4),
  (.iload_n 1, 17, 37, false, aC 0),
  (.ifCond .le 14, 18, 38, false, aT [24]),
  (.aload_n 0, 19, 41, false, aC 0),
  (.getfield 10, 20, 42, false, aF 5 0 100 false),
  (.aload_n 0, 21, 45, false, aC 0),
  (.getfield 19, 22, 46, false, aF 5 2 300 false),
  (.invokevirtual 138, 23, 49, false, aM 1 1 false false 0),
  (.iload_n 1, 24, 52, false, aC 0),
  (.ireturn, 25, 53, false, aC 0)]
theorem ok_X5_rules : okCode i_X5_rules k_X5_rules = true := by decide +kernel
/-- heads [] -/
def k_X5_count : List Ins := [(.iload_n 1, 0, 0, false, aC 0),
  (.tableswitch 126 0 6 #[43, 51, 62, 70, 98, 108, 118], 1, 1, false, aT [43, 2, 6, 11, 15, 29, 34, 39]),
  (.aload_n 0, 2, 44, false, aC 0),
  (.getfield 10, 3, 45, false, aF 5 0 100 false),
  (.getfield 158, 4, 48, false, aF 0 0 0 false),
  (.ireturn, 5, 51, false, aC 0),
  (.aload_n 0, 6, 52, false, aC 0),
  (.getfield 10, 7, 53, false, aF 5 0 100 false),
  (.getfield 162, 8, 56, false, aF 0 1 0 false),
  (.invokestatic 165, 9, 59, false, aM 187 1 true true 7),
  (.ireturn, 10, 62, false, aC 0),
  (.aload_n 0, 11, 63, false, aC 0),
  (.getfield 10, 12, 64, false, aF 5 0 100 false),
  (.getfield 170, 13, 67, false, aF 0 7 0 false),
  (.ireturn, 14, 70, false, aC 0),
  (.aload_n 0, 15, 71, false, aC 0),
  (.getfield 10, 16, 72, false, aF 5 0 100 false),
  (.getfield 170, 17, 75, false, aF 0 7 0 false),
  (.aload_n 0, 18, 78, false, aC 0),
  (.getfield 10, 19, 79, false, aF 5 0 100 false),
  (.bipush 12, 20, 82, false, aC (nI 12)),
  (.invokevirtual 173, 21, 84, false, aM 21 1 false true 0),
  (.isub, 22, 87, false, aC 0),
  (.aload_n 0, 23, 88, false, aC 0),
  (.getfield 10, 24, 89, false, aF 5 0 100 false),
  (.bipush 13, 25, 92, false, aC (nI 13)),
  (.invokevirtual 173, 26, 94, false, aM 21 1 false true 0),
  (.isub, 27, 97, false, aC 0),
  (.ireturn, 28, 98, false, aC 0),
  (.aload_n 0, 29, 99, false, aC 0),
  (.getfield 10, 30, 100, false, aF 5 0 100 false),
  (.bipush 12, 31, 103, false, aC (nI 12)),
  (.invokevirtual 173, 32, 105, false, aM 21 1 false true 0),
  (.ireturn, 33, 108, false, aC 0),
  (.aload_n 0, 34, 109, false, aC 0),
  (.getfield 10, 35, 110, false, aF 5 0 100 false),
  (.bipush 13, 36, 113, false, aC (nI 13)),
  (.invokevirtual 173, 37, 115, false, aM 21 1 false true 0),
  (.ireturn, 38, 118, false, aC 0),
  (.aload_n 0, 39, 119, false, aC 0),
  (.getfield 10, 40, 120, false, aF 5 0 100 false),
  (.invokevirtual 176, 41, 123, false, aM 22 0 false true 0),
  (.ireturn, 42, 126, false, aC 0),
  (.iconst (-1), 43, 127, false, aC ((-1))),
  (.ireturn, 44, 128, false, aC 0)]
theorem ok_X5_count : okCode i_X5_count k_X5_count = true := by decide +kernel
/-- heads [] -/
def k_X5_dies : List Ins := [(.aload_n 0, 0, 0, false, aC 0),
  (.getfield 10, 1, 1, false, aF 5 0 100 false),
  (.iload_n 1, 2, 4, false, aC 0),
  (.invokevirtual 65, 3, 5, false, aM 3 1 false true 0),
  (.ifCond .ne 5, 4, 8, false, aT [7]),
  (.iconst (-1), 5, 11, false, aC ((-1))),
  (.ireturn, 6, 12, false, aC 0),
  (.aload_n 0, 7, 13, false, aC 0),
  (.getfield 10, 8, 14, false, aF 5 0 100 false),
  (.iload_n 1, 9, 17, false, aC 0),
  (.invokevirtual 69, 10, 18, false, aM 4 1 false true 0),
  (.ifCond .ne 6, 11, 21, false, aT [14]),
  (.bipush (-2), 12, 24, false, aC ((-2))),
  (.ireturn, 13, 26, false, aC 0),
  (.aload_n 0, 14, 27, false, aC 0),
  (.getfield 10, 15, 28, false, aF 5 0 100 false),
  (.iload_n 1, 16, 31, false, aC 0),
  (.invokevirtual 173, 17, 32, false, aM 21 1 false true 0),
  (.istore_n 2, 18, 35, false, aC 0),
  (.aload_n 0, 19, 36, false, aC 0),
  (.getfield 10, 20, 37, false, aF 5 0 100 false),
  (.iload_n 1, 21, 40, false, aC 0),
  (.invokevirtual 180, 22, 41, false, aM 26 1 false false 0),
  (.iload_n 2, 23, 44, false, aC 0),
  (.ireturn, 24, 45, false, aC 0)]
theorem ok_X5_dies : okCode i_X5_dies k_X5_dies = true := by decide +kernel
/-- heads [14] -/
def k_X5_gathers : List Ins := [(.iload_n 1, 0, 0, false, aC 0),
  (.ifCond .lt 16, 1, 1, false, aT [8]),
  (.iload_n 1, 2, 4, false, aC 0),
  (.bipush 12, 3, 5, false, aC (nI 12)),
  (.if_icmp .ge 10, 4, 7, false, aT [8]),
  (.iload_n 2, 5, 10, false, aC 0),
  (.invokestatic 96, 6, 11, false, aM 104 1 true true 5),
  (.ifCond .ne 5, 7, 14, false, aT [10]),
  (.iconst (-1), 8, 17, false, aC ((-1))),
  (.ireturn, 9, 18, false, aC 0),
  (.iconst 0, 10, 19, false, aC (nI 0)),
  (.istore_n 3, 11, 20, false, aC 0),
  (.iconst 0, 12, 21, false, aC (nI 0)),
  (.istore 4, 13, 22, false, aC 0),
  (.iload 4, 14, 24, true, aC 0),
  (.aload_n 0, 15, 26, false, aC 0),
  (.getfield 10, 16, 27, false, aF 5 0 100 false),
  (.getfield 170, 17, 30, false, aF 0 7 0 false),
  (.if_icmp .ge 49, 18, 33, false, aT [42]),
  (.aload_n 0, 19, 36, false, aC 0),
  (.getfield 10, 20, 37, false, aF 5 0 100 false),
  (.getfield 109, 21, 40, false, aF 0 8 9 false),
  (.iload 4, 22, 43, false, aC 0),
  (.iaload, 23, 45, false, aC 0),
  (.iload_n 2, 24, 46, false, aC 0),
  (.if_icmp .ne 29, 25, 47, false, aT [40]),
  (.aload_n 0, 26, 50, false, aC 0),
  (.getfield 10, 27, 51, false, aF 5 0 100 false),
  (.iload 4, 28, 54, false, aC 0),
  (.iload_n 1, 29, 56, false, aC 0),
  (.invokevirtual 184, 30, 57, false, aM 14 2 false true 0),
  (.ifCond .eq 16, 31, 60, false, aT [40]),
  (.iload_n 3, 32, 63, false, aC 0),
  (.aload_n 0, 33, 64, false, aC 0),
  (.getfield 10, 34, 65, false, aF 5 0 100 false),
  (.getfield 112, 35, 68, false, aF 0 9 10 false),
  (.iload 4, 36, 71, false, aC 0),
  (.iaload, 37, 73, false, aC 0),
  (.iadd, 38, 74, false, aC 0),
  (.istore_n 3, 39, 75, false, aC 0),
  (.iinc 4 1, 40, 76, false, aC (nI 1)),
  (.goto (-55), 41, 79, false, aT [14]),
  (.iload_n 3, 42, 82, false, aC 0),
  (.ireturn, 43, 83, false, aC 0)]
theorem ok_X5_gathers : okCode i_X5_gathers k_X5_gathers = true := by decide +kernel
/-- heads [] -/
def k_X5_balance : List Ins := [(.aload_n 0, 0, 0, false, aC 0),
  (.getfield 10, 1, 1, false, aF 5 0 100 false),
  (.iload_n 1, 2, 4, false, aC 0),
  (.invokevirtual 65, 3, 5, false, aM 3 1 false true 0),
  (.ifCond .ne 6, 4, 8, false, aT [7]),
  (.ldc 187, 5, 11, false, aC ((-100000001))),
  (.ireturn, 6, 13, false, aC 0),
  (.aload_n 0, 7, 14, false, aC 0),
  (.getfield 10, 8, 15, false, aF 5 0 100 false),
  (.iload_n 1, 9, 18, false, aC 0),
  (.invokevirtual 188, 10, 19, false, aM 23 1 false true 0),
  (.ireturn, 11, 22, false, aC 0)]
theorem ok_X5_balance : okCode i_X5_balance k_X5_balance = true := by decide +kernel
/-- heads [4] -/
def k_X5_paid : List Ins := [(.iconst 0, 0, 0, false, aC (nI 0)),
  (.istore_n 1, 1, 1, false, aC 0),
  (.iconst 0, 2, 2, false, aC (nI 0)),
  (.istore_n 2, 3, 3, false, aC 0),
  (.iload_n 2, 4, 4, true, aC 0),
  (.aload_n 0, 5, 5, false, aC 0),
  (.getfield 10, 6, 6, false, aF 5 0 100 false),
  (.getfield 158, 7, 9, false, aF 0 0 0 false),
  (.if_icmp .ge 24, 8, 12, false, aT [20]),
  (.iload_n 1, 9, 15, false, aC 0),
  (.iconst 0, 10, 16, false, aC (nI 0)),
  (.aload_n 0, 11, 17, false, aC 0),
  (.getfield 10, 12, 18, false, aF 5 0 100 false),
  (.iload_n 2, 13, 21, false, aC 0),
  (.invokevirtual 188, 14, 22, false, aM 23 1 false true 0),
  (.invokestatic 191, 15, 25, false, aM 901 2 true true 0),
  (.iadd, 16, 28, false, aC 0),
  (.istore_n 1, 17, 29, false, aC 0),
  (.iinc 2 1, 18, 30, false, aC (nI 1)),
  (.goto (-29), 19, 33, false, aT [4]),
  (.iload_n 1, 20, 36, false, aC 0),
  (.ireturn, 21, 37, false, aC 0)]
theorem ok_X5_paid : okCode i_X5_paid k_X5_paid = true := by decide +kernel
/-- heads [30] -/
def k_X5_orders : List Ins := [(.aload_n 0, 0, 0, false, aC 0),
  (.getfield 10, 1, 1, false, aF 5 0 100 false),
  (.iload_n 2, 2, 4, false, aC 0),
  (.invokevirtual 106, 3, 5, false, aM 6 1 false true 0),
  (.ifCond .eq 13, 4, 8, false, aT [10]),
  (.iload_n 3, 5, 11, false, aC 0),
  (.ifCond .lt 9, 6, 12, false, aT [10]),
  (.iload_n 3, 7, 15, false, aC 0),
  (.bipush 13, 8, 16, false, aC (nI 13)),
  (.if_icmp .le 5, 9, 18, false, aT [12]),
  (.iconst (-1), 10, 21, false, aC ((-1))),
  (.ireturn, 11, 22, false, aC 0),
  (.iload_n 1, 12, 23, false, aC 0),
  (.invokestatic 196, 13, 24, false, aM 33 1 true true 1),
  (.ifCond .eq 14, 14, 27, false, aT [20]),
  (.aload_n 0, 15, 30, false, aC 0),
  (.getfield 10, 16, 31, false, aF 5 0 100 false),
  (.iload_n 1, 17, 34, false, aC 0),
  (.invokevirtual 199, 18, 35, false, aM 7 1 false true 0),
  (.ifCond .ne 5, 19, 38, false, aT [22]),
  (.iconst (-1), 20, 41, false, aC ((-1))),
  (.ireturn, 21, 42, false, aC 0),
  (.aload_n 0, 22, 43, false, aC 0),
  (.getfield 39, 23, 44, false, aF 5 5 600 false),
  (.iload_n 1, 24, 47, false, aC 0),
  (.invokevirtual 202, 25, 48, false, aM 34 1 false false 1),
  (.iconst 0, 26, 51, false, aC (nI 0)),
  (.istore 4, 27, 52, false, aC 0),
  (.iconst 0, 28, 54, false, aC (nI 0)),
  (.istore 5, 29, 55, false, aC 0),
  (.iload 5, 30, 57, true, aC 0),
  (.aload_n 0, 31, 59, false, aC 0),
  (.getfield 39, 32, 60, false, aF 5 5 600 false),
  (.getfield 205, 33, 63, false, aF 1 4 0 false),
  (.if_icmp .ge 66, 34, 66, false, aT [63]),
  (.aload_n 0, 35, 69, false, aC 0),
  (.getfield 39, 36, 70, false, aF 5 5 600 false),
  (.iload 5, 37, 73, false, aC 0),
  (.invokevirtual 208, 38, 75, false, aM 35 1 false false 1),
  (.aload_n 0, 39, 78, false, aC 0),
  (.getfield 19, 40, 79, false, aF 5 2 300 false),
  (.aload_n 0, 41, 82, false, aC 0),
  (.getfield 10, 42, 83, false, aF 5 0 100 false),
  (.invokevirtual 138, 43, 86, false, aM 1 1 false false 0),
  (.aload_n 0, 44, 89, false, aC 0),
  (.getfield 19, 45, 90, false, aF 5 2 300 false),
  (.aload_n 0, 46, 93, false, aC 0),
  (.getfield 39, 47, 94, false, aF 5 5 600 false),
  (.getfield 211, 48, 97, false, aF 1 2 3 false),
  (.aload_n 0, 49, 100, false, aC 0),
  (.getfield 39, 50, 101, false, aF 5 5 600 false),
  (.getfield 214, 51, 104, false, aF 1 3 0 false),
  (.invokevirtual 217, 52, 107, false, aM 27 2 false false 0),
  (.aload_n 0, 53, 110, false, aC 0),
  (.getfield 19, 54, 111, false, aF 5 2 300 false),
  (.getfield 115, 55, 114, false, aF 0 10 11 false),
  (.iload_n 2, 56, 117, false, aC 0),
  (.iaload, 57, 118, false, aC 0),
  (.iload_n 3, 58, 119, false, aC 0),
  (.if_icmp .ne 6, 59, 120, false, aT [61]),
  (.iinc 4 1, 60, 123, false, aC (nI 1)),
  (.iinc 5 1, 61, 126, false, aC (nI 1)),
  (.goto (-72), 62, 129, false, aT [30]),
  (.iload 4, 63, 132, false, aC 0),
  (.ireturn, 64, 134, false, aC 0)]
theorem ok_X5_orders : okCode i_X5_orders k_X5_orders = true := by decide +kernel
/-- heads [25] -/
def k_X5_explained : List Ins := [(.iload_n 1, 0, 0, false, aC 0),
  (.invokestatic 196, 1, 1, false, aM 33 1 true true 1),
  (.ifCond .ne 5, 2, 4, false, aT [5]),
  (.iconst (-1), 3, 7, false, aC ((-1))),
  (.ireturn, 4, 8, false, aC 0),
  (.aload_n 0, 5, 9, false, aC 0),
  (.getfield 50, 6, 10, false, aF 5 7 0 true),
  (.ifCond .ne 6, 7, 13, false, aT [10]),
  (.bipush (-4), 8, 16, false, aC ((-4))),
  (.ireturn, 9, 18, false, aC 0),
  (.aload_n 0, 10, 19, false, aC 0),
  (.getfield 16, 11, 20, false, aF 5 1 200 false),
  (.iload_n 1, 12, 23, false, aC 0),
  (.invokevirtual 199, 13, 24, false, aM 7 1 false true 0),
  (.ifCond .ne 5, 14, 27, false, aT [17]),
  (.iconst (-1), 15, 30, false, aC ((-1))),
  (.ireturn, 16, 31, false, aC 0),
  (.aload_n 0, 17, 32, false, aC 0),
  (.getfield 39, 18, 33, false, aF 5 5 600 false),
  (.iload_n 1, 19, 36, false, aC 0),
  (.invokevirtual 202, 20, 37, false, aM 34 1 false false 1),
  (.iconst 0, 21, 40, false, aC (nI 0)),
  (.istore_n 2, 22, 41, false, aC 0),
  (.iconst 0, 23, 42, false, aC (nI 0)),
  (.istore_n 3, 24, 43, false, aC 0),
  (.iload_n 3, 25, 44, true, aC 0),
  (.aload_n 0, 26, 45, false, aC 0),
  (.getfield 39, 27, 46, false, aF 5 5 600 false),
  (.getfield 205, 28, 49, false, aF 1 4 0 false),
  (.if_icmp .ge 66, 29, 52, false, aT [57]),
  (.aload_n 0, 30, 55, false, aC 0),
  (.getfield 39, 31, 56, false, aF 5 5 600 false),
  (.iload_n 3, 32, 59, false, aC 0),
  (.invokevirtual 208, 33, 60, false, aM 35 1 false false 1),
  (.aload_n 0, 34, 63, false, aC 0),
  (.getfield 19, 35, 64, false, aF 5 2 300 false),
  (.aload_n 0, 36, 67, false, aC 0),
  (.getfield 16, 37, 68, false, aF 5 1 200 false),
  (.invokevirtual 138, 38, 71, false, aM 1 1 false false 0),
  (.aload_n 0, 39, 74, false, aC 0),
  (.getfield 19, 40, 75, false, aF 5 2 300 false),
  (.aload_n 0, 41, 78, false, aC 0),
  (.getfield 39, 42, 79, false, aF 5 5 600 false),
  (.getfield 211, 43, 82, false, aF 1 2 3 false),
  (.aload_n 0, 44, 85, false, aC 0),
  (.getfield 39, 45, 86, false, aF 5 5 600 false),
  (.getfield 214, 46, 89, false, aF 1 3 0 false),
  (.invokevirtual 217, 47, 92, false, aM 27 2 false false 0),
  (.aload_n 0, 48, 95, false, aC 0),
  (.getfield 19, 49, 96, false, aF 5 2 300 false),
  (.aload_n 0, 50, 99, false, aC 0),
  (.getfield 10, 51, 100, false, aF 5 0 100 false),
  (.invokevirtual 221, 52, 103, false, aM 28 1 false true 0),
  (.ifCond .eq 6, 53, 106, false, aT [55]),
  (.iinc 2 1, 54, 109, false, aC (nI 1)),
  (.iinc 3 1, 55, 112, false, aC (nI 1)),
  (.goto (-71), 56, 115, false, aT [25]),
  (.iload_n 2, 57, 118, false, aC 0),
  (.ireturn, 58, 119, false, aC 0)]
theorem ok_X5_explained : okCode i_X5_explained k_X5_explained = true := by decide +kernel
/-- heads [12] -/
def k_X5_lots : List Ins := [(.iload_n 1, 0, 0, false, aC 0),
  (.iconst 1, 1, 1, false, aC (nI 1)),
  (.if_icmp .lt 9, 2, 2, false, aT [6]),
  (.iload_n 1, 3, 5, false, aC 0),
  (.bipush 30, 4, 6, false, aC (nI 30)),
  (.if_icmp .le 5, 5, 8, false, aT [8]),
  (.iconst (-1), 6, 11, false, aC ((-1))),
  (.ireturn, 7, 12, false, aC 0),
  (.iconst 0, 8, 13, false, aC (nI 0)),
  (.istore_n 2, 9, 14, false, aC 0),
  (.iconst 0, 10, 15, false, aC (nI 0)),
  (.istore_n 3, 11, 16, false, aC 0),
  (.iload_n 3, 12, 17, true, aC 0),
  (.iload_n 1, 13, 18, false, aC 0),
  (.if_icmp .ge 19, 14, 19, false, aT [23]),
  (.iload_n 2, 15, 22, false, aC 0),
  (.aload_n 0, 16, 23, false, aC 0),
  (.getfield 10, 17, 24, false, aF 5 0 100 false),
  (.invokevirtual 225, 18, 27, false, aM 31 0 false true 0),
  (.iadd, 19, 30, false, aC 0),
  (.istore_n 2, 20, 31, false, aC 0),
  (.iinc 3 1, 21, 32, false, aC (nI 1)),
  (.goto (-18), 22, 35, false, aT [12]),
  (.iload_n 2, 23, 38, false, aC 0),
  (.ireturn, 24, 39, false, aC 0)]
theorem ok_X5_lots : okCode i_X5_lots k_X5_lots = true := by decide +kernel
/-- heads [] -/
def k_X5_seed : List Ins := [(.iload_n 1, 0, 0, false, aC 0),
  (.ifCond .ge 5, 1, 1, false, aT [4]),
  (.iconst (-1), 2, 4, false, aC ((-1))),
  (.ireturn, 3, 5, false, aC 0),
  (.aload_n 0, 4, 6, false, aC 0),
  (.getfield 10, 5, 7, false, aF 5 0 100 false),
  (.getfield 228, 6, 10, false, aF 0 14 0 false),
  (.istore_n 2, 7, 13, false, aC 0),
  (.aload_n 0, 8, 14, false, aC 0),
  (.getfield 10, 9, 15, false, aF 5 0 100 false),
  (.iload_n 1, 10, 18, false, aC 0),
  (.putfield 228, 11, 19, false, aF 0 14 0 false),
  (.iload_n 2, 12, 22, false, aC 0),
  (.ireturn, 13, 23, false, aC 0)]
theorem ok_X5_seed : okCode i_X5_seed k_X5_seed = true := by decide +kernel
/-- heads [] -/
def k_X5_image : List Ins := [(.aload_n 0, 0, 0, false, aC 0),
  (.getfield 16, 1, 1, false, aF 5 1 200 false),
  (.aload_n 0, 2, 4, false, aC 0),
  (.getfield 10, 3, 5, false, aF 5 0 100 false),
  (.invokevirtual 138, 4, 8, false, aM 1 1 false false 0),
  (.aload_n 0, 5, 11, false, aC 0),
  (.iconst 1, 6, 12, false, aC (nI 1)),
  (.putfield 50, 7, 13, false, aF 5 7 0 true),
  (.iconst 1, 8, 16, false, aC (nI 1)),
  (.ireturn, 9, 17, false, aC 0)]
theorem ok_X5_image : okCode i_X5_image k_X5_image = true := by decide +kernel
/-- heads [] -/
def k_X5_restore : List Ins := [(.aload_n 0, 0, 0, false, aC 0),
  (.getfield 50, 1, 1, false, aF 5 7 0 true),
  (.ifCond .ne 6, 2, 4, false, aT [5]),
  (.bipush (-4), 3, 7, false, aC ((-4))),
  (.ireturn, 4, 9, false, aC 0),
  (.aload_n 0, 5, 10, false, aC 0),
  (.getfield 10, 6, 11, false, aF 5 0 100 false),
  (.aload_n 0, 7, 14, false, aC 0),
  (.getfield 16, 8, 15, false, aF 5 1 200 false),
  (.invokevirtual 138, 9, 18, false, aM 1 1 false false 0),
  (.iconst 1, 10, 21, false, aC (nI 1)),
  (.ireturn, 11, 22, false, aC 0)]
theorem ok_X5_restore : okCode i_X5_restore k_X5_restore = true := by decide +kernel
/-- heads [] -/
def k_X5_judged : List Ins := [(.iload 4, 0, 0, false, aC 0),
  (.iconst 1, 1, 2, false, aC (nI 1)),
  (.if_icmp .lt 10, 2, 3, false, aT [6]),
  (.iload 4, 3, 6, false, aC 0),
  (.bipush 8, 4, 8, false, aC (nI 8)),
  (.if_icmp .le 5, 5, 10, false, aT [8]),
  (.iconst (-1), 6, 13, false, aC ((-1))),
  (.ireturn, 7, 14, false, aC 0),
  (.aload_n 0, 8, 15, false, aC 0),
  (.getfield 32, 9, 16, false, aF 5 4 500 false),
  (.iload_n 1, 10, 19, false, aC 0),
  (.iload_n 2, 11, 20, false, aC 0),
  (.iload_n 3, 12, 21, false, aC 0),
  (.iload 4, 13, 22, false, aC 0),
  (.invokevirtual 231, 14, 24, false, aM 41 4 false true 2),
  (.istore 5, 15, 27, false, aC 0),
  (.iload 5, 16, 29, false, aC 0),
  (.ifCond .eq 6, 17, 31, false, aT [20]),
  (.iload 5, 18, 34, false, aC 0),
  (.ireturn, 19, 36, false, aC 0),
  (.aload_n 0, 20, 37, false, aC 0),
  (.getfield 46, 21, 38, false, aF 5 6 700 false),
  (.aload_n 0, 22, 41, false, aC 0),
  (.getfield 32, 23, 42, false, aF 5 4 500 false),
  (.iload_n 1, 24, 45, false, aC 0),
  (.iload_n 3, 25, 46, false, aC 0),
  (.iload 4, 26, 47, false, aC 0),
  (.invokevirtual 234, 27, 49, false, aM 47 4 false false 3),
  (.aload_n 0, 28, 52, false, aC 0),
  (.getfield 46, 29, 53, false, aF 5 6 700 false),
  (.aload_n 0, 30, 56, false, aC 0),
  (.getfield 10, 31, 57, false, aF 5 0 100 false),
  (.getfield 162, 32, 60, false, aF 0 1 0 false),
  (.invokevirtual 238, 33, 63, false, aM 48 1 false true 3),
  (.istore 6, 34, 66, false, aC 0),
  (.iload 6, 35, 68, false, aC 0),
  (.iload 4, 36, 70, false, aC 0),
  (.if_icmp .ge 8, 37, 72, false, aT [40]),
  (.iload 6, 38, 75, false, aC 0),
  (.goto 5, 39, 77, false, aT [41]),
  (.bipush (-4), 40, 80, false, aC ((-4))),
  (.ireturn, 41, 82, false, aC 0)]
theorem ok_X5_judged : okCode i_X5_judged k_X5_judged = true := by decide +kernel
/-- heads [] -/
def k_X5_wed : List Ins := [(.aload_n 0, 0, 0, false, aC 0),
  (.getfield 10, 1, 1, false, aF 5 0 100 false),
  (.iload_n 1, 2, 4, false, aC 0),
  (.invokevirtual 106, 3, 5, false, aM 6 1 false true 0),
  (.ifCond .eq 13, 4, 8, false, aT [10]),
  (.iload_n 2, 5, 11, false, aC 0),
  (.ifCond .lt 9, 6, 12, false, aT [10]),
  (.iload_n 2, 7, 15, false, aC 0),
  (.bipush 12, 8, 16, false, aC (nI 12)),
  (.if_icmp .lt 5, 9, 18, false, aT [12]),
  (.iconst (-1), 10, 21, false, aC ((-1))),
  (.ireturn, 11, 22, false, aC 0),
  (.iload 6, 12, 23, false, aC 0),
  (.iconst 1, 13, 25, false, aC (nI 1)),
  (.if_icmp .lt 22, 14, 26, false, aT [24]),
  (.iload 6, 15, 29, false, aC 0),
  (.bipush 8, 16, 31, false, aC (nI 8)),
  (.if_icmp .gt 15, 17, 33, false, aT [24]),
  (.iload 7, 18, 36, false, aC 0),
  (.iconst (-1), 19, 38, false, aC ((-1))),
  (.if_icmp .lt 9, 20, 39, false, aT [24]),
  (.iload 7, 21, 42, false, aC 0),
  (.iconst 4, 22, 44, false, aC (nI 4)),
  (.if_icmp .lt 5, 23, 45, false, aT [26]),
  (.iconst (-1), 24, 48, false, aC ((-1))),
  (.ireturn, 25, 49, false, aC 0),
  (.aload_n 0, 26, 50, false, aC 0),
  (.getfield 32, 27, 51, false, aF 5 4 500 false),
  (.iload_n 3, 28, 54, false, aC 0),
  (.iload 4, 29, 55, false, aC 0),
  (.iload 5, 30, 57, false, aC 0),
  (.iload 6, 31, 59, false, aC 0),
  (.invokevirtual 231, 32, 61, false, aM 41 4 false true 2),
  (.istore 8, 33, 64, false, aC 0),
  (.iload 8, 34, 66, false, aC 0),
  (.ifCond .eq 6, 35, 68, false, aT [38]),
  (.iload 8, 36, 71, false, aC 0),
  (.ireturn, 37, 73, false, aC 0),
  (.aload_n 0, 38, 74, false, aC 0),
  (.getfield 46, 39, 75, false, aF 5 6 700 false),
  (.aload_n 0, 40, 78, false, aC 0),
  (.getfield 32, 41, 79, false, aF 5 4 500 false),
  (.iload_n 3, 42, 82, false, aC 0),
  (.iload 5, 43, 83, false, aC 0),
  (.iload 6, 44, 85, false, aC 0),
  (.invokevirtual 234, 45, 87, false, aM 47 4 false false 3),
  (.aload_n 0, 46, 90, false, aC 0),
  (.getfield 46, 47, 91, false, aF 5 6 700 false),
  (.aload_n 0, 48, 94, false, aC 0),
  (.getfield 10, 49, 95, false, aF 5 0 100 false),
  (.getfield 162, 50, 98, false, aF 0 1 0 false),
  (.invokevirtual 238, 51, 101, false, aM 48 1 false true 3),
  (.iload 6, 52, 104, false, aC 0),
  (.if_icmp .ge 6, 53, 106, false, aT [56]),
  (.bipush (-2), 54, 109, false, aC ((-2))),
  (.ireturn, 55, 111, false, aC 0),
  (.aload_n 0, 56, 112, false, aC 0),
  (.getfield 46, 57, 113, false, aF 5 6 700 false),
  (.aload_n 0, 58, 116, false, aC 0),
  (.getfield 10, 59, 117, false, aF 5 0 100 false),
  (.iload_n 1, 60, 120, false, aC 0),
  (.iload_n 2, 61, 121, false, aC 0),
  (.invokevirtual 241, 62, 122, false, aM 49 3 false true 3),
  (.istore 9, 63, 125, false, aC 0),
  (.iload 9, 64, 127, false, aC 0),
  (.ifCond .lt 8, 65, 129, false, aT [68]),
  (.iload 7, 66, 132, false, aC 0),
  (.ifCond .ge 6, 67, 134, false, aT [70]),
  (.iload 9, 68, 137, false, aC 0),
  (.ireturn, 69, 139, false, aC 0),
  (.iload 7, 70, 140, false, aC 0),
  (.iconst 2, 71, 142, false, aC (nI 2)),
  (.iload 9, 72, 143, false, aC 0),
  (.imul, 73, 145, false, aC 0),
  (.if_icmp .ge 16, 74, 146, false, aT [81]),
  (.aload_n 0, 75, 149, false, aC 0),
  (.getfield 46, 76, 150, false, aF 5 6 700 false),
  (.getfield 245, 77, 153, false, aF 3 3 4 false),
  (.iload 7, 78, 156, false, aC 0),
  (.iaload, 79, 158, false, aC 0),
  (.goto 5, 80, 159, false, aT [82]),
  (.bipush (-4), 81, 162, false, aC ((-4))),
  (.ireturn, 82, 164, false, aC 0)]
theorem ok_X5_wed : okCode i_X5_wed k_X5_wed = true := by decide +kernel
/-- heads [16] -/
def k_X5_film : List Ins := [(.aload_n 0, 0, 0, false, aC 0),
  (.getfield 32, 1, 1, false, aF 5 4 500 false),
  (.iload_n 1, 2, 4, false, aC 0),
  (.iload_n 2, 3, 5, false, aC 0),
  (.iload_n 3, 4, 6, false, aC 0),
  (.aload_n 0, 5, 7, false, aC 0),
  (.getfield 10, 6, 8, false, aF 5 0 100 false),
  (.getfield 170, 7, 11, false, aF 0 7 0 false),
  (.invokevirtual 231, 8, 14, false, aM 41 4 false true 2),
  (.istore 4, 9, 17, false, aC 0),
  (.iload 4, 10, 19, false, aC 0),
  (.ifCond .eq 6, 11, 21, false, aT [14]),
  (.iload 4, 12, 24, false, aC 0),
  (.ireturn, 13, 26, false, aC 0),
  (.iconst 0, 14, 27, false, aC (nI 0)),
  (.istore 5, 15, 28, false, aC 0),
  (.iload 5, 16, 30, true, aC 0),
  (.aload_n 0, 17, 32, false, aC 0),
  (.getfield 10, 18, 33, false, aF 5 0 100 false),
  (.getfield 170, 19, 36, false, aF 0 7 0 false),
  (.if_icmp .ge 31, 20, 39, false, aT [35]),
  (.aload_n 0, 21, 42, false, aC 0),
  (.getfield 32, 22, 43, false, aF 5 4 500 false),
  (.iload_n 1, 23, 46, false, aC 0),
  (.iload_n 3, 24, 47, false, aC 0),
  (.iload 5, 25, 48, false, aC 0),
  (.iadd, 26, 50, false, aC 0),
  (.aload_n 0, 27, 51, false, aC 0),
  (.getfield 10, 28, 52, false, aF 5 0 100 false),
  (.getfield 115, 29, 55, false, aF 0 10 11 false),
  (.iload 5, 30, 58, false, aC 0),
  (.iaload, 31, 60, false, aC 0),
  (.invokevirtual 248, 32, 61, false, aM 44 3 false false 2),
  (.iinc 5 1, 33, 64, false, aC (nI 1)),
  (.goto (-37), 34, 67, false, aT [16]),
  (.aload_n 0, 35, 70, false, aC 0),
  (.getfield 10, 36, 71, false, aF 5 0 100 false),
  (.getfield 170, 37, 74, false, aF 0 7 0 false),
  (.ireturn, 38, 77, false, aC 0)]
theorem ok_X5_film : okCode i_X5_film k_X5_film = true := by decide +kernel
/-- heads [] -/
def k_X5_sheet : List Ins := [(.iload_n 1, 0, 0, false, aC 0),
  (.invokestatic 250, 1, 1, false, aM 37 1 true true 2),
  (.ifCond .eq 16, 2, 4, false, aT [9]),
  (.iload_n 2, 3, 7, false, aC 0),
  (.invokestatic 253, 4, 8, false, aM 38 1 true true 2),
  (.ifCond .eq 9, 5, 11, false, aT [9]),
  (.iload_n 3, 6, 14, false, aC 0),
  (.bipush 24, 7, 15, false, aC (nI 24)),
  (.if_icmp .le 5, 8, 17, false, aT [11]),
  (.iconst (-1), 9, 20, false, aC ((-1))),
  (.ireturn, 10, 21, false, aC 0),
  (.iload_n 3, 11, 22, false, aC 0),
  (.ifCond .ge 6, 12, 23, false, aT [15]),
  (.bipush (-14), 13, 26, false, aC ((-14))),
  (.ireturn, 14, 28, false, aC 0),
  (.aload_n 0, 15, 29, false, aC 0),
  (.getfield 32, 16, 30, false, aF 5 4 500 false),
  (.iload_n 1, 17, 33, false, aC 0),
  (.iload_n 2, 18, 34, false, aC 0),
  (.iload_n 3, 19, 35, false, aC 0),
  (.invokevirtual 256, 20, 36, false, aM 42 3 false false 2),
  (.iload_n 3, 21, 39, false, aC 0),
  (.ireturn, 22, 40, false, aC 0)]
theorem ok_X5_sheet : okCode i_X5_sheet k_X5_sheet = true := by decide +kernel
/-- heads [] -/
def k_X5_drop : List Ins := [(.iload_n 1, 0, 0, false, aC 0),
  (.invokestatic 250, 1, 1, false, aM 37 1 true true 2),
  (.ifCond .ne 5, 2, 4, false, aT [5]),
  (.iconst (-1), 3, 7, false, aC ((-1))),
  (.ireturn, 4, 8, false, aC 0),
  (.aload_n 0, 5, 9, false, aC 0),
  (.getfield 32, 6, 10, false, aF 5 4 500 false),
  (.iload_n 1, 7, 13, false, aC 0),
  (.invokevirtual 259, 8, 14, false, aM 39 1 false true 2),
  (.ifCond .ne 6, 9, 17, false, aT [12]),
  (.bipush (-11), 10, 20, false, aC ((-11))),
  (.ireturn, 11, 22, false, aC 0),
  (.aload_n 0, 12, 23, false, aC 0),
  (.getfield 32, 13, 24, false, aF 5 4 500 false),
  (.getfield 262, 14, 27, false, aF 2 0 1 false),
  (.iload_n 1, 15, 30, false, aC 0),
  (.iconst (-1), 16, 31, false, aC ((-1))),
  (.iastore, 17, 32, false, aC 0),
  (.aload_n 0, 18, 33, false, aC 0),
  (.getfield 32, 19, 34, false, aF 5 4 500 false),
  (.getfield 265, 20, 37, false, aF 2 1 2 false),
  (.iload_n 1, 21, 40, false, aC 0),
  (.iaload, 22, 41, false, aC 0),
  (.ireturn, 23, 42, false, aC 0)]
theorem ok_X5_drop : okCode i_X5_drop k_X5_drop = true := by decide +kernel
/-- heads [] -/
def k_X5_item : List Ins := [(.aload_n 0, 0, 0, false, aC 0),
  (.getfield 32, 1, 1, false, aF 5 4 500 false),
  (.iload_n 1, 2, 4, false, aC 0),
  (.iload_n 2, 3, 5, false, aC 0),
  (.iload_n 3, 4, 6, false, aC 0),
  (.iconst 1, 5, 7, false, aC (nI 1)),
  (.invokevirtual 231, 6, 8, false, aM 41 4 false true 2),
  (.istore 5, 7, 11, false, aC 0),
  (.iload 5, 8, 13, false, aC 0),
  (.ifCond .eq 6, 9, 15, false, aT [12]),
  (.iload 5, 10, 18, false, aC 0),
  (.ireturn, 11, 20, false, aC 0),
  (.aload_n 0, 12, 21, false, aC 0),
  (.getfield 32, 13, 22, false, aF 5 4 500 false),
  (.iload_n 1, 14, 25, false, aC 0),
  (.iload_n 3, 15, 26, false, aC 0),
  (.iload 4, 16, 27, false, aC 0),
  (.invokevirtual 248, 17, 29, false, aM 44 3 false false 2),
  (.iconst 1, 18, 32, false, aC (nI 1)),
  (.ireturn, 19, 33, false, aC 0)]
theorem ok_X5_item : okCode i_X5_item k_X5_item = true := by decide +kernel
/-- heads [] -/
def k_X5_copy : List Ins := [(.iload_n 1, 0, 0, false, aC 0),
  (.invokestatic 250, 1, 1, false, aM 37 1 true true 2),
  (.ifCond .eq 10, 2, 4, false, aT [6]),
  (.iload_n 3, 3, 7, false, aC 0),
  (.invokestatic 250, 4, 8, false, aM 37 1 true true 2),
  (.ifCond .ne 5, 5, 11, false, aT [8]),
  (.iconst (-1), 6, 14, false, aC ((-1))),
  (.ireturn, 7, 15, false, aC 0),
  (.aload_n 0, 8, 16, false, aC 0),
  (.getfield 32, 9, 17, false, aF 5 4 500 false),
  (.iload_n 1, 10, 20, false, aC 0),
  (.invokevirtual 259, 11, 21, false, aM 39 1 false true 2),
  (.ifCond .eq 14, 12, 24, false, aT [18]),
  (.aload_n 0, 13, 27, false, aC 0),
  (.getfield 32, 14, 28, false, aF 5 4 500 false),
  (.iload_n 3, 15, 31, false, aC 0),
  (.invokevirtual 259, 16, 32, false, aM 39 1 false true 2),
  (.ifCond .ne 6, 17, 35, false, aT [20]),
  (.bipush (-11), 18, 38, false, aC ((-11))),
  (.ireturn, 19, 40, false, aC 0),
  (.aload_n 0, 20, 41, false, aC 0),
  (.getfield 32, 21, 42, false, aF 5 4 500 false),
  (.getfield 262, 22, 45, false, aF 2 0 1 false),
  (.iload_n 1, 23, 48, false, aC 0),
  (.iaload, 24, 49, false, aC 0),
  (.aload_n 0, 25, 50, false, aC 0),
  (.getfield 32, 26, 51, false, aF 5 4 500 false),
  (.getfield 262, 27, 54, false, aF 2 0 1 false),
  (.iload_n 3, 28, 57, false, aC 0),
  (.iaload, 29, 58, false, aC 0),
  (.if_icmp .eq 6, 30, 59, false, aT [33]),
  (.bipush (-12), 31, 62, false, aC ((-12))),
  (.ireturn, 32, 64, false, aC 0),
  (.aload_n 0, 33, 65, false, aC 0),
  (.getfield 32, 34, 66, false, aF 5 4 500 false),
  (.iload_n 1, 35, 69, false, aC 0),
  (.iload_n 2, 36, 70, false, aC 0),
  (.iload 5, 37, 71, false, aC 0),
  (.invokevirtual 268, 38, 73, false, aM 40 3 false true 2),
  (.ifCond .eq 18, 39, 76, false, aT [47]),
  (.aload_n 0, 40, 79, false, aC 0),
  (.getfield 32, 41, 80, false, aF 5 4 500 false),
  (.iload_n 3, 42, 83, false, aC 0),
  (.iload 4, 43, 84, false, aC 0),
  (.iload 5, 44, 86, false, aC 0),
  (.invokevirtual 268, 45, 88, false, aM 40 3 false true 2),
  (.ifCond .ne 6, 46, 91, false, aT [49]),
  (.bipush (-13), 47, 94, false, aC ((-13))),
  (.ireturn, 48, 96, false, aC 0),
  (.aload_n 0, 49, 97, false, aC 0),
  (.getfield 32, 50, 98, false, aF 5 4 500 false),
  (.iload_n 1, 51, 101, false, aC 0),
  (.iload_n 2, 52, 102, false, aC 0),
  (.iload_n 3, 53, 103, false, aC 0),
  (.iload 4, 54, 104, false, aC 0),
  (.iload 5, 55, 106, false, aC 0),
  (.invokevirtual 272, 56, 108, false, aM 45 5 false false 2),
  (.iload 5, 57, 111, false, aC 0),
  (.ireturn, 58, 113, false, aC 0)]
theorem ok_X5_copy : okCode i_X5_copy k_X5_copy = true := by decide +kernel
/-- heads [] -/
def k_X5_has : List Ins := [(.iload_n 0, 0, 0, false, aC 0),
  (.iload_n 1, 1, 1, false, aC 0),
  (.ishr, 2, 2, false, aC 0),
  (.iconst 1, 3, 3, false, aC (nI 1)),
  (.iand, 4, 4, false, aC 0),
  (.iconst 1, 5, 5, false, aC (nI 1)),
  (.if_icmp .ne 7, 6, 6, false, aT [9]),
  (.iconst 1, 7, 9, false, aC (nI 1)),
  (.goto 4, 8, 10, false, aT [10]),
  (.iconst 0, 9, 13, false, aC (nI 0)),
  (.ireturn, 10, 14, false, aC 0)]
theorem ok_X5_has : okCode i_X5_has k_X5_has = true := by decide +kernel
/-- heads [] -/
def k_X5_isKind : List Ins := [(.iload_n 0, 0, 0, false, aC 0),
  (.ifCond .lt 12, 1, 1, false, aT [7]),
  (.iload_n 0, 2, 4, false, aC 0),
  (.iconst 4, 3, 5, false, aC (nI 4)),
  (.if_icmp .ge 7, 4, 6, false, aT [7]),
  (.iconst 1, 5, 9, false, aC (nI 1)),
  (.goto 4, 6, 10, false, aT [8]),
  (.iconst 0, 7, 13, false, aC (nI 0)),
  (.ireturn, 8, 14, false, aC 0)]
theorem ok_X5_isKind : okCode i_X5_isKind k_X5_isKind = true := by decide +kernel
/-- heads [] -/
def k_X5_hasOtherSide : List Ins := [(.iload_n 0, 0, 0, false, aC 0),
  (.iconst 1, 1, 1, false, aC (nI 1)),
  (.if_icmp .eq 8, 2, 2, false, aT [6]),
  (.iload_n 0, 3, 5, false, aC 0),
  (.iconst 2, 4, 6, false, aC (nI 2)),
  (.if_icmp .ne 7, 5, 7, false, aT [8]),
  (.iconst 1, 6, 10, false, aC (nI 1)),
  (.goto 4, 7, 11, false, aT [9]),
  (.iconst 0, 8, 14, false, aC (nI 0)),
  (.ireturn, 9, 15, false, aC 0)]
theorem ok_X5_hasOtherSide : okCode i_X5_hasOtherSide k_X5_hasOtherSide = true := by decide +kernel
/-- heads [14] -/
def k_X5_isRow : List Ins := [(.iload_n 0, 0, 0, false, aC 0),
  (.ifCond .lt 11, 1, 1, false, aT [8]),
  (.iload_n 0, 2, 4, false, aC 0),
  (.iconst 3, 3, 5, false, aC (nI 3)),
  (.iload_n 1, 4, 6, false, aC 0),
  (.imul, 5, 7, false, aC 0),
  (.ishr, 6, 8, false, aC 0),
  (.ifCond .eq 5, 7, 9, false, aT [10]),
  (.iconst 0, 8, 12, false, aC (nI 0)),
  (.ireturn, 9, 13, false, aC 0),
  (.iconst 0, 10, 14, false, aC (nI 0)),
  (.istore_n 2, 11, 15, false, aC 0),
  (.iconst 0, 12, 16, false, aC (nI 0)),
  (.istore_n 3, 13, 17, false, aC 0),
  (.iload_n 3, 14, 18, true, aC 0),
  (.iload_n 1, 15, 19, false, aC 0),
  (.if_icmp .ge 43, 16, 20, false, aT [42]),
  (.iload_n 0, 17, 23, false, aC 0),
  (.iconst 3, 18, 24, false, aC (nI 3)),
  (.iload_n 3, 19, 25, false, aC 0),
  (.imul, 20, 26, false, aC 0),
  (.ishr, 21, 27, false, aC 0),
  (.bipush 7, 22, 28, false, aC (nI 7)),
  (.iand, 23, 30, false, aC 0),
  (.istore 4, 24, 31, false, aC 0),
  (.iload 4, 25, 33, false, aC 0),
  (.iconst 5, 26, 35, false, aC (nI 5)),
  (.if_icmp .gt 12, 27, 36, false, aT [32]),
  (.iload_n 2, 28, 39, false, aC 0),
  (.iload 4, 29, 40, false, aC 0),
  (.invokestatic 276, 30, 42, false, aM 103 2 true true 5),
  (.ifCond .eq 5, 31, 45, false, aT [34]),
  (.iconst 0, 32, 48, false, aC (nI 0)),
  (.ireturn, 33, 49, false, aC 0),
  (.iload_n 2, 34, 50, false, aC 0),
  (.iconst 1, 35, 51, false, aC (nI 1)),
  (.iload 4, 36, 52, false, aC 0),
  (.ishl, 37, 54, false, aC 0),
  (.ior, 38, 55, false, aC 0),
  (.istore_n 2, 39, 56, false, aC 0),
  (.iinc 3 1, 40, 57, false, aC (nI 1)),
  (.goto (-42), 41, 60, false, aT [14]),
  (.iconst 1, 42, 63, false, aC (nI 1)),
  (.ireturn, 43, 64, false, aC 0)]
theorem ok_X5_isRow : okCode i_X5_isRow k_X5_isRow = true := by decide +kernel
/-- heads [] -/
def k_J6_bitCount : List Ins := [(.iload_n 0, 0, 0, false, aC 0),
  (.iload_n 0, 1, 1, false, aC 0),
  (.iconst 1, 2, 2, false, aC (nI 1)),
  (.iushr, 3, 3, false, aC 0),
  (.ldc_w 265, 4, 4, false, aC (nI 1431655765)),
  (.iand, 5, 7, false, aC 0),
  (.isub, 6, 8, false, aC 0),
  (.istore_n 0, 7, 9, false, aC 0),
  (.iload_n 0, 8, 10, false, aC 0),
  (.ldc_w 266, 9, 11, false, aC (nI 858993459)),
  (.iand, 10, 14, false, aC 0),
  (.iload_n 0, 11, 15, false, aC 0),
  (.iconst 2, 12, 16, false, aC (nI 2)),
  (.iushr, 13, 17, false, aC 0),
  (.ldc_w 266, 14, 18, false, aC (nI 858993459)),
  (.iand, 15, 21, false, aC 0),
  (.iadd, 16, 22, false, aC 0),
  (.istore_n 0, 17, 23, false, aC 0),
  (.iload_n 0, 18, 24, false, aC 0),
  (.iload_n 0, 19, 25, false, aC 0),
  (.iconst 4, 20, 26, false, aC (nI 4)),
  (.iushr, 21, 27, false, aC 0),
  (.iadd, 22, 28, false, aC 0),
  (.ldc_w 267, 23, 29, false, aC (nI 252645135)),
  (.iand, 24, 32, false, aC 0),
  (.istore_n 0, 25, 33, false, aC 0),
  (.iload_n 0, 26, 34, false, aC 0),
  (.iload_n 0, 27, 35, false, aC 0),
  (.bipush 8, 28, 36, false, aC (nI 8)),
  (.iushr, 29, 38, false, aC 0),
  (.iadd, 30, 39, false, aC 0),
  (.istore_n 0, 31, 40, false, aC 0),
  (.iload_n 0, 32, 41, false, aC 0),
  (.iload_n 0, 33, 42, false, aC 0),
  (.bipush 16, 34, 43, false, aC (nI 16)),
  (.iushr, 35, 45, false, aC 0),
  (.iadd, 36, 46, false, aC 0),
  (.istore_n 0, 37, 47, false, aC 0),
  (.iload_n 0, 38, 48, false, aC 0),
  (.bipush 63, 39, 49, false, aC (nI 63)),
  (.iand, 40, 51, false, aC 0),
  (.ireturn, 41, 52, false, aC 0)]
theorem ok_J6_bitCount : okCode i_J6_bitCount k_J6_bitCount = true := by decide +kernel
end
section
/-- heads [] -/
def k_X6_in : List Ins := [(.lload_n 0, 0, 0, false, aC 0),
  (.lload_n 2, 1, 1, false, aC 0),
  (.lcmp, 2, 2, false, aC 0),
  (.ifCond .lt 14, 3, 3, false, aT [10]),
  (.lload_n 0, 4, 6, false, aC 0),
  (.lload 4, 5, 7, false, aC 0),
  (.lcmp, 6, 9, false, aC 0),
  (.ifCond .gt 7, 7, 10, false, aT [10]),
  (.iconst 1, 8, 13, false, aC (nI 1)),
  (.goto 4, 9, 14, false, aT [11]),
  (.iconst 0, 10, 17, false, aC (nI 0)),
  (.ireturn, 11, 18, false, aC 0)]
theorem ok_X6_in : okCode i_X6_in k_X6_in = true := by decide +kernel
/-- heads [] -/
def k_X6_has : List Ins := [(.iload_n 0, 0, 0, false, aC 0),
  (.iload_n 1, 1, 1, false, aC 0),
  (.ishr, 2, 2, false, aC 0),
  (.iconst 1, 3, 3, false, aC (nI 1)),
  (.iand, 4, 4, false, aC 0),
  (.iconst 1, 5, 5, false, aC (nI 1)),
  (.if_icmp .ne 7, 6, 6, false, aT [9]),
  (.iconst 1, 7, 9, false, aC (nI 1)),
  (.goto 4, 8, 10, false, aT [10]),
  (.iconst 0, 9, 13, false, aC (nI 0)),
  (.ireturn, 10, 14, false, aC 0)]
theorem ok_X6_has : okCode i_X6_has k_X6_has = true := by decide +kernel
/-- heads [4] -/
def k_X6_ones : List Ins := [(.iconst 0, 0, 0, false, aC (nI 0)),
  (.istore_n 1, 1, 1, false, aC 0),
  (.iload_n 0, 2, 2, false, aC 0),
  (.istore_n 2, 3, 3, false, aC 0),
  (.iload_n 2, 4, 4, true, aC 0),
  (.ifCond .eq 15, 5, 5, false, aT [14]),
  (.iinc 1 1, 6, 8, false, aC (nI 1)),
  (.iload_n 2, 7, 11, false, aC 0),
  (.iload_n 2, 8, 12, false, aC 0),
  (.iconst 1, 9, 13, false, aC (nI 1)),
  (.isub, 10, 14, false, aC 0),
  (.iand, 11, 15, false, aC 0),
  (.istore_n 2, 12, 16, false, aC 0),
  (.goto (-13), 13, 17, false, aT [4]),
  (.iload_n 1, 14, 20, false, aC 0),
  (.ireturn, 15, 21, false, aC 0)]
theorem ok_X6_ones : okCode i_X6_ones k_X6_ones = true := by decide +kernel
/-- heads [] -/
def k_X6_isOne : List Ins := [(.iload_n 1, 0, 0, false, aC 0),
  (.i2l, 1, 1, false, aC 0),
  (.lconst 0, 2, 2, false, aL 0),
  (.aload_n 0, 3, 3, false, aC 0),
  (.getfield 83, 4, 4, false, aF 6 6 0 false),
  (.iconst 1, 5, 7, false, aC (nI 1)),
  (.isub, 6, 8, false, aC 0),
  (.i2l, 7, 9, false, aC 0),
  (.invokestatic 86, 8, 10, false, aM 108 3 true true 6),
  (.ireturn, 9, 13, false, aC 0)]
theorem ok_X6_isOne : okCode i_X6_isOne k_X6_isOne = true := by decide +kernel
/-- heads [] -/
def k_X6_isThing : List Ins := [(.iload_n 1, 0, 0, false, aC 0),
  (.i2l, 1, 1, false, aC 0),
  (.lconst 0, 2, 2, false, aL 0),
  (.aload_n 0, 3, 3, false, aC 0),
  (.getfield 90, 4, 4, false, aF 6 11 0 false),
  (.iconst 1, 5, 7, false, aC (nI 1)),
  (.isub, 6, 8, false, aC 0),
  (.i2l, 7, 9, false, aC 0),
  (.invokestatic 86, 8, 10, false, aM 108 3 true true 6),
  (.ireturn, 9, 13, false, aC 0)]
theorem ok_X6_isThing : okCode i_X6_isThing k_X6_isThing = true := by decide +kernel
/-- heads [] -/
def k_X6_livesOne : List Ins := [(.aload_n 0, 0, 0, false, aC 0),
  (.iload_n 1, 1, 1, false, aC 0),
  (.invokevirtual 93, 2, 2, false, aM 111 1 false true 6),
  (.ifCond .eq 17, 3, 5, false, aT [12]),
  (.aload_n 0, 4, 8, false, aC 0),
  (.getfield 25, 5, 9, false, aF 6 5 6 false),
  (.iload_n 1, 6, 12, false, aC 0),
  (.iaload, 7, 13, false, aC 0),
  (.iconst 1, 8, 14, false, aC (nI 1)),
  (.if_icmp .ne 7, 9, 15, false, aT [12]),
  (.iconst 1, 10, 18, false, aC (nI 1)),
  (.goto 4, 11, 19, false, aT [13]),
  (.iconst 0, 12, 22, false, aC (nI 0)),
  (.ireturn, 13, 23, false, aC 0)]
theorem ok_X6_livesOne : okCode i_X6_livesOne k_X6_livesOne = true := by decide +kernel
/-- heads [] -/
def k_X6_add : List Ins := [(.aload_n 0, 0, 0, false, aC 0),
  (.getfield 7, 1, 1, false, aF 6 0 1 false),
  (.aload_n 0, 2, 4, false, aC 0),
  (.getfield 83, 3, 5, false, aF 6 6 0 false),
  (.iload_n 1, 4, 8, false, aC 0),
  (.iastore, 5, 9, false, aC 0),
  (.aload_n 0, 6, 10, false, aC 0),
  (.getfield 13, 7, 11, false, aF 6 1 2 false),
  (.aload_n 0, 8, 14, false, aC 0),
  (.getfield 83, 9, 15, false, aF 6 6 0 false),
  (.iload_n 2, 10, 18, false, aC 0),
  (.iastore, 11, 19, false, aC 0),
  (.aload_n 0, 12, 20, false, aC 0),
  (.getfield 16, 13, 21, false, aF 6 2 3 false),
  (.aload_n 0, 14, 24, false, aC 0),
  (.getfield 83, 15, 25, false, aF 6 6 0 false),
  (.iload_n 3, 16, 28, false, aC 0),
  (.iastore, 17, 29, false, aC 0),
  (.aload_n 0, 18, 30, false, aC 0),
  (.getfield 19, 19, 31, false, aF 6 3 4 false),
  (.aload_n 0, 20, 34, false, aC 0),
  (.getfield 83, 21, 35, false, aF 6 6 0 false),
  (.bipush 12, 22, 38, false, aC (nI 12)),
  (.iastore, 23, 40, false, aC 0),
  (.aload_n 0, 24, 41, false, aC 0),
  (.getfield 22, 25, 42, false, aF 6 4 5 false),
  (.aload_n 0, 26, 45, false, aC 0),
  (.getfield 83, 27, 46, false, aF 6 6 0 false),
  (.bipush 12, 28, 49, false, aC (nI 12)),
  (.iastore, 29, 51, false, aC 0),
  (.aload_n 0, 30, 52, false, aC 0),
  (.getfield 25, 31, 53, false, aF 6 5 6 false),
  (.aload_n 0, 32, 56, false, aC 0),
  (.getfield 83, 33, 57, false, aF 6 6 0 false),
  (.iconst 1, 34, 60, false, aC (nI 1)),
  (.iastore, 35, 61, false, aC 0),
  (.aload_n 0, 36, 62, false, aC 0),
  (.dup, 37, 63, false, aC 0),
  (.getfield 83, 38, 64, false, aF 6 6 0 false),
  (.iconst 1, 39, 67, false, aC (nI 1)),
  (.iadd, 40, 68, false, aC 0),
  (.putfield 83, 41, 69, false, aF 6 6 0 false),
  (.return_, 42, 72, false, aC 0)]
theorem ok_X6_add : okCode i_X6_add k_X6_add = true := by decide +kernel
/-- heads [] -/
def k_X6_isParent : List Ins := [(.iload_n 1, 0, 0, false, aC 0),
  (.bipush 12, 1, 1, false, aC (nI 12)),
  (.if_icmp .eq 21, 2, 3, false, aT [13]),
  (.aload_n 0, 3, 6, false, aC 0),
  (.iload_n 1, 4, 7, false, aC 0),
  (.invokevirtual 93, 5, 8, false, aM 111 1 false true 6),
  (.ifCond .eq 17, 6, 11, false, aT [15]),
  (.aload_n 0, 7, 14, false, aC 0),
  (.getfield 7, 8, 15, false, aF 6 0 1 false),
  (.iload_n 1, 9, 18, false, aC 0),
  (.iaload, 10, 19, false, aC 0),
  (.iload_n 2, 11, 20, false, aC 0),
  (.if_icmp .ne 7, 12, 21, false, aT [15]),
  (.iconst 1, 13, 24, false, aC (nI 1)),
  (.goto 4, 14, 25, false, aT [16]),
  (.iconst 0, 15, 28, false, aC (nI 0)),
  (.ireturn, 16, 29, false, aC 0)]
theorem ok_X6_isParent : okCode i_X6_isParent k_X6_isParent = true := by decide +kernel
/-- heads [] -/
def k_X6_person : List Ins := [(.iload_n 1, 0, 0, false, aC 0),
  (.i2l, 1, 1, false, aC 0),
  (.lconst 0, 2, 2, false, aL 0),
  (.lconst 1, 3, 3, false, aL 1),
  (.invokestatic 86, 4, 4, false, aM 108 3 true true 6),
  (.ifCond .eq 21, 5, 7, false, aT [16]),
  (.aload_n 0, 6, 10, false, aC 0),
  (.iload_n 2, 7, 11, false, aC 0),
  (.iconst 0, 8, 12, false, aC (nI 0)),
  (.invokevirtual 97, 9, 13, false, aM 115 2 false true 6),
  (.ifCond .eq 12, 10, 16, false, aT [16]),
  (.aload_n 0, 11, 19, false, aC 0),
  (.iload_n 3, 12, 20, false, aC 0),
  (.iconst 1, 13, 21, false, aC (nI 1)),
  (.invokevirtual 97, 14, 22, false, aM 115 2 false true 6),
  (.ifCond .ne 5, 15, 25, false, aT [18]),
  (.iconst (-1), 16, 28, false, aC ((-1))),
  (.ireturn, 17, 29, false, aC 0),
  (.aload_n 0, 18, 30, false, aC 0),
  (.getfield 83, 19, 31, false, aF 6 6 0 false),
  (.bipush 12, 20, 34, false, aC (nI 12)),
  (.if_icmp .ne 6, 21, 36, false, aT [24]),
  (.bipush (-3), 22, 39, false, aC ((-3))),
  (.ireturn, 23, 41, false, aC 0),
  (.aload_n 0, 24, 42, false, aC 0),
  (.iload_n 1, 25, 43, false, aC 0),
  (.iload_n 2, 26, 44, false, aC 0),
  (.iload_n 3, 27, 45, false, aC 0),
  (.invokevirtual 101, 28, 46, false, aM 114 3 false false 6),
  (.aload_n 0, 29, 49, false, aC 0),
  (.getfield 83, 30, 50, false, aF 6 6 0 false),
  (.iconst 1, 31, 53, false, aC (nI 1)),
  (.isub, 32, 54, false, aC 0),
  (.ireturn, 33, 55, false, aC 0)]
theorem ok_X6_person : okCode i_X6_person k_X6_person = true := by decide +kernel
/-- heads [] -/
def k_X6_areAlike : List Ins := [(.iload_n 0, 0, 0, false, aC 0),
  (.bipush 12, 1, 1, false, aC (nI 12)),
  (.if_icmp .eq 12, 2, 3, false, aT [8]),
  (.iload_n 0, 3, 6, false, aC 0),
  (.iload_n 1, 4, 7, false, aC 0),
  (.if_icmp .ne 7, 5, 8, false, aT [8]),
  (.iconst 1, 6, 11, false, aC (nI 1)),
  (.goto 4, 7, 12, false, aT [9]),
  (.iconst 0, 8, 15, false, aC (nI 0)),
  (.ireturn, 9, 16, false, aC 0)]
theorem ok_X6_areAlike : okCode i_X6_areAlike k_X6_areAlike = true := by decide +kernel
/-- heads [] -/
def k_X6_areSiblings : List Ins := [(.iload_n 1, 0, 0, false, aC 0),
  (.iload_n 2, 1, 1, false, aC 0),
  (.if_icmp .eq 43, 2, 2, false, aT [25]),
  (.aload_n 0, 3, 5, false, aC 0),
  (.getfield 13, 4, 6, false, aF 6 1 2 false),
  (.iload_n 1, 5, 9, false, aC 0),
  (.iaload, 6, 10, false, aC 0),
  (.aload_n 0, 7, 11, false, aC 0),
  (.getfield 13, 8, 12, false, aF 6 1 2 false),
  (.iload_n 2, 9, 15, false, aC 0),
  (.iaload, 10, 16, false, aC 0),
  (.invokestatic 105, 11, 17, false, aM 117 2 true true 6),
  (.ifCond .ne 21, 12, 20, false, aT [23]),
  (.aload_n 0, 13, 23, false, aC 0),
  (.getfield 16, 14, 24, false, aF 6 2 3 false),
  (.iload_n 1, 15, 27, false, aC 0),
  (.iaload, 16, 28, false, aC 0),
  (.aload_n 0, 17, 29, false, aC 0),
  (.getfield 16, 18, 30, false, aF 6 2 3 false),
  (.iload_n 2, 19, 33, false, aC 0),
  (.iaload, 20, 34, false, aC 0),
  (.invokestatic 105, 21, 35, false, aM 117 2 true true 6),
  (.ifCond .eq 7, 22, 38, false, aT [25]),
  (.iconst 1, 23, 41, false, aC (nI 1)),
  (.goto 4, 24, 42, false, aT [26]),
  (.iconst 0, 25, 45, false, aC (nI 0)),
  (.ireturn, 26, 46, false, aC 0)]
theorem ok_X6_areSiblings : okCode i_X6_areSiblings k_X6_areSiblings = true := by decide +kernel
/-- heads [] -/
def k_X6_isChild : List Ins := [(.aload_n 0, 0, 0, false, aC 0),
  (.getfield 13, 1, 1, false, aF 6 1 2 false),
  (.iload_n 1, 2, 4, false, aC 0),
  (.iaload, 3, 5, false, aC 0),
  (.iload_n 2, 4, 6, false, aC 0),
  (.if_icmp .eq 13, 5, 7, false, aT [12]),
  (.aload_n 0, 6, 10, false, aC 0),
  (.getfield 16, 7, 11, false, aF 6 2 3 false),
  (.iload_n 1, 8, 14, false, aC 0),
  (.iaload, 9, 15, false, aC 0),
  (.iload_n 2, 10, 16, false, aC 0),
  (.if_icmp .ne 7, 11, 17, false, aT [14]),
  (.iconst 1, 12, 20, false, aC (nI 1)),
  (.goto 4, 13, 21, false, aT [15]),
  (.iconst 0, 14, 24, false, aC (nI 0)),
  (.ireturn, 15, 25, false, aC 0)]
theorem ok_X6_isChild : okCode i_X6_isChild k_X6_isChild = true := by decide +kernel
/-- heads [] -/
def k_X6_canMarry : List Ins := [(.aload_n 0, 0, 0, false, aC 0),
  (.getfield 25, 1, 1, false, aF 6 5 6 false),
  (.iload_n 1, 2, 4, false, aC 0),
  (.iaload, 3, 5, false, aC 0),
  (.iconst 1, 4, 6, false, aC (nI 1)),
  (.if_icmp .ne 39, 5, 7, false, aT [26]),
  (.aload_n 0, 6, 10, false, aC 0),
  (.getfield 25, 7, 11, false, aF 6 5 6 false),
  (.iload_n 2, 8, 14, false, aC 0),
  (.iaload, 9, 15, false, aC 0),
  (.iconst 1, 10, 16, false, aC (nI 1)),
  (.if_icmp .ne 29, 11, 17, false, aT [26]),
  (.aload_n 0, 12, 20, false, aC 0),
  (.getfield 19, 13, 21, false, aF 6 3 4 false),
  (.iload_n 1, 14, 24, false, aC 0),
  (.iaload, 15, 25, false, aC 0),
  (.bipush 12, 16, 26, false, aC (nI 12)),
  (.if_icmp .ne 18, 17, 28, false, aT [26]),
  (.aload_n 0, 18, 31, false, aC 0),
  (.getfield 19, 19, 32, false, aF 6 3 4 false),
  (.iload_n 2, 20, 35, false, aC 0),
  (.iaload, 21, 36, false, aC 0),
  (.bipush 12, 22, 37, false, aC (nI 12)),
  (.if_icmp .ne 7, 23, 39, false, aT [26]),
  (.iconst 1, 24, 42, false, aC (nI 1)),
  (.goto 4, 25, 43, false, aT [27]),
  (.iconst 0, 26, 46, false, aC (nI 0)),
  (.istore_n 3, 27, 47, false, aC 0),
  (.iload_n 3, 28, 48, false, aC 0),
  (.ifCond .eq 34, 29, 49, false, aT [47]),
  (.aload_n 0, 30, 52, false, aC 0),
  (.iload_n 1, 31, 53, false, aC 0),
  (.iload_n 2, 32, 54, false, aC 0),
  (.invokevirtual 108, 33, 55, false, aM 118 2 false true 6),
  (.ifCond .ne 25, 34, 58, false, aT [47]),
  (.aload_n 0, 35, 61, false, aC 0),
  (.iload_n 1, 36, 62, false, aC 0),
  (.iload_n 2, 37, 63, false, aC 0),
  (.invokevirtual 111, 38, 64, false, aM 119 2 false true 6),
  (.ifCond .ne 16, 39, 67, false, aT [47]),
  (.aload_n 0, 40, 70, false, aC 0),
  (.iload_n 2, 41, 71, false, aC 0),
  (.iload_n 1, 42, 72, false, aC 0),
  (.invokevirtual 111, 43, 73, false, aM 119 2 false true 6),
  (.ifCond .ne 7, 44, 76, false, aT [47]),
  (.iconst 1, 45, 79, false, aC (nI 1)),
  (.goto 4, 46, 80, false, aT [48]),
  (.iconst 0, 47, 83, false, aC (nI 0)),
  (.ireturn, 48, 84, false, aC 0)]
theorem ok_X6_canMarry : okCode i_X6_canMarry k_X6_canMarry = true := by decide +kernel
/-- heads [] -/
def k_X6_marryNow : List Ins := [(.aload_n 0, 0, 0, false, aC 0),
  (.getfield 19, 1, 1, false, aF 6 3 4 false),
  (.iload_n 1, 2, 4, false, aC 0),
  (.iload_n 2, 3, 5, false, aC 0),
  (.iastore, 4, 6, false, aC 0),
  (.aload_n 0, 5, 7, false, aC 0),
  (.getfield 19, 6, 8, false, aF 6 3 4 false),
  (.iload_n 2, 7, 11, false, aC 0),
  (.iload_n 1, 8, 12, false, aC 0),
  (.iastore, 9, 13, false, aC 0),
  (.return_, 10, 14, false, aC 0)]
theorem ok_X6_marryNow : okCode i_X6_marryNow k_X6_marryNow = true := by decide +kernel
/-- heads [] -/
def k_X6_marry : List Ins := [(.aload_n 0, 0, 0, false, aC 0),
  (.iload_n 1, 1, 1, false, aC 0),
  (.invokevirtual 93, 2, 2, false, aM 111 1 false true 6),
  (.ifCond .eq 30, 3, 5, false, aT [19]),
  (.aload_n 0, 4, 8, false, aC 0),
  (.iload_n 2, 5, 9, false, aC 0),
  (.invokevirtual 93, 6, 10, false, aM 111 1 false true 6),
  (.ifCond .eq 22, 7, 13, false, aT [19]),
  (.aload_n 0, 8, 16, false, aC 0),
  (.getfield 7, 9, 17, false, aF 6 0 1 false),
  (.iload_n 1, 10, 20, false, aC 0),
  (.iaload, 11, 21, false, aC 0),
  (.ifCond .ne 13, 12, 22, false, aT [19]),
  (.aload_n 0, 13, 25, false, aC 0),
  (.getfield 7, 14, 26, false, aF 6 0 1 false),
  (.iload_n 2, 15, 29, false, aC 0),
  (.iaload, 16, 30, false, aC 0),
  (.iconst 1, 17, 31, false, aC (nI 1)),
  (.if_icmp .eq 5, 18, 32, false, aT [21]),
  (.iconst (-1), 19, 35, false, aC ((-1))),
  (.ireturn, 20, 36, false, aC 0),
  (.aload_n 0, 21, 37, false, aC 0),
  (.iload_n 1, 22, 38, false, aC 0),
  (.iload_n 2, 23, 39, false, aC 0),
  (.invokevirtual 114, 24, 40, false, aM 120 2 false true 6),
  (.ifCond .ne 6, 25, 43, false, aT [28]),
  (.bipush (-2), 26, 46, false, aC ((-2))),
  (.ireturn, 27, 48, false, aC 0),
  (.aload_n 0, 28, 49, false, aC 0),
  (.iload_n 1, 29, 50, false, aC 0),
  (.iload_n 2, 30, 51, false, aC 0),
  (.invokevirtual 117, 31, 52, false, aM 121 2 false false 6),
  (.iconst 1, 32, 55, false, aC (nI 1)),
  (.ireturn, 33, 56, false, aC 0)]
theorem ok_X6_marry : okCode i_X6_marry k_X6_marry = true := by decide +kernel
/-- heads [] -/
def k_X6_adopt : List Ins := [(.aload_n 0, 0, 0, false, aC 0),
  (.iload_n 1, 1, 1, false, aC 0),
  (.invokevirtual 93, 2, 2, false, aM 111 1 false true 6),
  (.ifCond .eq 25, 3, 5, false, aT [16]),
  (.aload_n 0, 4, 8, false, aC 0),
  (.iload_n 2, 5, 9, false, aC 0),
  (.invokevirtual 93, 6, 10, false, aM 111 1 false true 6),
  (.ifCond .eq 17, 7, 13, false, aT [16]),
  (.aload_n 0, 8, 16, false, aC 0),
  (.getfield 7, 9, 17, false, aF 6 0 1 false),
  (.iload_n 2, 10, 20, false, aC 0),
  (.iaload, 11, 21, false, aC 0),
  (.ifCond .ne 8, 12, 22, false, aT [16]),
  (.iload_n 2, 13, 25, false, aC 0),
  (.iload_n 1, 14, 26, false, aC 0),
  (.if_icmp .lt 5, 15, 27, false, aT [18]),
  (.iconst (-1), 16, 30, false, aC ((-1))),
  (.ireturn, 17, 31, false, aC 0),
  (.aload_n 0, 18, 32, false, aC 0),
  (.getfield 25, 19, 33, false, aF 6 5 6 false),
  (.iload_n 1, 20, 36, false, aC 0),
  (.iaload, 21, 37, false, aC 0),
  (.ifCond .eq 12, 22, 38, false, aT [28]),
  (.aload_n 0, 23, 41, false, aC 0),
  (.getfield 25, 24, 42, false, aF 6 5 6 false),
  (.iload_n 2, 25, 45, false, aC 0),
  (.iaload, 26, 46, false, aC 0),
  (.ifCond .ne 6, 27, 47, false, aT [30]),
  (.bipush (-2), 28, 50, false, aC ((-2))),
  (.ireturn, 29, 52, false, aC 0),
  (.aload_n 0, 30, 53, false, aC 0),
  (.getfield 13, 31, 54, false, aF 6 1 2 false),
  (.iload_n 1, 32, 57, false, aC 0),
  (.iaload, 33, 58, false, aC 0),
  (.istore_n 3, 34, 59, false, aC 0),
  (.aload_n 0, 35, 60, false, aC 0),
  (.getfield 13, 36, 61, false, aF 6 1 2 false),
  (.iload_n 1, 37, 64, false, aC 0),
  (.iload_n 2, 38, 65, false, aC 0),
  (.iastore, 39, 66, false, aC 0),
  (.iload_n 3, 40, 67, false, aC 0),
  (.ireturn, 41, 68, false, aC 0)]
theorem ok_X6_adopt : okCode i_X6_adopt k_X6_adopt = true := by decide +kernel
/-- heads [] -/
def k_X6_god : List Ins := [(.aload_n 0, 0, 0, false, aC 0),
  (.iload_n 1, 1, 1, false, aC 0),
  (.invokevirtual 93, 2, 2, false, aM 111 1 false true 6),
  (.ifCond .eq 22, 3, 5, false, aT [14]),
  (.iload_n 2, 4, 8, false, aC 0),
  (.bipush 12, 5, 9, false, aC (nI 12)),
  (.if_icmp .eq 11, 6, 11, false, aT [11]),
  (.aload_n 0, 7, 14, false, aC 0),
  (.iload_n 2, 8, 15, false, aC 0),
  (.invokevirtual 93, 9, 16, false, aM 111 1 false true 6),
  (.ifCond .eq 8, 10, 19, false, aT [14]),
  (.iload_n 2, 11, 22, false, aC 0),
  (.iload_n 1, 12, 23, false, aC 0),
  (.if_icmp .ne 5, 13, 24, false, aT [16]),
  (.iconst (-1), 14, 27, false, aC ((-1))),
  (.ireturn, 15, 28, false, aC 0),
  (.aload_n 0, 16, 29, false, aC 0),
  (.getfield 22, 17, 30, false, aF 6 4 5 false),
  (.iload_n 1, 18, 33, false, aC 0),
  (.iaload, 19, 34, false, aC 0),
  (.istore_n 3, 20, 35, false, aC 0),
  (.aload_n 0, 21, 36, false, aC 0),
  (.getfield 22, 22, 37, false, aF 6 4 5 false),
  (.iload_n 1, 23, 40, false, aC 0),
  (.iload_n 2, 24, 41, false, aC 0),
  (.iastore, 25, 42, false, aC 0),
  (.iload_n 3, 26, 43, false, aC 0),
  (.ireturn, 27, 44, false, aC 0)]
theorem ok_X6_god : okCode i_X6_god k_X6_god = true := by decide +kernel
/-- heads [4] -/
def k_X6_houseOf : List Ins := [(.iload_n 1, 0, 0, false, aC 0),
  (.istore_n 2, 1, 1, false, aC 0),
  (.iconst 1, 2, 2, false, aC (nI 1)),
  (.istore_n 3, 3, 3, false, aC 0),
  (.iload_n 3, 4, 4, true, aC 0),
  (.ifCond .eq 68, 5, 5, false, aT [42]),
  (.aload_n 0, 6, 8, false, aC 0),
  (.getfield 7, 7, 9, false, aF 6 0 1 false),
  (.iload_n 2, 8, 12, false, aC 0),
  (.iaload, 9, 13, false, aC 0),
  (.iconst 1, 10, 14, false, aC (nI 1)),
  (.if_icmp .ne 23, 11, 15, false, aT [23]),
  (.aload_n 0, 12, 18, false, aC 0),
  (.getfield 19, 13, 19, false, aF 6 3 4 false),
  (.iload_n 2, 14, 22, false, aC 0),
  (.iaload, 15, 23, false, aC 0),
  (.bipush 12, 16, 24, false, aC (nI 12)),
  (.if_icmp .eq 12, 17, 26, false, aT [23]),
  (.aload_n 0, 18, 29, false, aC 0),
  (.getfield 19, 19, 30, false, aF 6 3 4 false),
  (.iload_n 2, 20, 33, false, aC 0),
  (.iaload, 21, 34, false, aC 0),
  (.goto 9, 22, 35, false, aT [27]),
  (.aload_n 0, 23, 38, false, aC 0),
  (.getfield 13, 24, 39, false, aF 6 1 2 false),
  (.iload_n 2, 25, 42, false, aC 0),
  (.iaload, 26, 43, false, aC 0),
  (.istore 4, 27, 44, false, aC 0),
  (.iload 4, 28, 46, false, aC 0),
  (.bipush 12, 29, 48, false, aC (nI 12)),
  (.if_icmp .eq 7, 30, 50, false, aT [33]),
  (.iconst 1, 31, 53, false, aC (nI 1)),
  (.goto 4, 32, 54, false, aT [34]),
  (.iconst 0, 33, 57, false, aC (nI 0)),
  (.istore_n 3, 34, 58, false, aC 0),
  (.iload_n 3, 35, 59, false, aC 0),
  (.ifCond .eq 8, 36, 60, false, aT [39]),
  (.iload 4, 37, 63, false, aC 0),
  (.goto 4, 38, 65, false, aT [40]),
  (.iload_n 2, 39, 68, false, aC 0),
  (.istore_n 2, 40, 69, false, aC 0),
  (.goto (-66), 41, 70, false, aT [4]),
  (.iload_n 2, 42, 73, false, aC 0),
  (.ireturn, 43, 74, false, aC 0)]
theorem ok_X6_houseOf : okCode i_X6_houseOf k_X6_houseOf = true := by decide +kernel
/-- heads [] -/
def k_X6_told : List Ins := [(.aload_n 0, 0, 0, false, aC 0),
  (.iload_n 1, 1, 1, false, aC 0),
  (.invokevirtual 93, 2, 2, false, aM 111 1 false true 6),
  (.ifCond .ne 5, 3, 5, false, aT [6]),
  (.iconst (-1), 4, 8, false, aC ((-1))),
  (.ireturn, 5, 9, false, aC 0),
  (.iload_n 2, 6, 10, false, aC 0),
  (.tableswitch 89 0 6 #[41, 48, 55, 62, 69, 76, 83], 7, 11, false, aT [42, 8, 13, 18, 23, 28, 33, 38]),
  (.aload_n 0, 8, 52, false, aC 0),
  (.getfield 7, 9, 53, false, aF 6 0 1 false),
  (.iload_n 1, 10, 56, false, aC 0),
  (.iaload, 11, 57, false, aC 0),
  (.ireturn, 12, 58, false, aC 0),
  (.aload_n 0, 13, 59, false, aC 0),
  (.getfield 25, 14, 60, false, aF 6 5 6 false),
  (.iload_n 1, 15, 63, false, aC 0),
  (.iaload, 16, 64, false, aC 0),
  (.ireturn, 17, 65, false, aC 0),
  (.aload_n 0, 18, 66, false, aC 0),
  (.getfield 13, 19, 67, false, aF 6 1 2 false),
  (.iload_n 1, 20, 70, false, aC 0),
  (.iaload, 21, 71, false, aC 0),
  (.ireturn, 22, 72, false, aC 0),
  (.aload_n 0, 23, 73, false, aC 0),
  (.getfield 16, 24, 74, false, aF 6 2 3 false),
  (.iload_n 1, 25, 77, false, aC 0),
  (.iaload, 26, 78, false, aC 0),
  (.ireturn, 27, 79, false, aC 0),
  (.aload_n 0, 28, 80, false, aC 0),
  (.getfield 19, 29, 81, false, aF 6 3 4 false),
  (.iload_n 1, 30, 84, false, aC 0),
  (.iaload, 31, 85, false, aC 0),
  (.ireturn, 32, 86, false, aC 0),
  (.aload_n 0, 33, 87, false, aC 0),
  (.getfield 22, 34, 88, false, aF 6 4 5 false),
  (.iload_n 1, 35, 91, false, aC 0),
  (.iaload, 36, 92, false, aC 0),
  (.ireturn, 37, 93, false, aC 0),
  (.aload_n 0, 38, 94, false, aC 0),
  (.iload_n 1, 39, 95, false, aC 0),
  (.invokevirtual 121, 40, 96, false, aM 125 1 false true 6),
  (.ireturn, 41, 99, false, aC 0),
  (.iconst (-1), 42, 100, false, aC ((-1))),
  (.ireturn, 43, 101, false, aC 0)]
theorem ok_X6_told : okCode i_X6_told k_X6_told = true := by decide +kernel
/-- heads [] -/
def k_X6_isParentsSibling : List Ins := [(.aload_n 0, 0, 0, false, aC 0),
  (.getfield 13, 1, 1, false, aF 6 1 2 false),
  (.iload_n 2, 2, 4, false, aC 0),
  (.iaload, 3, 5, false, aC 0),
  (.bipush 12, 4, 6, false, aC (nI 12)),
  (.if_icmp .eq 21, 5, 8, false, aT [16]),
  (.aload_n 0, 6, 11, false, aC 0),
  (.iload_n 1, 7, 12, false, aC 0),
  (.aload_n 0, 8, 13, false, aC 0),
  (.getfield 13, 9, 14, false, aF 6 1 2 false),
  (.iload_n 2, 10, 17, false, aC 0),
  (.iaload, 11, 18, false, aC 0),
  (.invokevirtual 108, 12, 19, false, aM 118 2 false true 6),
  (.ifCond .eq 7, 13, 22, false, aT [16]),
  (.iconst 1, 14, 25, false, aC (nI 1)),
  (.goto 4, 15, 26, false, aT [17]),
  (.iconst 0, 16, 29, false, aC (nI 0)),
  (.istore_n 3, 17, 30, false, aC 0),
  (.iload_n 3, 18, 31, false, aC 0),
  (.ifCond .ne 28, 19, 32, false, aT [34]),
  (.aload_n 0, 20, 35, false, aC 0),
  (.getfield 16, 21, 36, false, aF 6 2 3 false),
  (.iload_n 2, 22, 39, false, aC 0),
  (.iaload, 23, 40, false, aC 0),
  (.bipush 12, 24, 41, false, aC (nI 12)),
  (.if_icmp .eq 21, 25, 43, false, aT [36]),
  (.aload_n 0, 26, 46, false, aC 0),
  (.iload_n 1, 27, 47, false, aC 0),
  (.aload_n 0, 28, 48, false, aC 0),
  (.getfield 16, 29, 49, false, aF 6 2 3 false),
  (.iload_n 2, 30, 52, false, aC 0),
  (.iaload, 31, 53, false, aC 0),
  (.invokevirtual 108, 32, 54, false, aM 118 2 false true 6),
  (.ifCond .eq 7, 33, 57, false, aT [36]),
  (.iconst 1, 34, 60, false, aC (nI 1)),
  (.goto 4, 35, 61, false, aT [37]),
  (.iconst 0, 36, 64, false, aC (nI 0)),
  (.ireturn, 37, 65, false, aC 0)]
theorem ok_X6_isParentsSibling : okCode i_X6_isParentsSibling k_X6_isParentsSibling = true := by decide +kernel
/-- heads [] -/
def k_X6_areCousins : List Ins := [(.aload_n 0, 0, 0, false, aC 0),
  (.getfield 13, 1, 1, false, aF 6 1 2 false),
  (.iload_n 2, 2, 4, false, aC 0),
  (.iaload, 3, 5, false, aC 0),
  (.bipush 12, 4, 6, false, aC (nI 12)),
  (.if_icmp .eq 21, 5, 8, false, aT [16]),
  (.aload_n 0, 6, 11, false, aC 0),
  (.aload_n 0, 7, 12, false, aC 0),
  (.getfield 13, 8, 13, false, aF 6 1 2 false),
  (.iload_n 2, 9, 16, false, aC 0),
  (.iaload, 10, 17, false, aC 0),
  (.iload_n 1, 11, 18, false, aC 0),
  (.invokevirtual 125, 12, 19, false, aM 127 2 false true 6),
  (.ifCond .eq 7, 13, 22, false, aT [16]),
  (.iconst 1, 14, 25, false, aC (nI 1)),
  (.goto 4, 15, 26, false, aT [17]),
  (.iconst 0, 16, 29, false, aC (nI 0)),
  (.istore_n 3, 17, 30, false, aC 0),
  (.iload_n 3, 18, 31, false, aC 0),
  (.ifCond .ne 28, 19, 32, false, aT [34]),
  (.aload_n 0, 20, 35, false, aC 0),
  (.getfield 16, 21, 36, false, aF 6 2 3 false),
  (.iload_n 2, 22, 39, false, aC 0),
  (.iaload, 23, 40, false, aC 0),
  (.bipush 12, 24, 41, false, aC (nI 12)),
  (.if_icmp .eq 21, 25, 43, false, aT [36]),
  (.aload_n 0, 26, 46, false, aC 0),
  (.aload_n 0, 27, 47, false, aC 0),
  (.getfield 16, 28, 48, false, aF 6 2 3 false),
  (.iload_n 2, 29, 51, false, aC 0),
  (.iaload, 30, 52, false, aC 0),
  (.iload_n 1, 31, 53, false, aC 0),
  (.invokevirtual 125, 32, 54, false, aM 127 2 false true 6),
  (.ifCond .eq 7, 33, 57, false, aT [36]),
  (.iconst 1, 34, 60, false, aC (nI 1)),
  (.goto 4, 35, 61, false, aT [37]),
  (.iconst 0, 36, 64, false, aC (nI 0)),
  (.istore 4, 37, 65, false, aC 0),
  (.iload 4, 38, 67, false, aC 0),
  (.ifCond .eq 21, 39, 69, false, aT [50]),
  (.iload_n 1, 40, 72, false, aC 0),
  (.iload_n 2, 41, 73, false, aC 0),
  (.if_icmp .eq 16, 42, 74, false, aT [50]),
  (.aload_n 0, 43, 77, false, aC 0),
  (.iload_n 1, 44, 78, false, aC 0),
  (.iload_n 2, 45, 79, false, aC 0),
  (.invokevirtual 108, 46, 80, false, aM 118 2 false true 6),
  (.ifCond .ne 7, 47, 83, false, aT [50]),
  (.iconst 1, 48, 86, false, aC (nI 1)),
  (.goto 4, 49, 87, false, aT [51]),
  (.iconst 0, 50, 90, false, aC (nI 0)),
  (.ireturn, 51, 91, false, aC 0)]
theorem ok_X6_areCousins : okCode i_X6_areCousins k_X6_areCousins = true := by decide +kernel
/-- heads [] -/
def k_X6_isRelation : List Ins := [(.iload_n 3, 0, 0, false, aC 0),
  (.tableswitch 114 0 4 #[35, 59, 84, 91, 98], 1, 1, false, aT [51, 2, 16, 31, 36, 41]),
  (.aload_n 0, 2, 36, false, aC 0),
  (.getfield 7, 3, 37, false, aF 6 0 1 false),
  (.iload_n 2, 4, 40, false, aC 0),
  (.iaload, 5, 41, false, aC 0),
  (.ifCond .ne 16, 6, 42, false, aT [14]),
  (.aload_n 0, 7, 45, false, aC 0),
  (.iload_n 2, 8, 46, false, aC 0),
  (.iload_n 1, 9, 47, false, aC 0),
  (.invokevirtual 111, 10, 48, false, aM 119 2 false true 6),
  (.ifCond .eq 7, 11, 51, false, aT [14]),
  (.iconst 1, 12, 54, false, aC (nI 1)),
  (.goto 4, 13, 55, false, aT [15]),
  (.iconst 0, 14, 58, false, aC (nI 0)),
  (.ireturn, 15, 59, false, aC 0),
  (.aload_n 0, 16, 60, false, aC 0),
  (.getfield 7, 17, 61, false, aF 6 0 1 false),
  (.iload_n 2, 18, 64, false, aC 0),
  (.iaload, 19, 65, false, aC 0),
  (.iconst 1, 20, 66, false, aC (nI 1)),
  (.if_icmp .ne 16, 21, 67, false, aT [29]),
  (.aload_n 0, 22, 70, false, aC 0),
  (.iload_n 2, 23, 71, false, aC 0),
  (.iload_n 1, 24, 72, false, aC 0),
  (.invokevirtual 111, 25, 73, false, aM 119 2 false true 6),
  (.ifCond .eq 7, 26, 76, false, aT [29]),
  (.iconst 1, 27, 79, false, aC (nI 1)),
  (.goto 4, 28, 80, false, aT [30]),
  (.iconst 0, 29, 83, false, aC (nI 0)),
  (.ireturn, 30, 84, false, aC 0),
  (.aload_n 0, 31, 85, false, aC 0),
  (.iload_n 1, 32, 86, false, aC 0),
  (.iload_n 2, 33, 87, false, aC 0),
  (.invokevirtual 108, 34, 88, false, aM 118 2 false true 6),
  (.ireturn, 35, 91, false, aC 0),
  (.aload_n 0, 36, 92, false, aC 0),
  (.iload_n 1, 37, 93, false, aC 0),
  (.iload_n 2, 38, 94, false, aC 0),
  (.invokevirtual 128, 39, 95, false, aM 128 2 false true 6),
  (.ireturn, 40, 98, false, aC 0),
  (.aload_n 0, 41, 99, false, aC 0),
  (.getfield 19, 42, 100, false, aF 6 3 4 false),
  (.iload_n 1, 43, 103, false, aC 0),
  (.iaload, 44, 104, false, aC 0),
  (.iload_n 2, 45, 105, false, aC 0),
  (.if_icmp .ne 7, 46, 106, false, aT [49]),
  (.iconst 1, 47, 109, false, aC (nI 1)),
  (.goto 4, 48, 110, false, aT [50]),
  (.iconst 0, 49, 113, false, aC (nI 0)),
  (.ireturn, 50, 114, false, aC 0),
  (.aload_n 0, 51, 115, false, aC 0),
  (.getfield 22, 52, 116, false, aF 6 4 5 false),
  (.iload_n 1, 53, 119, false, aC 0),
  (.iaload, 54, 120, false, aC 0),
  (.iload_n 2, 55, 121, false, aC 0),
  (.if_icmp .ne 7, 56, 122, false, aT [59]),
  (.iconst 1, 57, 125, false, aC (nI 1)),
  (.goto 4, 58, 126, false, aT [60]),
  (.iconst 0, 59, 129, false, aC (nI 0)),
  (.ireturn, 60, 130, false, aC 0)]
theorem ok_X6_isRelation : okCode i_X6_isRelation k_X6_isRelation = true := by decide +kernel
/-- heads [4] -/
def k_X6_kinOf : List Ins := [(.iconst 0, 0, 0, false, aC (nI 0)),
  (.istore_n 3, 1, 1, false, aC 0),
  (.iconst 0, 2, 2, false, aC (nI 0)),
  (.istore 4, 3, 3, false, aC 0),
  (.iload 4, 4, 5, true, aC 0),
  (.aload_n 0, 5, 7, false, aC 0),
  (.getfield 83, 6, 8, false, aF 6 6 0 false),
  (.if_icmp .ge 48, 7, 11, false, aT [33]),
  (.iload_n 3, 8, 14, false, aC 0),
  (.aload_n 0, 9, 15, false, aC 0),
  (.getfield 25, 10, 16, false, aF 6 5 6 false),
  (.iload 4, 11, 19, false, aC 0),
  (.iaload, 12, 21, false, aC 0),
  (.iconst 1, 13, 22, false, aC (nI 1)),
  (.if_icmp .ne 27, 14, 23, false, aT [28]),
  (.iload 4, 15, 26, false, aC 0),
  (.iload_n 1, 16, 28, false, aC 0),
  (.if_icmp .eq 21, 17, 29, false, aT [28]),
  (.aload_n 0, 18, 32, false, aC 0),
  (.iload_n 1, 19, 33, false, aC 0),
  (.iload 4, 20, 34, false, aC 0),
  (.iload_n 2, 21, 36, false, aC 0),
  (.invokevirtual 131, 22, 37, false, aM 129 3 false true 6),
  (.ifCond .eq 10, 23, 40, false, aT [28]),
  (.iconst 1, 24, 43, false, aC (nI 1)),
  (.iload 4, 25, 44, false, aC 0),
  (.ishl, 26, 46, false, aC 0),
  (.goto 4, 27, 47, false, aT [29]),
  (.iconst 0, 28, 50, false, aC (nI 0)),
  (.ior, 29, 51, false, aC 0),
  (.istore_n 3, 30, 52, false, aC 0),
  (.iinc 4 1, 31, 53, false, aC (nI 1)),
  (.goto (-51), 32, 56, false, aT [4]),
  (.iload_n 3, 33, 59, false, aC 0),
  (.ireturn, 34, 60, false, aC 0)]
theorem ok_X6_kinOf : okCode i_X6_kinOf k_X6_kinOf = true := by decide +kernel
/-- heads [] -/
def k_X6_kin : List Ins := [(.aload_n 0, 0, 0, false, aC 0),
  (.iload_n 1, 1, 1, false, aC 0),
  (.invokevirtual 93, 2, 2, false, aM 111 1 false true 6),
  (.ifCond .eq 24, 3, 5, false, aT [15]),
  (.iload_n 2, 4, 8, false, aC 0),
  (.i2l, 5, 9, false, aC 0),
  (.lconst 0, 6, 10, false, aL 0),
  (.ldc2_w 135, 7, 11, false, aL 5),
  (.invokestatic 86, 8, 14, false, aM 108 3 true true 6),
  (.ifCond .eq 12, 9, 17, false, aT [15]),
  (.aload_n 0, 10, 20, false, aC 0),
  (.iload_n 1, 11, 21, false, aC 0),
  (.iload_n 2, 12, 22, false, aC 0),
  (.invokevirtual 137, 13, 23, false, aM 130 2 false true 6),
  (.goto 4, 14, 26, false, aT [16]),
  (.iconst (-1), 15, 29, false, aC ((-1))),
  (.ireturn, 16, 30, false, aC 0)]
theorem ok_X6_kin : okCode i_X6_kin k_X6_kin = true := by decide +kernel
/-- heads [] -/
def k_X6_hasOther : List Ins := [(.iload_n 0, 0, 0, false, aC 0),
  (.iconst 1, 1, 1, false, aC (nI 1)),
  (.if_icmp .eq 8, 2, 2, false, aT [6]),
  (.iload_n 0, 3, 5, false, aC 0),
  (.iconst 2, 4, 6, false, aC (nI 2)),
  (.if_icmp .ne 7, 5, 7, false, aT [8]),
  (.iconst 1, 6, 10, false, aC (nI 1)),
  (.goto 4, 7, 11, false, aT [9]),
  (.iconst 0, 8, 14, false, aC (nI 0)),
  (.ireturn, 9, 15, false, aC 0)]
theorem ok_X6_hasOther : okCode i_X6_hasOther k_X6_hasOther = true := by decide +kernel
/-- heads [] -/
def k_X6_thing : List Ins := [(.iload_n 1, 0, 0, false, aC 0),
  (.i2l, 1, 1, false, aC 0),
  (.lconst 0, 2, 2, false, aL 0),
  (.ldc2_w 141, 3, 3, false, aL 3),
  (.invokestatic 86, 4, 6, false, aM 108 3 true true 6),
  (.ifCond .eq 23, 5, 9, false, aT [16]),
  (.iload_n 2, 6, 12, false, aC 0),
  (.i2l, 7, 13, false, aC 0),
  (.lconst 0, 8, 14, false, aL 0),
  (.ldc2_w 143, 9, 15, false, aL 99),
  (.invokestatic 86, 10, 18, false, aM 108 3 true true 6),
  (.ifCond .eq 11, 11, 21, false, aT [16]),
  (.aload_n 0, 12, 24, false, aC 0),
  (.iload_n 3, 13, 25, false, aC 0),
  (.invokevirtual 145, 14, 26, false, aM 113 1 false true 6),
  (.ifCond .ne 5, 15, 29, false, aT [18]),
  (.iconst (-1), 16, 32, false, aC ((-1))),
  (.ireturn, 17, 33, false, aC 0),
  (.iload_n 1, 18, 34, false, aC 0),
  (.invokestatic 148, 19, 35, false, aM 132 1 true true 6),
  (.ifCond .eq 21, 20, 38, false, aT [29]),
  (.aload_n 0, 21, 41, false, aC 0),
  (.iload 4, 22, 42, false, aC 0),
  (.invokevirtual 145, 23, 44, false, aM 113 1 false true 6),
  (.ifCond .eq 19, 24, 47, false, aT [32]),
  (.iload 4, 25, 50, false, aC 0),
  (.iload_n 3, 26, 52, false, aC 0),
  (.if_icmp .ne 15, 27, 53, false, aT [34]),
  (.goto 10, 28, 56, false, aT [32]),
  (.iload 4, 29, 59, false, aC 0),
  (.bipush 12, 30, 61, false, aC (nI 12)),
  (.if_icmp .eq 5, 31, 63, false, aT [34]),
  (.iconst (-1), 32, 66, false, aC ((-1))),
  (.ireturn, 33, 67, false, aC 0),
  (.aload_n 0, 34, 68, false, aC 0),
  (.getfield 90, 35, 69, false, aF 6 11 0 false),
  (.bipush 12, 36, 72, false, aC (nI 12)),
  (.if_icmp .ne 6, 37, 74, false, aT [40]),
  (.bipush (-3), 38, 77, false, aC ((-3))),
  (.ireturn, 39, 79, false, aC 0),
  (.aload_n 0, 40, 80, false, aC 0),
  (.getfield 28, 41, 81, false, aF 6 7 8 false),
  (.aload_n 0, 42, 84, false, aC 0),
  (.getfield 90, 43, 85, false, aF 6 11 0 false),
  (.iload_n 1, 44, 88, false, aC 0),
  (.iastore, 45, 89, false, aC 0),
  (.aload_n 0, 46, 90, false, aC 0),
  (.getfield 31, 47, 91, false, aF 6 8 9 false),
  (.aload_n 0, 48, 94, false, aC 0),
  (.getfield 90, 49, 95, false, aF 6 11 0 false),
  (.iload_n 2, 50, 98, false, aC 0),
  (.iastore, 51, 99, false, aC 0),
  (.aload_n 0, 52, 100, false, aC 0),
  (.getfield 34, 53, 101, false, aF 6 9 10 false),
  (.aload_n 0, 54, 104, false, aC 0),
  (.getfield 90, 55, 105, false, aF 6 11 0 false),
  (.iload_n 3, 56, 108, false, aC 0),
  (.iastore, 57, 109, false, aC 0),
  (.aload_n 0, 58, 110, false, aC 0),
  (.getfield 37, 59, 111, false, aF 6 10 11 false),
  (.aload_n 0, 60, 114, false, aC 0),
  (.getfield 90, 61, 115, false, aF 6 11 0 false),
  (.iload 4, 62, 118, false, aC 0),
  (.iastore, 63, 120, false, aC 0),
  (.aload_n 0, 64, 121, false, aC 0),
  (.dup, 65, 122, false, aC 0),
  (.getfield 90, 66, 123, false, aF 6 11 0 false),
  (.iconst 1, 67, 126, false, aC (nI 1)),
  (.iadd, 68, 127, false, aC 0),
  (.putfield 90, 69, 128, false, aF 6 11 0 false),
  (.aload_n 0, 70, 131, false, aC 0),
  (.getfield 90, 71, 132, false, aF 6 11 0 false),
  (.iconst 1, 72, 135, false, aC (nI 1)),
  (.isub, 73, 136, false, aC 0),
  (.ireturn, 74, 137, false, aC 0)]
theorem ok_X6_thing : okCode i_X6_thing k_X6_thing = true := by decide +kernel
/-- heads [] -/
def k_X6_of : List Ins := [(.aload_n 0, 0, 0, false, aC 0),
  (.iload_n 1, 1, 1, false, aC 0),
  (.invokevirtual 151, 2, 2, false, aM 112 1 false true 6),
  (.ifCond .eq 15, 3, 5, false, aT [10]),
  (.iload_n 2, 4, 8, false, aC 0),
  (.i2l, 5, 9, false, aC 0),
  (.lconst 0, 6, 10, false, aL 0),
  (.ldc2_w 141, 7, 11, false, aL 3),
  (.invokestatic 86, 8, 14, false, aM 108 3 true true 6),
  (.ifCond .ne 5, 9, 17, false, aT [12]),
  (.iconst (-1), 10, 20, false, aC ((-1))),
  (.ireturn, 11, 21, false, aC 0),
  (.iload_n 2, 12, 22, false, aC 0),
  (.ifCond .ne 12, 13, 23, false, aT [19]),
  (.aload_n 0, 14, 26, false, aC 0),
  (.getfield 28, 15, 27, false, aF 6 7 8 false),
  (.iload_n 1, 16, 30, false, aC 0),
  (.iaload, 17, 31, false, aC 0),
  (.goto 37, 18, 32, false, aT [39]),
  (.iload_n 2, 19, 35, false, aC 0),
  (.iconst 1, 20, 36, false, aC (nI 1)),
  (.if_icmp .ne 12, 21, 37, false, aT [27]),
  (.aload_n 0, 22, 40, false, aC 0),
  (.getfield 31, 23, 41, false, aF 6 8 9 false),
  (.iload_n 1, 24, 44, false, aC 0),
  (.iaload, 25, 45, false, aC 0),
  (.goto 23, 26, 46, false, aT [39]),
  (.iload_n 2, 27, 49, false, aC 0),
  (.iconst 2, 28, 50, false, aC (nI 2)),
  (.if_icmp .ne 12, 29, 51, false, aT [35]),
  (.aload_n 0, 30, 54, false, aC 0),
  (.getfield 34, 31, 55, false, aF 6 9 10 false),
  (.iload_n 1, 32, 58, false, aC 0),
  (.iaload, 33, 59, false, aC 0),
  (.goto 9, 34, 60, false, aT [39]),
  (.aload_n 0, 35, 63, false, aC 0),
  (.getfield 37, 36, 64, false, aF 6 10 11 false),
  (.iload_n 1, 37, 67, false, aC 0),
  (.iaload, 38, 68, false, aC 0),
  (.ireturn, 39, 69, false, aC 0)]
theorem ok_X6_of : okCode i_X6_of k_X6_of = true := by decide +kernel
/-- heads [31, 61, 91] -/
def k_X6_rule : List Ins := [(.iload_n 1, 0, 0, false, aC 0),
  (.i2l, 1, 1, false, aC 0),
  (.lconst 0, 2, 2, false, aL 0),
  (.ldc2_w 141, 3, 3, false, aL 3),
  (.invokestatic 86, 4, 6, false, aM 108 3 true true 6),
  (.ifCond .eq 32, 5, 9, false, aT [25]),
  (.iload_n 3, 6, 12, false, aC 0),
  (.i2l, 7, 13, false, aC 0),
  (.lconst 1, 8, 14, false, aL 1),
  (.ldc2_w 141, 9, 15, false, aL 3),
  (.invokestatic 86, 10, 18, false, aM 108 3 true true 6),
  (.ifCond .eq 20, 11, 21, false, aT [25]),
  (.iload_n 2, 12, 24, false, aC 0),
  (.i2l, 13, 25, false, aC 0),
  (.lconst 0, 14, 26, false, aL 0),
  (.iconst 1, 15, 27, false, aC (nI 1)),
  (.iconst 3, 16, 28, false, aC (nI 3)),
  (.iload_n 3, 17, 29, false, aC 0),
  (.imul, 18, 30, false, aC 0),
  (.ishl, 19, 31, false, aC 0),
  (.iconst 1, 20, 32, false, aC (nI 1)),
  (.isub, 21, 33, false, aC 0),
  (.i2l, 22, 34, false, aC 0),
  (.invokestatic 86, 23, 35, false, aM 108 3 true true 6),
  (.ifCond .ne 5, 24, 38, false, aT [27]),
  (.iconst (-1), 25, 41, false, aC ((-1))),
  (.ireturn, 26, 42, false, aC 0),
  (.iconst 0, 27, 43, false, aC (nI 0)),
  (.istore 4, 28, 44, false, aC 0),
  (.iconst 0, 29, 46, false, aC (nI 0)),
  (.istore 5, 30, 47, false, aC 0),
  (.iload 5, 31, 49, true, aC 0),
  (.iload_n 3, 32, 51, false, aC 0),
  (.if_icmp .ge 25, 33, 52, false, aT [48]),
  (.iload 4, 34, 55, false, aC 0),
  (.iconst 1, 35, 57, false, aC (nI 1)),
  (.iload_n 2, 36, 58, false, aC 0),
  (.iconst 3, 37, 59, false, aC (nI 3)),
  (.iload 5, 38, 60, false, aC 0),
  (.imul, 39, 62, false, aC 0),
  (.ishr, 40, 63, false, aC 0),
  (.bipush 7, 41, 64, false, aC (nI 7)),
  (.iand, 42, 66, false, aC 0),
  (.ishl, 43, 67, false, aC 0),
  (.ior, 44, 68, false, aC 0),
  (.istore 4, 45, 69, false, aC 0),
  (.iinc 5 1, 46, 71, false, aC (nI 1)),
  (.goto (-25), 47, 74, false, aT [31]),
  (.iload 4, 48, 77, false, aC 0),
  (.invokestatic 154, 49, 79, false, aM 110 1 true true 6),
  (.iload_n 3, 50, 82, false, aC 0),
  (.if_icmp .lt 10, 51, 83, false, aT [55]),
  (.iload 4, 52, 86, false, aC 0),
  (.bipush 63, 53, 88, false, aC (nI 63)),
  (.if_icmp .le 5, 54, 90, false, aT [57]),
  (.iconst (-1), 55, 93, false, aC ((-1))),
  (.ireturn, 56, 94, false, aC 0),
  (.iconst 0, 57, 95, false, aC (nI 0)),
  (.istore 5, 58, 96, false, aC 0),
  (.iconst 0, 59, 98, false, aC (nI 0)),
  (.istore 6, 60, 99, false, aC 0),
  (.iload 6, 61, 101, true, aC 0),
  (.aload_n 0, 62, 103, false, aC 0),
  (.getfield 43, 63, 104, false, aF 6 13 14 false),
  (.iload_n 1, 64, 107, false, aC 0),
  (.iaload, 65, 108, false, aC 0),
  (.if_icmp .ge 30, 66, 109, false, aT [84]),
  (.iload 5, 67, 112, false, aC 0),
  (.aload_n 0, 68, 114, false, aC 0),
  (.getfield 40, 69, 115, false, aF 6 12 13 false),
  (.iconst 3, 70, 118, false, aC (nI 3)),
  (.iload_n 1, 71, 119, false, aC 0),
  (.imul, 72, 120, false, aC 0),
  (.iload 6, 73, 121, false, aC 0),
  (.iadd, 74, 123, false, aC 0),
  (.iaload, 75, 124, false, aC 0),
  (.iconst 3, 76, 125, false, aC (nI 3)),
  (.iload 6, 77, 126, false, aC 0),
  (.imul, 78, 128, false, aC 0),
  (.ishl, 79, 129, false, aC 0),
  (.ior, 80, 130, false, aC 0),
  (.istore 5, 81, 131, false, aC 0),
  (.iinc 6 1, 82, 133, false, aC (nI 1)),
  (.goto (-35), 83, 136, false, aT [61]),
  (.aload_n 0, 84, 139, false, aC 0),
  (.getfield 43, 85, 140, false, aF 6 13 14 false),
  (.iload_n 1, 86, 143, false, aC 0),
  (.iload_n 3, 87, 144, false, aC 0),
  (.iastore, 88, 145, false, aC 0),
  (.iconst 0, 89, 146, false, aC (nI 0)),
  (.istore 6, 90, 147, false, aC 0),
  (.iload 6, 91, 149, true, aC 0),
  (.iload_n 3, 92, 151, false, aC 0),
  (.if_icmp .ge 29, 93, 152, false, aT [111]),
  (.aload_n 0, 94, 155, false, aC 0),
  (.getfield 40, 95, 156, false, aF 6 12 13 false),
  (.iconst 3, 96, 159, false, aC (nI 3)),
  (.iload_n 1, 97, 160, false, aC 0),
  (.imul, 98, 161, false, aC 0),
  (.iload 6, 99, 162, false, aC 0),
  (.iadd, 100, 164, false, aC 0),
  (.iload_n 2, 101, 165, false, aC 0),
  (.iconst 3, 102, 166, false, aC (nI 3)),
  (.iload 6, 103, 167, false, aC 0),
  (.imul, 104, 169, false, aC 0),
  (.ishr, 105, 170, false, aC 0),
  (.bipush 7, 106, 171, false, aC (nI 7)),
  (.iand, 107, 173, false, aC 0),
  (.iastore, 108, 174, false, aC 0),
  (.iinc 6 1, 109, 175, false, aC (nI 1)),
  (.goto (-29), 110, 178, false, aT [91]),
  (.iload 5, 111, 181, false, aC 0),
  (.ireturn, 112, 183, false, aC 0)]
theorem ok_X6_rule : okCode i_X6_rule k_X6_rule = true := by decide +kernel
/-- heads [2, 22] -/
def k_X6_heirOf : List Ins := [(.iconst 0, 0, 0, false, aC (nI 0)),
  (.istore_n 3, 1, 1, false, aC 0),
  (.iload_n 3, 2, 2, true, aC 0),
  (.aload_n 0, 3, 3, false, aC 0),
  (.getfield 43, 4, 4, false, aF 6 13 14 false),
  (.iload_n 2, 5, 7, false, aC 0),
  (.iaload, 6, 8, false, aC 0),
  (.if_icmp .ge 57, 7, 9, false, aT [36]),
  (.aload_n 0, 8, 12, false, aC 0),
  (.iload_n 1, 9, 13, false, aC 0),
  (.aload_n 0, 10, 14, false, aC 0),
  (.getfield 40, 11, 15, false, aF 6 12 13 false),
  (.iconst 3, 12, 18, false, aC (nI 3)),
  (.iload_n 2, 13, 19, false, aC 0),
  (.imul, 14, 20, false, aC 0),
  (.iload_n 3, 15, 21, false, aC 0),
  (.iadd, 16, 22, false, aC 0),
  (.iaload, 17, 23, false, aC 0),
  (.invokevirtual 137, 18, 24, false, aM 130 2 false true 6),
  (.istore 4, 19, 27, false, aC 0),
  (.iconst 0, 20, 29, false, aC (nI 0)),
  (.istore 5, 21, 30, false, aC 0),
  (.iload 5, 22, 32, true, aC 0),
  (.aload_n 0, 23, 34, false, aC 0),
  (.getfield 83, 24, 35, false, aF 6 6 0 false),
  (.if_icmp .ge 22, 25, 38, false, aT [34]),
  (.iload 4, 26, 41, false, aC 0),
  (.iload 5, 27, 43, false, aC 0),
  (.invokestatic 157, 28, 45, false, aM 109 2 true true 6),
  (.ifCond .eq 6, 29, 48, false, aT [32]),
  (.iload 5, 30, 51, false, aC 0),
  (.ireturn, 31, 53, false, aC 0),
  (.iinc 5 1, 32, 54, false, aC (nI 1)),
  (.goto (-25), 33, 57, false, aT [22]),
  (.iinc 3 1, 34, 60, false, aC (nI 1)),
  (.goto (-61), 35, 63, false, aT [2]),
  (.bipush 12, 36, 66, false, aC (nI 12)),
  (.ireturn, 37, 68, false, aC 0)]
theorem ok_X6_heirOf : okCode i_X6_heirOf k_X6_heirOf = true := by decide +kernel
/-- heads [] -/
def k_X6_heir : List Ins := [(.aload_n 0, 0, 0, false, aC 0),
  (.iload_n 1, 1, 1, false, aC 0),
  (.invokevirtual 93, 2, 2, false, aM 111 1 false true 6),
  (.ifCond .eq 15, 3, 5, false, aT [10]),
  (.iload_n 2, 4, 8, false, aC 0),
  (.i2l, 5, 9, false, aC 0),
  (.lconst 0, 6, 10, false, aL 0),
  (.ldc2_w 141, 7, 11, false, aL 3),
  (.invokestatic 86, 8, 14, false, aM 108 3 true true 6),
  (.ifCond .ne 5, 9, 17, false, aT [12]),
  (.iconst (-1), 10, 20, false, aC ((-1))),
  (.ireturn, 11, 21, false, aC 0),
  (.aload_n 0, 12, 22, false, aC 0),
  (.getfield 25, 13, 23, false, aF 6 5 6 false),
  (.iload_n 1, 14, 26, false, aC 0),
  (.iaload, 15, 27, false, aC 0),
  (.ifCond .ne 6, 16, 28, false, aT [19]),
  (.bipush (-2), 17, 31, false, aC ((-2))),
  (.ireturn, 18, 33, false, aC 0),
  (.aload_n 0, 19, 34, false, aC 0),
  (.iload_n 1, 20, 35, false, aC 0),
  (.iload_n 2, 21, 36, false, aC 0),
  (.invokevirtual 160, 22, 37, false, aM 136 2 false true 6),
  (.istore_n 3, 23, 40, false, aC 0),
  (.iload_n 3, 24, 41, false, aC 0),
  (.bipush 12, 25, 42, false, aC (nI 12)),
  (.if_icmp .ne 8, 26, 44, false, aT [29]),
  (.bipush (-4), 27, 47, false, aC ((-4))),
  (.goto 4, 28, 49, false, aT [30]),
  (.iload_n 3, 29, 52, false, aC 0),
  (.ireturn, 30, 53, false, aC 0)]
theorem ok_X6_heir : okCode i_X6_heir k_X6_heir = true := by decide +kernel
/-- heads [12, 41] -/
def k_X6_type : List Ins := [(.iload_n 3, 0, 0, false, aC 0),
  (.i2l, 1, 1, false, aC 0),
  (.lconst 1, 2, 2, false, aL 1),
  (.ldc2_w 163, 3, 3, false, aL 8),
  (.invokestatic 86, 4, 6, false, aM 108 3 true true 6),
  (.ifCond .ne 5, 5, 9, false, aT [8]),
  (.iconst (-1), 6, 12, false, aC ((-1))),
  (.ireturn, 7, 13, false, aC 0),
  (.iload_n 3, 8, 14, false, aC 0),
  (.iconst 1, 9, 15, false, aC (nI 1)),
  (.isub, 10, 16, false, aC 0),
  (.istore 4, 11, 17, false, aC 0),
  (.iload 4, 12, 19, true, aC 0),
  (.ifCond .lt 34, 13, 21, false, aT [29]),
  (.lload_n 1, 14, 24, false, aC 0),
  (.bipush 8, 15, 25, false, aC (nI 8)),
  (.iload 4, 16, 27, false, aC 0),
  (.imul, 17, 29, false, aC 0),
  (.lshr, 18, 30, false, aC 0),
  (.ldc2_w 165, 19, 31, false, aL 255),
  (.land, 20, 34, false, aC 0),
  (.ldc2_w 167, 21, 35, false, aL 32),
  (.ldc2_w 169, 22, 38, false, aL 126),
  (.invokestatic 86, 23, 41, false, aM 108 3 true true 6),
  (.ifCond .ne 5, 24, 44, false, aT [27]),
  (.iconst (-1), 25, 47, false, aC ((-1))),
  (.ireturn, 26, 48, false, aC 0),
  (.iinc 4 (-1), 27, 49, false, aC ((-1))),
  (.goto (-33), 28, 52, false, aT [12]),
  (.aload_n 0, 29, 55, false, aC 0),
  (.getfield 171, 30, 56, false, aF 6 16 0 false),
  (.iload_n 3, 31, 59, false, aC 0),
  (.iadd, 32, 60, false, aC 0),
  (.bipush 120, 33, 61, false, aC (nI 120)),
  (.if_icmp .le 6, 34, 63, false, aT [37]),
  (.bipush (-3), 35, 66, false, aC ((-3))),
  (.ireturn, 36, 68, false, aC 0),
  (.iload_n 3, 37, 69, false, aC 0),
  (.iconst 1, 38, 70, false, aC (nI 1)),
  (.isub, 39, 71, false, aC 0),
  (.istore 4, 40, 72, false, aC 0),
  (.iload 4, 41, 74, true, aC 0),
  (.ifCond .lt 40, 42, 76, false, aT [64]),
  (.aload_n 0, 43, 79, false, aC 0),
  (.getfield 50, 44, 80, false, aF 6 15 16 false),
  (.aload_n 0, 45, 83, false, aC 0),
  (.getfield 171, 46, 84, false, aF 6 16 0 false),
  (.lload_n 1, 47, 87, false, aC 0),
  (.bipush 8, 48, 88, false, aC (nI 8)),
  (.iload 4, 49, 90, false, aC 0),
  (.imul, 50, 92, false, aC 0),
  (.lshr, 51, 93, false, aC 0),
  (.ldc2_w 165, 52, 94, false, aL 255),
  (.land, 53, 97, false, aC 0),
  (.l2i, 54, 98, false, aC 0),
  (.iastore, 55, 99, false, aC 0),
  (.aload_n 0, 56, 100, false, aC 0),
  (.dup, 57, 101, false, aC 0),
  (.getfield 171, 58, 102, false, aF 6 16 0 false),
  (.iconst 1, 59, 105, false, aC (nI 1)),
  (.iadd, 60, 106, false, aC 0),
  (.putfield 171, 61, 107, false, aF 6 16 0 false),
  (.iinc 4 (-1), 62, 110, false, aC ((-1))),
  (.goto (-39), 63, 113, false, aT [41]),
  (.aload_n 0, 64, 116, false, aC 0),
  (.getfield 171, 65, 117, false, aF 6 16 0 false),
  (.ireturn, 66, 120, false, aC 0)]
theorem ok_X6_type : okCode i_X6_type k_X6_type = true := by decide +kernel
/-- heads [0] -/
def k_X6_nextByte : List Ins := [(.aload_n 0, 0, 0, true, aC 0),
  (.getfield 174, 1, 1, false, aF 6 17 0 false),
  (.aload_n 0, 2, 4, false, aC 0),
  (.getfield 171, 3, 5, false, aF 6 16 0 false),
  (.if_icmp .ge 30, 4, 8, false, aT [19]),
  (.aload_n 0, 5, 11, false, aC 0),
  (.getfield 50, 6, 12, false, aF 6 15 16 false),
  (.aload_n 0, 7, 15, false, aC 0),
  (.getfield 174, 8, 16, false, aF 6 17 0 false),
  (.iaload, 9, 19, false, aC 0),
  (.bipush 32, 10, 20, false, aC (nI 32)),
  (.if_icmp .ne 16, 11, 22, false, aT [19]),
  (.aload_n 0, 12, 25, false, aC 0),
  (.dup, 13, 26, false, aC 0),
  (.getfield 174, 14, 27, false, aF 6 17 0 false),
  (.iconst 1, 15, 30, false, aC (nI 1)),
  (.iadd, 16, 31, false, aC 0),
  (.putfield 174, 17, 32, false, aF 6 17 0 false),
  (.goto (-35), 18, 35, false, aT [0]),
  (.aload_n 0, 19, 38, false, aC 0),
  (.getfield 174, 20, 39, false, aF 6 17 0 false),
  (.aload_n 0, 21, 42, false, aC 0),
  (.getfield 171, 22, 43, false, aF 6 16 0 false),
  (.if_icmp .ge 15, 23, 46, false, aT [30]),
  (.aload_n 0, 24, 49, false, aC 0),
  (.getfield 50, 25, 50, false, aF 6 15 16 false),
  (.aload_n 0, 26, 53, false, aC 0),
  (.getfield 174, 27, 54, false, aF 6 17 0 false),
  (.iaload, 28, 57, false, aC 0),
  (.goto 4, 29, 58, false, aT [31]),
  (.iconst (-1), 30, 61, false, aC ((-1))),
  (.ireturn, 31, 62, false, aC 0)]
theorem ok_X6_nextByte : okCode i_X6_nextByte k_X6_nextByte = true := by decide +kernel
/-- heads [] -/
def k_X6_takes : List Ins := [(.aload_n 0, 0, 0, false, aC 0),
  (.invokevirtual 177, 1, 1, false, aM 139 0 false true 6),
  (.iload_n 1, 2, 4, false, aC 0),
  (.if_icmp .ne 7, 3, 5, false, aT [6]),
  (.iconst 1, 4, 8, false, aC (nI 1)),
  (.goto 4, 5, 9, false, aT [7]),
  (.iconst 0, 6, 12, false, aC (nI 0)),
  (.istore_n 2, 7, 13, false, aC 0),
  (.aload_n 0, 8, 14, false, aC 0),
  (.dup, 9, 15, false, aC 0),
  (.getfield 174, 10, 16, false, aF 6 17 0 false),
  (.iload_n 2, 11, 19, false, aC 0),
  (.ifCond .eq 7, 12, 20, false, aT [15]),
  (.iconst 1, 13, 23, false, aC (nI 1)),
  (.goto 4, 14, 24, false, aT [16]),
  (.iconst 0, 15, 27, false, aC (nI 0)),
  (.iadd, 16, 28, false, aC 0),
  (.putfield 174, 17, 29, false, aF 6 17 0 false),
  (.iload_n 2, 18, 32, false, aC 0),
  (.ireturn, 19, 33, false, aC 0)]
theorem ok_X6_takes : okCode i_X6_takes k_X6_takes = true := by decide +kernel
/-- heads [] -/
def k_X6_readOne : List Ins := [(.aload_n 0, 0, 0, false, aC 0),
  (.invokevirtual 177, 1, 1, false, aM 139 0 false true 6),
  (.bipush 97, 2, 4, false, aC (nI 97)),
  (.isub, 3, 6, false, aC 0),
  (.istore_n 3, 4, 7, false, aC 0),
  (.iload_n 3, 5, 8, false, aC 0),
  (.i2l, 6, 9, false, aC 0),
  (.lconst 0, 7, 10, false, aL 0),
  (.iload_n 1, 8, 11, false, aC 0),
  (.iconst 1, 9, 12, false, aC (nI 1)),
  (.isub, 10, 13, false, aC 0),
  (.i2l, 11, 14, false, aC 0),
  (.invokestatic 86, 12, 15, false, aM 108 3 true true 6),
  (.ifCond .eq 15, 13, 18, false, aT [22]),
  (.aload_n 0, 14, 21, false, aC 0),
  (.getfield 53, 15, 22, false, aF 6 19 20 false),
  (.iconst 4, 16, 25, false, aC (nI 4)),
  (.iload_n 3, 17, 26, false, aC 0),
  (.imul, 18, 27, false, aC 0),
  (.iaload, 19, 28, false, aC 0),
  (.iload_n 2, 20, 29, false, aC 0),
  (.if_icmp .eq 5, 21, 30, false, aT [24]),
  (.iconst (-1), 22, 33, false, aC ((-1))),
  (.ireturn, 23, 34, false, aC 0),
  (.aload_n 0, 24, 35, false, aC 0),
  (.dup, 25, 36, false, aC 0),
  (.getfield 174, 26, 37, false, aF 6 17 0 false),
  (.iconst 1, 27, 40, false, aC (nI 1)),
  (.iadd, 28, 41, false, aC 0),
  (.putfield 174, 29, 42, false, aF 6 17 0 false),
  (.iload_n 3, 30, 45, false, aC 0),
  (.ireturn, 31, 46, false, aC 0)]
theorem ok_X6_readOne : okCode i_X6_readOne k_X6_readOne = true := by decide +kernel
/-- heads [] -/
def k_X6_readPerson : List Ins := [(.aload_n 0, 0, 0, false, aC 0),
  (.invokevirtual 177, 1, 1, false, aM 139 0 false true 6),
  (.istore_n 2, 2, 4, false, aC 0),
  (.iload_n 2, 3, 5, false, aC 0),
  (.bipush 109, 4, 6, false, aC (nI 109)),
  (.if_icmp .eq 11, 5, 8, false, aT [11]),
  (.iload_n 2, 6, 11, false, aC 0),
  (.bipush 119, 7, 12, false, aC (nI 119)),
  (.if_icmp .eq 5, 8, 14, false, aT [11]),
  (.iconst 0, 9, 17, false, aC (nI 0)),
  (.ireturn, 10, 18, false, aC 0),
  (.aload_n 0, 11, 19, false, aC 0),
  (.dup, 12, 20, false, aC 0),
  (.getfield 174, 13, 21, false, aF 6 17 0 false),
  (.iconst 1, 14, 24, false, aC (nI 1)),
  (.iadd, 15, 25, false, aC 0),
  (.putfield 174, 16, 26, false, aF 6 17 0 false),
  (.iconst 4, 17, 29, false, aC (nI 4)),
  (.iload_n 1, 18, 30, false, aC 0),
  (.imul, 19, 31, false, aC 0),
  (.istore_n 3, 20, 32, false, aC 0),
  (.aload_n 0, 21, 33, false, aC 0),
  (.getfield 53, 22, 34, false, aF 6 19 20 false),
  (.iload_n 3, 23, 37, false, aC 0),
  (.iload_n 2, 24, 38, false, aC 0),
  (.bipush 109, 25, 39, false, aC (nI 109)),
  (.if_icmp .ne 7, 26, 41, false, aT [29]),
  (.iconst 0, 27, 44, false, aC (nI 0)),
  (.goto 4, 28, 45, false, aT [30]),
  (.iconst 1, 29, 48, false, aC (nI 1)),
  (.iastore, 30, 49, false, aC 0),
  (.aload_n 0, 31, 50, false, aC 0),
  (.getfield 53, 32, 51, false, aF 6 19 20 false),
  (.iload_n 3, 33, 54, false, aC 0),
  (.iconst 1, 34, 55, false, aC (nI 1)),
  (.iadd, 35, 56, false, aC 0),
  (.aload_n 0, 36, 57, false, aC 0),
  (.bipush 102, 37, 58, false, aC (nI 102)),
  (.invokevirtual 181, 38, 60, false, aM 140 1 false true 6),
  (.ifCond .eq 12, 39, 63, false, aT [45]),
  (.aload_n 0, 40, 66, false, aC 0),
  (.iload_n 1, 41, 67, false, aC 0),
  (.iconst 0, 42, 68, false, aC (nI 0)),
  (.invokevirtual 184, 43, 69, false, aM 141 2 false true 6),
  (.goto 5, 44, 72, false, aT [46]),
  (.bipush 12, 45, 75, false, aC (nI 12)),
  (.iastore, 46, 77, false, aC 0),
  (.aload_n 0, 47, 78, false, aC 0),
  (.getfield 53, 48, 79, false, aF 6 19 20 false),
  (.iload_n 3, 49, 82, false, aC 0),
  (.iconst 1, 50, 83, false, aC (nI 1)),
  (.iadd, 51, 84, false, aC 0),
  (.iaload, 52, 85, false, aC 0),
  (.ifCond .ge 5, 53, 86, false, aT [56]),
  (.iconst 0, 54, 89, false, aC (nI 0)),
  (.ireturn, 55, 90, false, aC 0),
  (.aload_n 0, 56, 91, false, aC 0),
  (.getfield 53, 57, 92, false, aF 6 19 20 false),
  (.iload_n 3, 58, 95, false, aC 0),
  (.iconst 2, 59, 96, false, aC (nI 2)),
  (.iadd, 60, 97, false, aC 0),
  (.aload_n 0, 61, 98, false, aC 0),
  (.bipush 111, 62, 99, false, aC (nI 111)),
  (.invokevirtual 181, 63, 101, false, aM 140 1 false true 6),
  (.ifCond .eq 12, 64, 104, false, aT [70]),
  (.aload_n 0, 65, 107, false, aC 0),
  (.iload_n 1, 66, 108, false, aC 0),
  (.iconst 1, 67, 109, false, aC (nI 1)),
  (.invokevirtual 184, 68, 110, false, aM 141 2 false true 6),
  (.goto 5, 69, 113, false, aT [71]),
  (.bipush 12, 70, 116, false, aC (nI 12)),
  (.iastore, 71, 118, false, aC 0),
  (.aload_n 0, 72, 119, false, aC 0),
  (.getfield 53, 73, 120, false, aF 6 19 20 false),
  (.iload_n 3, 74, 123, false, aC 0),
  (.iconst 2, 75, 124, false, aC (nI 2)),
  (.iadd, 76, 125, false, aC 0),
  (.iaload, 77, 126, false, aC 0),
  (.ifCond .ge 5, 78, 127, false, aT [81]),
  (.iconst 0, 79, 130, false, aC (nI 0)),
  (.ireturn, 80, 131, false, aC 0),
  (.aload_n 0, 81, 132, false, aC 0),
  (.getfield 53, 82, 133, false, aF 6 19 20 false),
  (.iload_n 3, 83, 136, false, aC 0),
  (.iconst 3, 84, 137, false, aC (nI 3)),
  (.iadd, 85, 138, false, aC 0),
  (.bipush 12, 86, 139, false, aC (nI 12)),
  (.iastore, 87, 141, false, aC 0),
  (.aload_n 0, 88, 142, false, aC 0),
  (.bipush 115, 89, 143, false, aC (nI 115)),
  (.invokevirtual 181, 90, 145, false, aM 140 1 false true 6),
  (.ifCond .eq 94, 91, 148, false, aT [151]),
  (.aload_n 0, 92, 151, false, aC 0),
  (.invokevirtual 177, 93, 152, false, aM 139 0 false true 6),
  (.bipush 97, 94, 155, false, aC (nI 97)),
  (.isub, 95, 157, false, aC 0),
  (.istore 4, 96, 158, false, aC 0),
  (.iload 4, 97, 160, false, aC 0),
  (.i2l, 98, 162, false, aC 0),
  (.lconst 0, 99, 163, false, aL 0),
  (.iload_n 1, 100, 164, false, aC 0),
  (.iconst 1, 101, 165, false, aC (nI 1)),
  (.isub, 102, 166, false, aC 0),
  (.i2l, 103, 167, false, aC 0),
  (.invokestatic 86, 104, 168, false, aM 108 3 true true 6),
  (.ifCond .eq 37, 105, 171, false, aT [127]),
  (.aload_n 0, 106, 174, false, aC 0),
  (.getfield 53, 107, 175, false, aF 6 19 20 false),
  (.iconst 4, 108, 178, false, aC (nI 4)),
  (.iload 4, 109, 179, false, aC 0),
  (.imul, 110, 181, false, aC 0),
  (.iaload, 111, 182, false, aC 0),
  (.aload_n 0, 112, 183, false, aC 0),
  (.getfield 53, 113, 184, false, aF 6 19 20 false),
  (.iload_n 3, 114, 187, false, aC 0),
  (.iaload, 115, 188, false, aC 0),
  (.if_icmp .eq 19, 116, 189, false, aT [127]),
  (.aload_n 0, 117, 192, false, aC 0),
  (.getfield 53, 118, 193, false, aF 6 19 20 false),
  (.iconst 4, 119, 196, false, aC (nI 4)),
  (.iload 4, 120, 197, false, aC 0),
  (.imul, 121, 199, false, aC 0),
  (.iconst 3, 122, 200, false, aC (nI 3)),
  (.iadd, 123, 201, false, aC 0),
  (.iaload, 124, 202, false, aC 0),
  (.bipush 12, 125, 203, false, aC (nI 12)),
  (.if_icmp .eq 5, 126, 205, false, aT [129]),
  (.iconst 0, 127, 208, false, aC (nI 0)),
  (.ireturn, 128, 209, false, aC 0),
  (.aload_n 0, 129, 210, false, aC 0),
  (.dup, 130, 211, false, aC 0),
  (.getfield 174, 131, 212, false, aF 6 17 0 false),
  (.iconst 1, 132, 215, false, aC (nI 1)),
  (.iadd, 133, 216, false, aC 0),
  (.putfield 174, 134, 217, false, aF 6 17 0 false),
  (.aload_n 0, 135, 220, false, aC 0),
  (.getfield 53, 136, 221, false, aF 6 19 20 false),
  (.iload_n 3, 137, 224, false, aC 0),
  (.iconst 3, 138, 225, false, aC (nI 3)),
  (.iadd, 139, 226, false, aC 0),
  (.iload 4, 140, 227, false, aC 0),
  (.iastore, 141, 229, false, aC 0),
  (.aload_n 0, 142, 230, false, aC 0),
  (.getfield 53, 143, 231, false, aF 6 19 20 false),
  (.iconst 4, 144, 234, false, aC (nI 4)),
  (.iload 4, 145, 235, false, aC 0),
  (.imul, 146, 237, false, aC 0),
  (.iconst 3, 147, 238, false, aC (nI 3)),
  (.iadd, 148, 239, false, aC 0),
  (.iload_n 1, 149, 240, false, aC 0),
  (.iastore, 150, 241, false, aC 0),
  (.iconst 1, 151, 242, false, aC (nI 1)),
  (.ireturn, 152, 243, false, aC 0)]
theorem ok_X6_readPerson : okCode i_X6_readPerson k_X6_readPerson = true := by decide +kernel
/-- heads [31, 62] -/
def k_X6_readRule : List Ins := [(.aload_n 0, 0, 0, false, aC 0),
  (.invokevirtual 177, 1, 1, false, aM 139 0 false true 6),
  (.istore_n 2, 2, 4, false, aC 0),
  (.iload_n 2, 3, 5, false, aC 0),
  (.bipush 108, 4, 6, false, aC (nI 108)),
  (.if_icmp .ne 7, 5, 8, false, aT [8]),
  (.iconst 0, 6, 11, false, aC (nI 0)),
  (.goto 34, 7, 12, false, aT [24]),
  (.iload_n 2, 8, 15, false, aC 0),
  (.bipush 100, 9, 16, false, aC (nI 100)),
  (.if_icmp .ne 7, 10, 18, false, aT [13]),
  (.iconst 1, 11, 21, false, aC (nI 1)),
  (.goto 24, 12, 22, false, aT [24]),
  (.iload_n 2, 13, 25, false, aC 0),
  (.bipush 113, 14, 26, false, aC (nI 113)),
  (.if_icmp .ne 7, 15, 28, false, aT [18]),
  (.iconst 2, 16, 31, false, aC (nI 2)),
  (.goto 14, 17, 32, false, aT [24]),
  (.iload_n 2, 18, 35, false, aC 0),
  (.bipush 106, 19, 36, false, aC (nI 106)),
  (.if_icmp .ne 7, 20, 38, false, aT [23]),
  (.iconst 3, 21, 41, false, aC (nI 3)),
  (.goto 4, 22, 42, false, aT [24]),
  (.iconst (-1), 23, 45, false, aC ((-1))),
  (.istore_n 3, 24, 46, false, aC 0),
  (.iload_n 3, 25, 47, false, aC 0),
  (.ifCond .ge 5, 26, 48, false, aT [29]),
  (.iconst 0, 27, 51, false, aC (nI 0)),
  (.ireturn, 28, 52, false, aC 0),
  (.iconst 0, 29, 53, false, aC (nI 0)),
  (.istore 4, 30, 54, false, aC 0),
  (.iload 4, 31, 56, true, aC 0),
  (.iload_n 1, 32, 58, false, aC 0),
  (.if_icmp .ge 24, 33, 59, false, aT [46]),
  (.aload_n 0, 34, 62, false, aC 0),
  (.getfield 53, 35, 63, false, aF 6 19 20 false),
  (.iconst 5, 36, 66, false, aC (nI 5)),
  (.iload 4, 37, 67, false, aC 0),
  (.imul, 38, 69, false, aC 0),
  (.iaload, 39, 70, false, aC 0),
  (.iload_n 3, 40, 71, false, aC 0),
  (.if_icmp .ne 5, 41, 72, false, aT [44]),
  (.iconst 0, 42, 75, false, aC (nI 0)),
  (.ireturn, 43, 76, false, aC 0),
  (.iinc 4 1, 44, 77, false, aC (nI 1)),
  (.goto (-24), 45, 80, false, aT [31]),
  (.aload_n 0, 46, 83, false, aC 0),
  (.dup, 47, 84, false, aC 0),
  (.getfield 174, 48, 85, false, aF 6 17 0 false),
  (.iconst 1, 49, 88, false, aC (nI 1)),
  (.iadd, 50, 89, false, aC 0),
  (.putfield 174, 51, 90, false, aF 6 17 0 false),
  (.aload_n 0, 52, 93, false, aC 0),
  (.bipush 58, 53, 94, false, aC (nI 58)),
  (.invokevirtual 181, 54, 96, false, aM 140 1 false true 6),
  (.ifCond .ne 5, 55, 99, false, aT [58]),
  (.iconst 0, 56, 102, false, aC (nI 0)),
  (.ireturn, 57, 103, false, aC 0),
  (.iconst 0, 58, 104, false, aC (nI 0)),
  (.istore 4, 59, 105, false, aC 0),
  (.iconst 0, 60, 107, false, aC (nI 0)),
  (.istore 5, 61, 108, false, aC 0),
  (.iload 5, 62, 110, true, aC 0),
  (.ifCond .eq 20, 63, 112, false, aT [71]),
  (.aload_n 0, 64, 115, false, aC 0),
  (.invokevirtual 177, 65, 116, false, aM 139 0 false true 6),
  (.i2l, 66, 119, false, aC 0),
  (.ldc2_w 187, 67, 120, false, aL 48),
  (.ldc2_w 189, 68, 123, false, aL 57),
  (.invokestatic 86, 69, 126, false, aM 108 3 true true 6),
  (.ifCond .eq 83, 70, 129, false, aT [116]),
  (.aload_n 0, 71, 132, false, aC 0),
  (.invokevirtual 177, 72, 133, false, aM 139 0 false true 6),
  (.bipush 48, 73, 136, false, aC (nI 48)),
  (.isub, 74, 138, false, aC 0),
  (.istore 6, 75, 139, false, aC 0),
  (.iload 6, 76, 141, false, aC 0),
  (.i2l, 77, 143, false, aC 0),
  (.lconst 0, 78, 144, false, aL 0),
  (.ldc2_w 135, 79, 145, false, aL 5),
  (.invokestatic 86, 80, 148, false, aM 108 3 true true 6),
  (.ifCond .eq 19, 81, 151, false, aT [89]),
  (.iload 4, 82, 154, false, aC 0),
  (.iload 6, 83, 156, false, aC 0),
  (.invokestatic 157, 84, 158, false, aM 109 2 true true 6),
  (.ifCond .ne 9, 85, 161, false, aT [89]),
  (.iload 5, 86, 164, false, aC 0),
  (.iconst 3, 87, 166, false, aC (nI 3)),
  (.if_icmp .ne 5, 88, 167, false, aT [91]),
  (.iconst 0, 89, 170, false, aC (nI 0)),
  (.ireturn, 90, 171, false, aC 0),
  (.iload 4, 91, 172, false, aC 0),
  (.iconst 1, 92, 174, false, aC (nI 1)),
  (.iload 6, 93, 175, false, aC 0),
  (.ishl, 94, 177, false, aC 0),
  (.ior, 95, 178, false, aC 0),
  (.istore 4, 96, 179, false, aC 0),
  (.aload_n 0, 97, 181, false, aC 0),
  (.getfield 53, 98, 182, false, aF 6 19 20 false),
  (.iconst 5, 99, 185, false, aC (nI 5)),
  (.iload_n 1, 100, 186, false, aC 0),
  (.imul, 101, 187, false, aC 0),
  (.iconst 2, 102, 188, false, aC (nI 2)),
  (.iadd, 103, 189, false, aC 0),
  (.iload 5, 104, 190, false, aC 0),
  (.iadd, 105, 192, false, aC 0),
  (.iload 6, 106, 193, false, aC 0),
  (.iastore, 107, 195, false, aC 0),
  (.iinc 5 1, 108, 196, false, aC (nI 1)),
  (.aload_n 0, 109, 199, false, aC 0),
  (.dup, 110, 200, false, aC 0),
  (.getfield 174, 111, 201, false, aF 6 17 0 false),
  (.iconst 1, 112, 204, false, aC (nI 1)),
  (.iadd, 113, 205, false, aC 0),
  (.putfield 174, 114, 206, false, aF 6 17 0 false),
  (.goto (-99), 115, 209, false, aT [62]),
  (.aload_n 0, 116, 212, false, aC 0),
  (.getfield 53, 117, 213, false, aF 6 19 20 false),
  (.iconst 5, 118, 216, false, aC (nI 5)),
  (.iload_n 1, 119, 217, false, aC 0),
  (.imul, 120, 218, false, aC 0),
  (.iload_n 3, 121, 219, false, aC 0),
  (.iastore, 122, 220, false, aC 0),
  (.aload_n 0, 123, 221, false, aC 0),
  (.getfield 53, 124, 222, false, aF 6 19 20 false),
  (.iconst 5, 125, 225, false, aC (nI 5)),
  (.iload_n 1, 126, 226, false, aC 0),
  (.imul, 127, 227, false, aC 0),
  (.iconst 1, 128, 228, false, aC (nI 1)),
  (.iadd, 129, 229, false, aC 0),
  (.iload 5, 130, 230, false, aC 0),
  (.iastore, 131, 232, false, aC 0),
  (.iconst 1, 132, 233, false, aC (nI 1)),
  (.ireturn, 133, 234, false, aC 0)]
theorem ok_X6_readRule : okCode i_X6_readRule k_X6_readRule = true := by decide +kernel
/-- heads [5] -/
def k_X6_readAll : List Ins := [(.aload_n 0, 0, 0, false, aC 0),
  (.iconst 0, 1, 1, false, aC (nI 0)),
  (.putfield 174, 2, 2, false, aF 6 17 0 false),
  (.iconst 0, 3, 5, false, aC (nI 0)),
  (.istore_n 3, 4, 6, false, aC 0),
  (.iload_n 3, 5, 7, true, aC 0),
  (.iload_n 1, 6, 8, false, aC 0),
  (.if_icmp .ge 81, 7, 9, false, aT [52]),
  (.iload_n 2, 8, 12, false, aC 0),
  (.bipush 44, 9, 13, false, aC (nI 44)),
  (.if_icmp .ne 14, 10, 15, false, aT [16]),
  (.aload_n 0, 11, 18, false, aC 0),
  (.iload_n 3, 12, 19, false, aC 0),
  (.invokevirtual 191, 13, 20, false, aM 142 1 false true 6),
  (.ifCond .eq 14, 14, 23, false, aT [20]),
  (.goto 13, 15, 26, false, aT [22]),
  (.aload_n 0, 16, 29, false, aC 0),
  (.iload_n 3, 17, 30, false, aC 0),
  (.invokevirtual 194, 18, 31, false, aM 143 1 false true 6),
  (.ifCond .ne 5, 19, 34, false, aT [22]),
  (.iconst 0, 20, 37, false, aC (nI 0)),
  (.ireturn, 21, 38, false, aC 0),
  (.aload_n 0, 22, 39, false, aC 0),
  (.iload_n 3, 23, 40, false, aC 0),
  (.iconst 1, 24, 41, false, aC (nI 1)),
  (.iadd, 25, 42, false, aC 0),
  (.putfield 197, 26, 43, false, aF 6 18 0 false),
  (.aload_n 0, 27, 46, false, aC 0),
  (.invokevirtual 177, 28, 47, false, aM 139 0 false true 6),
  (.istore 4, 29, 50, false, aC 0),
  (.iload 4, 30, 52, false, aC 0),
  (.ifCond .ge 5, 31, 54, false, aT [34]),
  (.iconst 1, 32, 57, false, aC (nI 1)),
  (.ireturn, 33, 58, false, aC 0),
  (.iload 4, 34, 59, false, aC 0),
  (.iload_n 2, 35, 61, false, aC 0),
  (.if_icmp .ne 10, 36, 62, false, aT [42]),
  (.iload_n 3, 37, 65, false, aC 0),
  (.iload_n 1, 38, 66, false, aC 0),
  (.iconst 1, 39, 67, false, aC (nI 1)),
  (.isub, 40, 68, false, aC 0),
  (.if_icmp .ne 5, 41, 69, false, aT [44]),
  (.iconst 0, 42, 72, false, aC (nI 0)),
  (.ireturn, 43, 73, false, aC 0),
  (.aload_n 0, 44, 74, false, aC 0),
  (.dup, 45, 75, false, aC 0),
  (.getfield 174, 46, 76, false, aF 6 17 0 false),
  (.iconst 1, 47, 79, false, aC (nI 1)),
  (.iadd, 48, 80, false, aC 0),
  (.putfield 174, 49, 81, false, aF 6 17 0 false),
  (.iinc 3 1, 50, 84, false, aC (nI 1)),
  (.goto (-80), 51, 87, false, aT [5]),
  (.iconst 0, 52, 90, false, aC (nI 0)),
  (.ireturn, 53, 91, false, aC 0)]
theorem ok_X6_readAll : okCode i_X6_readAll k_X6_readAll = true := by decide +kernel
/-- heads [] -/
def k_X6_end : List Ins := [(.iload_n 1, 0, 0, false, aC 0),
  (.ifCond .ne 8, 1, 1, false, aT [5]),
  (.aload_n 0, 2, 4, false, aC 0),
  (.invokevirtual 177, 3, 5, false, aM 139 0 false true 6),
  (.pop, 4, 8, false, aC 0),
  (.aload_n 0, 5, 9, false, aC 0),
  (.iconst 0, 6, 10, false, aC (nI 0)),
  (.putfield 171, 7, 11, false, aF 6 16 0 false),
  (.iload_n 1, 8, 14, false, aC 0),
  (.ifCond .eq 7, 9, 15, false, aT [12]),
  (.iconst 0, 10, 18, false, aC (nI 0)),
  (.goto 10, 11, 19, false, aT [16]),
  (.bipush (-20), 12, 22, false, aC ((-20))),
  (.aload_n 0, 13, 24, false, aC 0),
  (.getfield 174, 14, 25, false, aF 6 17 0 false),
  (.isub, 15, 28, false, aC 0),
  (.ireturn, 16, 29, false, aC 0)]
theorem ok_X6_end : okCode i_X6_end k_X6_end = true := by decide +kernel
/-- heads [19, 51] -/
def k_X6_family : List Ins := [(.aload_n 0, 0, 0, false, aC 0),
  (.aload_n 0, 1, 1, false, aC 0),
  (.bipush 12, 2, 2, false, aC (nI 12)),
  (.bipush 44, 3, 4, false, aC (nI 44)),
  (.invokevirtual 200, 4, 6, false, aM 144 2 false true 6),
  (.invokevirtual 203, 5, 9, false, aM 145 1 false true 6),
  (.istore_n 1, 6, 12, false, aC 0),
  (.iload_n 1, 7, 13, false, aC 0),
  (.ifCond .ge 5, 8, 14, false, aT [11]),
  (.iload_n 1, 9, 17, false, aC 0),
  (.ireturn, 10, 18, false, aC 0),
  (.aload_n 0, 11, 19, false, aC 0),
  (.iconst 0, 12, 20, false, aC (nI 0)),
  (.putfield 83, 13, 21, false, aF 6 6 0 false),
  (.aload_n 0, 14, 24, false, aC 0),
  (.iconst 0, 15, 25, false, aC (nI 0)),
  (.putfield 90, 16, 26, false, aF 6 11 0 false),
  (.iconst 0, 17, 29, false, aC (nI 0)),
  (.istore_n 2, 18, 30, false, aC 0),
  (.iload_n 2, 19, 31, true, aC 0),
  (.aload_n 0, 20, 32, false, aC 0),
  (.getfield 197, 21, 33, false, aF 6 18 0 false),
  (.if_icmp .ge 41, 22, 36, false, aT [49]),
  (.aload_n 0, 23, 39, false, aC 0),
  (.aload_n 0, 24, 40, false, aC 0),
  (.getfield 53, 25, 41, false, aF 6 19 20 false),
  (.iconst 4, 26, 44, false, aC (nI 4)),
  (.iload_n 2, 27, 45, false, aC 0),
  (.imul, 28, 46, false, aC 0),
  (.iaload, 29, 47, false, aC 0),
  (.aload_n 0, 30, 48, false, aC 0),
  (.getfield 53, 31, 49, false, aF 6 19 20 false),
  (.iconst 4, 32, 52, false, aC (nI 4)),
  (.iload_n 2, 33, 53, false, aC 0),
  (.imul, 34, 54, false, aC 0),
  (.iconst 1, 35, 55, false, aC (nI 1)),
  (.iadd, 36, 56, false, aC 0),
  (.iaload, 37, 57, false, aC 0),
  (.aload_n 0, 38, 58, false, aC 0),
  (.getfield 53, 39, 59, false, aF 6 19 20 false),
  (.iconst 4, 40, 62, false, aC (nI 4)),
  (.iload_n 2, 41, 63, false, aC 0),
  (.imul, 42, 64, false, aC 0),
  (.iconst 2, 43, 65, false, aC (nI 2)),
  (.iadd, 44, 66, false, aC 0),
  (.iaload, 45, 67, false, aC 0),
  (.invokevirtual 101, 46, 68, false, aM 114 3 false false 6),
  (.iinc 2 1, 47, 71, false, aC (nI 1)),
  (.goto (-43), 48, 74, false, aT [19]),
  (.iconst 0, 49, 77, false, aC (nI 0)),
  (.istore_n 2, 50, 78, false, aC 0),
  (.iload_n 2, 51, 79, true, aC 0),
  (.aload_n 0, 52, 80, false, aC 0),
  (.getfield 197, 53, 81, false, aF 6 18 0 false),
  (.if_icmp .ge 25, 54, 84, false, aT [69]),
  (.aload_n 0, 55, 87, false, aC 0),
  (.getfield 19, 56, 88, false, aF 6 3 4 false),
  (.iload_n 2, 57, 91, false, aC 0),
  (.aload_n 0, 58, 92, false, aC 0),
  (.getfield 53, 59, 93, false, aF 6 19 20 false),
  (.iconst 4, 60, 96, false, aC (nI 4)),
  (.iload_n 2, 61, 97, false, aC 0),
  (.imul, 62, 98, false, aC 0),
  (.iconst 3, 63, 99, false, aC (nI 3)),
  (.iadd, 64, 100, false, aC 0),
  (.iaload, 65, 101, false, aC 0),
  (.iastore, 66, 102, false, aC 0),
  (.iinc 2 1, 67, 103, false, aC (nI 1)),
  (.goto (-27), 68, 106, false, aT [51]),
  (.aload_n 0, 69, 109, false, aC 0),
  (.getfield 83, 70, 110, false, aF 6 6 0 false),
  (.ireturn, 71, 113, false, aC 0)]
theorem ok_X6_family : okCode i_X6_family k_X6_family = true := by decide +kernel
/-- heads [13, 38] -/
def k_X6_rules : List Ins := [(.aload_n 0, 0, 0, false, aC 0),
  (.aload_n 0, 1, 1, false, aC 0),
  (.iconst 4, 2, 2, false, aC (nI 4)),
  (.bipush 59, 3, 3, false, aC (nI 59)),
  (.invokevirtual 200, 4, 5, false, aM 144 2 false true 6),
  (.invokevirtual 203, 5, 8, false, aM 145 1 false true 6),
  (.istore_n 1, 6, 11, false, aC 0),
  (.iload_n 1, 7, 12, false, aC 0),
  (.ifCond .ge 5, 8, 13, false, aT [11]),
  (.iload_n 1, 9, 16, false, aC 0),
  (.ireturn, 10, 17, false, aC 0),
  (.iconst 0, 11, 18, false, aC (nI 0)),
  (.istore_n 2, 12, 19, false, aC 0),
  (.iload_n 2, 13, 20, true, aC 0),
  (.aload_n 0, 14, 21, false, aC 0),
  (.getfield 197, 15, 22, false, aF 6 18 0 false),
  (.if_icmp .ge 78, 16, 25, false, aT [66]),
  (.aload_n 0, 17, 28, false, aC 0),
  (.getfield 53, 18, 29, false, aF 6 19 20 false),
  (.iconst 5, 19, 32, false, aC (nI 5)),
  (.iload_n 2, 20, 33, false, aC 0),
  (.imul, 21, 34, false, aC 0),
  (.iaload, 22, 35, false, aC 0),
  (.istore_n 3, 23, 36, false, aC 0),
  (.aload_n 0, 24, 37, false, aC 0),
  (.getfield 43, 25, 38, false, aF 6 13 14 false),
  (.iload_n 3, 26, 41, false, aC 0),
  (.aload_n 0, 27, 42, false, aC 0),
  (.getfield 53, 28, 43, false, aF 6 19 20 false),
  (.iconst 5, 29, 46, false, aC (nI 5)),
  (.iload_n 2, 30, 47, false, aC 0),
  (.imul, 31, 48, false, aC 0),
  (.iconst 1, 32, 49, false, aC (nI 1)),
  (.iadd, 33, 50, false, aC 0),
  (.iaload, 34, 51, false, aC 0),
  (.iastore, 35, 52, false, aC 0),
  (.iconst 0, 36, 53, false, aC (nI 0)),
  (.istore 4, 37, 54, false, aC 0),
  (.iload 4, 38, 56, true, aC 0),
  (.aload_n 0, 39, 58, false, aC 0),
  (.getfield 43, 40, 59, false, aF 6 13 14 false),
  (.iload_n 3, 41, 62, false, aC 0),
  (.iaload, 42, 63, false, aC 0),
  (.if_icmp .ge 33, 43, 64, false, aT [64]),
  (.aload_n 0, 44, 67, false, aC 0),
  (.getfield 40, 45, 68, false, aF 6 12 13 false),
  (.iconst 3, 46, 71, false, aC (nI 3)),
  (.iload_n 3, 47, 72, false, aC 0),
  (.imul, 48, 73, false, aC 0),
  (.iload 4, 49, 74, false, aC 0),
  (.iadd, 50, 76, false, aC 0),
  (.aload_n 0, 51, 77, false, aC 0),
  (.getfield 53, 52, 78, false, aF 6 19 20 false),
  (.iconst 5, 53, 81, false, aC (nI 5)),
  (.iload_n 2, 54, 82, false, aC 0),
  (.imul, 55, 83, false, aC 0),
  (.iconst 2, 56, 84, false, aC (nI 2)),
  (.iadd, 57, 85, false, aC 0),
  (.iload 4, 58, 86, false, aC 0),
  (.iadd, 59, 88, false, aC 0),
  (.iaload, 60, 89, false, aC 0),
  (.iastore, 61, 90, false, aC 0),
  (.iinc 4 1, 62, 91, false, aC (nI 1)),
  (.goto (-38), 63, 94, false, aT [38]),
  (.iinc 2 1, 64, 97, false, aC (nI 1)),
  (.goto (-80), 65, 100, false, aT [13]),
  (.aload_n 0, 66, 103, false, aC 0),
  (.getfield 197, 67, 104, false, aF 6 18 0 false),
  (.ireturn, 68, 107, false, aC 0)]
theorem ok_X6_rules : okCode i_X6_rules k_X6_rules = true := by decide +kernel
/-- heads [4, 27] -/
def k_X6_count : List Ins := [(.iconst 0, 0, 0, false, aC (nI 0)),
  (.istore_n 2, 1, 1, false, aC 0),
  (.iconst 0, 2, 2, false, aC (nI 0)),
  (.istore_n 3, 3, 3, false, aC 0),
  (.iload_n 3, 4, 4, true, aC 0),
  (.aload_n 0, 5, 5, false, aC 0),
  (.getfield 83, 6, 6, false, aF 6 6 0 false),
  (.if_icmp .ge 18, 7, 9, false, aT [17]),
  (.iload_n 2, 8, 12, false, aC 0),
  (.aload_n 0, 9, 13, false, aC 0),
  (.getfield 25, 10, 14, false, aF 6 5 6 false),
  (.iload_n 3, 11, 17, false, aC 0),
  (.iaload, 12, 18, false, aC 0),
  (.iadd, 13, 19, false, aC 0),
  (.istore_n 2, 14, 20, false, aC 0),
  (.iinc 3 1, 15, 21, false, aC (nI 1)),
  (.goto (-20), 16, 24, false, aT [4]),
  (.iconst 0, 17, 27, false, aC (nI 0)),
  (.istore_n 3, 18, 28, false, aC 0),
  (.iconst 0, 19, 29, false, aC (nI 0)),
  (.istore 4, 20, 30, false, aC 0),
  (.iconst 0, 21, 32, false, aC (nI 0)),
  (.istore 5, 22, 33, false, aC 0),
  (.iconst 0, 23, 35, false, aC (nI 0)),
  (.istore 6, 24, 36, false, aC 0),
  (.iconst 0, 25, 38, false, aC (nI 0)),
  (.istore 7, 26, 39, false, aC 0),
  (.iload 7, 27, 41, true, aC 0),
  (.aload_n 0, 28, 43, false, aC 0),
  (.getfield 90, 29, 44, false, aF 6 11 0 false),
  (.if_icmp .ge 111, 30, 47, false, aT [89]),
  (.iload_n 3, 31, 50, false, aC 0),
  (.aload_n 0, 32, 51, false, aC 0),
  (.getfield 34, 33, 52, false, aF 6 9 10 false),
  (.iload 7, 34, 55, false, aC 0),
  (.iaload, 35, 57, false, aC 0),
  (.bipush 12, 36, 58, false, aC (nI 12)),
  (.if_icmp .ge 7, 37, 60, false, aT [40]),
  (.iconst 1, 38, 63, false, aC (nI 1)),
  (.goto 4, 39, 64, false, aT [41]),
  (.iconst 0, 40, 67, false, aC (nI 0)),
  (.iadd, 41, 68, false, aC 0),
  (.istore_n 3, 42, 69, false, aC 0),
  (.iload 4, 43, 70, false, aC 0),
  (.aload_n 0, 44, 72, false, aC 0),
  (.getfield 34, 45, 73, false, aF 6 9 10 false),
  (.iload 7, 46, 76, false, aC 0),
  (.iaload, 47, 78, false, aC 0),
  (.bipush 12, 48, 79, false, aC (nI 12)),
  (.if_icmp .ne 7, 49, 81, false, aT [52]),
  (.iconst 1, 50, 84, false, aC (nI 1)),
  (.goto 4, 51, 85, false, aT [53]),
  (.iconst 0, 52, 88, false, aC (nI 0)),
  (.iadd, 53, 89, false, aC 0),
  (.istore 4, 54, 90, false, aC 0),
  (.iload 5, 55, 92, false, aC 0),
  (.aload_n 0, 56, 94, false, aC 0),
  (.getfield 34, 57, 95, false, aF 6 9 10 false),
  (.iload 7, 58, 98, false, aC 0),
  (.iaload, 59, 100, false, aC 0),
  (.bipush 13, 60, 101, false, aC (nI 13)),
  (.if_icmp .ne 7, 61, 103, false, aT [64]),
  (.iconst 1, 62, 106, false, aC (nI 1)),
  (.goto 4, 63, 107, false, aT [65]),
  (.iconst 0, 64, 110, false, aC (nI 0)),
  (.iadd, 65, 111, false, aC 0),
  (.istore 5, 66, 112, false, aC 0),
  (.iload 6, 67, 114, false, aC 0),
  (.aload_n 0, 68, 116, false, aC 0),
  (.getfield 34, 69, 117, false, aF 6 9 10 false),
  (.iload 7, 70, 120, false, aC 0),
  (.iaload, 71, 122, false, aC 0),
  (.bipush 12, 72, 123, false, aC (nI 12)),
  (.if_icmp .ge 23, 73, 125, false, aT [84]),
  (.aload_n 0, 74, 128, false, aC 0),
  (.getfield 28, 75, 129, false, aF 6 7 8 false),
  (.iload 7, 76, 132, false, aC 0),
  (.iaload, 77, 134, false, aC 0),
  (.ifCond .ne 13, 78, 135, false, aT [84]),
  (.aload_n 0, 79, 138, false, aC 0),
  (.getfield 31, 80, 139, false, aF 6 8 9 false),
  (.iload 7, 81, 142, false, aC 0),
  (.iaload, 82, 144, false, aC 0),
  (.goto 4, 83, 145, false, aT [85]),
  (.iconst 0, 84, 148, false, aC (nI 0)),
  (.iadd, 85, 149, false, aC 0),
  (.istore 6, 86, 150, false, aC 0),
  (.iinc 7 1, 87, 152, false, aC (nI 1)),
  (.goto (-114), 88, 155, false, aT [27]),
  (.iload_n 1, 89, 158, false, aC 0),
  (.tableswitch 64 0 6 #[41, 46, 48, 53, 55, 58, 61], 90, 159, false, aT [107, 91, 94, 96, 99, 101, 103, 105]),
  (.aload_n 0, 91, 200, false, aC 0),
  (.getfield 83, 92, 201, false, aF 6 6 0 false),
  (.ireturn, 93, 204, false, aC 0),
  (.iload_n 2, 94, 205, false, aC 0),
  (.ireturn, 95, 206, false, aC 0),
  (.aload_n 0, 96, 207, false, aC 0),
  (.getfield 90, 97, 208, false, aF 6 11 0 false),
  (.ireturn, 98, 211, false, aC 0),
  (.iload_n 3, 99, 212, false, aC 0),
  (.ireturn, 100, 213, false, aC 0),
  (.iload 4, 101, 214, false, aC 0),
  (.ireturn, 102, 216, false, aC 0),
  (.iload 5, 103, 217, false, aC 0),
  (.ireturn, 104, 219, false, aC 0),
  (.iload 6, 105, 220, false, aC 0),
  (.ireturn, 106, 222, false, aC 0),
  (.iconst (-1), 107, 223, false, aC ((-1))),
  (.ireturn, 108, 224, false, aC 0)]
theorem ok_X6_count : okCode i_X6_count k_X6_count = true := by decide +kernel
/-- heads [] -/
def k_X6_end1 : List Ins := [(.aload_n 0, 0, 0, false, aC 0),
  (.getfield 34, 1, 1, false, aF 6 9 10 false),
  (.iload_n 1, 2, 4, false, aC 0),
  (.iload_n 2, 3, 5, false, aC 0),
  (.iastore, 4, 6, false, aC 0),
  (.aload_n 0, 5, 7, false, aC 0),
  (.getfield 37, 6, 8, false, aF 6 10 11 false),
  (.iload_n 1, 7, 11, false, aC 0),
  (.bipush 12, 8, 12, false, aC (nI 12)),
  (.iastore, 9, 14, false, aC 0),
  (.return_, 10, 15, false, aC 0)]
theorem ok_X6_end1 : okCode i_X6_end1 k_X6_end1 = true := by decide +kernel
/-- heads [9, 50, 95] -/
def k_X6_die : List Ins := [(.aload_n 0, 0, 0, false, aC 0),
  (.getfield 25, 1, 1, false, aF 6 5 6 false),
  (.iload_n 1, 2, 4, false, aC 0),
  (.iconst 0, 3, 5, false, aC (nI 0)),
  (.iastore, 4, 6, false, aC 0),
  (.iconst 0, 5, 7, false, aC (nI 0)),
  (.istore_n 2, 6, 8, false, aC 0),
  (.iconst 0, 7, 9, false, aC (nI 0)),
  (.istore_n 3, 8, 10, false, aC 0),
  (.iload_n 3, 9, 11, true, aC 0),
  (.aload_n 0, 10, 12, false, aC 0),
  (.getfield 90, 11, 13, false, aF 6 11 0 false),
  (.if_icmp .ge 67, 12, 16, false, aT [48]),
  (.aload_n 0, 13, 19, false, aC 0),
  (.getfield 34, 14, 20, false, aF 6 9 10 false),
  (.iload_n 3, 15, 23, false, aC 0),
  (.iaload, 16, 24, false, aC 0),
  (.iload_n 1, 17, 25, false, aC 0),
  (.if_icmp .ne 51, 18, 26, false, aT [46]),
  (.iinc 2 1, 19, 29, false, aC (nI 1)),
  (.aload_n 0, 20, 32, false, aC 0),
  (.iload_n 1, 21, 33, false, aC 0),
  (.aload_n 0, 22, 34, false, aC 0),
  (.getfield 28, 23, 35, false, aF 6 7 8 false),
  (.iload_n 3, 24, 38, false, aC 0),
  (.iaload, 25, 39, false, aC 0),
  (.invokevirtual 160, 26, 40, false, aM 136 2 false true 6),
  (.istore 4, 27, 43, false, aC 0),
  (.aload_n 0, 28, 45, false, aC 0),
  (.getfield 34, 29, 46, false, aF 6 9 10 false),
  (.iload_n 3, 30, 49, false, aC 0),
  (.iload 4, 31, 50, false, aC 0),
  (.iastore, 32, 52, false, aC 0),
  (.aload_n 0, 33, 53, false, aC 0),
  (.getfield 37, 34, 54, false, aF 6 10 11 false),
  (.iload_n 3, 35, 57, false, aC 0),
  (.iload 4, 36, 58, false, aC 0),
  (.bipush 12, 37, 60, false, aC (nI 12)),
  (.if_icmp .ne 8, 38, 62, false, aT [41]),
  (.bipush 12, 39, 65, false, aC (nI 12)),
  (.goto 9, 40, 67, false, aT [45]),
  (.aload_n 0, 41, 70, false, aC 0),
  (.getfield 37, 42, 71, false, aF 6 10 11 false),
  (.iload_n 3, 43, 74, false, aC 0),
  (.iaload, 44, 75, false, aC 0),
  (.iastore, 45, 76, false, aC 0),
  (.iinc 3 1, 46, 77, false, aC (nI 1)),
  (.goto (-69), 47, 80, false, aT [9]),
  (.iconst 0, 48, 83, false, aC (nI 0)),
  (.istore_n 3, 49, 84, false, aC 0),
  (.iload_n 3, 50, 85, true, aC 0),
  (.aload_n 0, 51, 86, false, aC 0),
  (.getfield 90, 52, 87, false, aF 6 11 0 false),
  (.if_icmp .ge 74, 53, 90, false, aT [93]),
  (.aload_n 0, 54, 93, false, aC 0),
  (.getfield 34, 55, 94, false, aF 6 9 10 false),
  (.iload_n 3, 56, 97, false, aC 0),
  (.iaload, 57, 98, false, aC 0),
  (.bipush 12, 58, 99, false, aC (nI 12)),
  (.if_icmp .ge 57, 59, 101, false, aT [91]),
  (.aload_n 0, 60, 104, false, aC 0),
  (.getfield 37, 61, 105, false, aF 6 10 11 false),
  (.iload_n 3, 62, 108, false, aC 0),
  (.iaload, 63, 109, false, aC 0),
  (.iload_n 1, 64, 110, false, aC 0),
  (.if_icmp .ne 47, 65, 111, false, aT [91]),
  (.aload_n 0, 66, 114, false, aC 0),
  (.iload_n 1, 67, 115, false, aC 0),
  (.aload_n 0, 68, 116, false, aC 0),
  (.getfield 28, 69, 117, false, aF 6 7 8 false),
  (.iload_n 3, 70, 120, false, aC 0),
  (.iaload, 71, 121, false, aC 0),
  (.iconst 1, 72, 122, false, aC (nI 1)),
  (.if_icmp .ne 7, 73, 123, false, aT [76]),
  (.iconst 0, 74, 126, false, aC (nI 0)),
  (.goto 4, 75, 127, false, aT [77]),
  (.iconst 2, 76, 130, false, aC (nI 2)),
  (.invokevirtual 160, 77, 131, false, aM 136 2 false true 6),
  (.istore 4, 78, 134, false, aC 0),
  (.aload_n 0, 79, 136, false, aC 0),
  (.getfield 37, 80, 137, false, aF 6 10 11 false),
  (.iload_n 3, 81, 140, false, aC 0),
  (.iload 4, 82, 141, false, aC 0),
  (.iastore, 83, 143, false, aC 0),
  (.iload 4, 84, 144, false, aC 0),
  (.bipush 12, 85, 146, false, aC (nI 12)),
  (.if_icmp .ne 10, 86, 148, false, aT [91]),
  (.aload_n 0, 87, 151, false, aC 0),
  (.iload_n 3, 88, 152, false, aC 0),
  (.bipush 12, 89, 153, false, aC (nI 12)),
  (.invokevirtual 207, 90, 155, false, aM 149 2 false false 6),
  (.iinc 3 1, 91, 158, false, aC (nI 1)),
  (.goto (-76), 92, 161, false, aT [50]),
  (.iconst 0, 93, 164, false, aC (nI 0)),
  (.istore_n 3, 94, 165, false, aC 0),
  (.iload_n 3, 95, 166, true, aC 0),
  (.aload_n 0, 96, 167, false, aC 0),
  (.getfield 90, 97, 168, false, aF 6 11 0 false),
  (.if_icmp .ge 42, 98, 171, false, aT [120]),
  (.aload_n 0, 99, 174, false, aC 0),
  (.getfield 34, 100, 175, false, aF 6 9 10 false),
  (.iload_n 3, 101, 178, false, aC 0),
  (.iaload, 102, 179, false, aC 0),
  (.bipush 12, 103, 180, false, aC (nI 12)),
  (.if_icmp .ge 25, 104, 182, false, aT [118]),
  (.aload_n 0, 105, 185, false, aC 0),
  (.getfield 34, 106, 186, false, aF 6 9 10 false),
  (.iload_n 3, 107, 189, false, aC 0),
  (.iaload, 108, 190, false, aC 0),
  (.aload_n 0, 109, 191, false, aC 0),
  (.getfield 37, 110, 192, false, aF 6 10 11 false),
  (.iload_n 3, 111, 195, false, aC 0),
  (.iaload, 112, 196, false, aC 0),
  (.if_icmp .ne 10, 113, 197, false, aT [118]),
  (.aload_n 0, 114, 200, false, aC 0),
  (.iload_n 3, 115, 201, false, aC 0),
  (.bipush 13, 116, 202, false, aC (nI 13)),
  (.invokevirtual 207, 117, 204, false, aM 149 2 false false 6),
  (.iinc 3 1, 118, 207, false, aC (nI 1)),
  (.goto (-44), 119, 210, false, aT [95]),
  (.aload_n 0, 120, 213, false, aC 0),
  (.getfield 19, 121, 214, false, aF 6 3 4 false),
  (.iload_n 1, 122, 217, false, aC 0),
  (.iaload, 123, 218, false, aC 0),
  (.bipush 12, 124, 219, false, aC (nI 12)),
  (.if_icmp .eq 31, 125, 221, false, aT [143]),
  (.aload_n 0, 126, 224, false, aC 0),
  (.getfield 19, 127, 225, false, aF 6 3 4 false),
  (.aload_n 0, 128, 228, false, aC 0),
  (.getfield 19, 129, 229, false, aF 6 3 4 false),
  (.iload_n 1, 130, 232, false, aC 0),
  (.iaload, 131, 233, false, aC 0),
  (.iaload, 132, 234, false, aC 0),
  (.iload_n 1, 133, 235, false, aC 0),
  (.if_icmp .ne 16, 134, 236, false, aT [143]),
  (.aload_n 0, 135, 239, false, aC 0),
  (.getfield 19, 136, 240, false, aF 6 3 4 false),
  (.aload_n 0, 137, 243, false, aC 0),
  (.getfield 19, 138, 244, false, aF 6 3 4 false),
  (.iload_n 1, 139, 247, false, aC 0),
  (.iaload, 140, 248, false, aC 0),
  (.bipush 12, 141, 249, false, aC (nI 12)),
  (.iastore, 142, 251, false, aC 0),
  (.iload_n 2, 143, 252, false, aC 0),
  (.ireturn, 144, 253, false, aC 0)]
theorem ok_X6_die : okCode i_X6_die k_X6_die = true := by decide +kernel
/-- heads [] -/
def k_X6_dies : List Ins := [(.aload_n 0, 0, 0, false, aC 0),
  (.iload_n 1, 1, 1, false, aC 0),
  (.invokevirtual 93, 2, 2, false, aM 111 1 false true 6),
  (.ifCond .ne 5, 3, 5, false, aT [6]),
  (.iconst (-1), 4, 8, false, aC ((-1))),
  (.ireturn, 5, 9, false, aC 0),
  (.aload_n 0, 6, 10, false, aC 0),
  (.getfield 25, 7, 11, false, aF 6 5 6 false),
  (.iload_n 1, 8, 14, false, aC 0),
  (.iaload, 9, 15, false, aC 0),
  (.ifCond .ne 8, 10, 16, false, aT [13]),
  (.bipush (-2), 11, 19, false, aC ((-2))),
  (.goto 8, 12, 21, false, aT [16]),
  (.aload_n 0, 13, 24, false, aC 0),
  (.iload_n 1, 14, 25, false, aC 0),
  (.invokevirtual 210, 15, 26, false, aM 150 1 false true 6),
  (.ireturn, 16, 29, false, aC 0)]
theorem ok_X6_dies : okCode i_X6_dies k_X6_dies = true := by decide +kernel
/-- heads [18] -/
def k_X6_gathers : List Ins := [(.iload_n 1, 0, 0, false, aC 0),
  (.i2l, 1, 1, false, aC 0),
  (.lconst 0, 2, 2, false, aL 0),
  (.ldc2_w 213, 3, 3, false, aL 11),
  (.invokestatic 86, 4, 6, false, aM 108 3 true true 6),
  (.ifCond .eq 15, 5, 9, false, aT [12]),
  (.iload_n 2, 6, 12, false, aC 0),
  (.i2l, 7, 13, false, aC 0),
  (.lconst 0, 8, 14, false, aL 0),
  (.ldc2_w 141, 9, 15, false, aL 3),
  (.invokestatic 86, 10, 18, false, aM 108 3 true true 6),
  (.ifCond .ne 5, 11, 21, false, aT [14]),
  (.iconst (-1), 12, 24, false, aC ((-1))),
  (.ireturn, 13, 25, false, aC 0),
  (.iconst 0, 14, 26, false, aC (nI 0)),
  (.istore_n 3, 15, 27, false, aC 0),
  (.iconst 0, 16, 28, false, aC (nI 0)),
  (.istore 4, 17, 29, false, aC 0),
  (.iload 4, 18, 31, true, aC 0),
  (.aload_n 0, 19, 33, false, aC 0),
  (.getfield 90, 20, 34, false, aF 6 11 0 false),
  (.if_icmp .ge 73, 21, 37, false, aT [59]),
  (.aload_n 0, 22, 40, false, aC 0),
  (.getfield 28, 23, 41, false, aF 6 7 8 false),
  (.iload 4, 24, 44, false, aC 0),
  (.iaload, 25, 46, false, aC 0),
  (.iload_n 2, 26, 47, false, aC 0),
  (.if_icmp .ne 19, 27, 48, false, aT [36]),
  (.aload_n 0, 28, 51, false, aC 0),
  (.getfield 34, 29, 52, false, aF 6 9 10 false),
  (.iload 4, 30, 55, false, aC 0),
  (.iaload, 31, 57, false, aC 0),
  (.bipush 12, 32, 58, false, aC (nI 12)),
  (.if_icmp .ge 7, 33, 60, false, aT [36]),
  (.iconst 1, 34, 63, false, aC (nI 1)),
  (.goto 4, 35, 64, false, aT [37]),
  (.iconst 0, 36, 67, false, aC (nI 0)),
  (.istore 5, 37, 68, false, aC 0),
  (.iload_n 3, 38, 70, false, aC 0),
  (.iload 5, 39, 71, false, aC 0),
  (.ifCond .eq 28, 40, 73, false, aT [54]),
  (.aload_n 0, 41, 76, false, aC 0),
  (.aload_n 0, 42, 77, false, aC 0),
  (.getfield 34, 43, 78, false, aF 6 9 10 false),
  (.iload 4, 44, 81, false, aC 0),
  (.iaload, 45, 83, false, aC 0),
  (.invokevirtual 121, 46, 84, false, aM 125 1 false true 6),
  (.iload_n 1, 47, 87, false, aC 0),
  (.if_icmp .ne 13, 48, 88, false, aT [54]),
  (.aload_n 0, 49, 91, false, aC 0),
  (.getfield 31, 50, 92, false, aF 6 8 9 false),
  (.iload 4, 51, 95, false, aC 0),
  (.iaload, 52, 97, false, aC 0),
  (.goto 4, 53, 98, false, aT [55]),
  (.iconst 0, 54, 101, false, aC (nI 0)),
  (.iadd, 55, 102, false, aC 0),
  (.istore_n 3, 56, 103, false, aC 0),
  (.iinc 4 1, 57, 104, false, aC (nI 1)),
  (.goto (-76), 58, 107, false, aT [18]),
  (.iload_n 3, 59, 110, false, aC 0),
  (.ireturn, 60, 111, false, aC 0)]
theorem ok_X6_gathers : okCode i_X6_gathers k_X6_gathers = true := by decide +kernel
/-- heads [4] -/
def k_X6_balanceOf : List Ins := [(.iconst 0, 0, 0, false, aC (nI 0)),
  (.istore_n 2, 1, 1, false, aC 0),
  (.iconst 0, 2, 2, false, aC (nI 0)),
  (.istore_n 3, 3, 3, false, aC 0),
  (.iload_n 3, 4, 4, true, aC 0),
  (.aload_n 0, 5, 5, false, aC 0),
  (.getfield 90, 6, 6, false, aF 6 11 0 false),
  (.if_icmp .ge 93, 7, 9, false, aT [60]),
  (.aload_n 0, 8, 12, false, aC 0),
  (.getfield 28, 9, 13, false, aF 6 7 8 false),
  (.iload_n 3, 10, 16, false, aC 0),
  (.iaload, 11, 17, false, aC 0),
  (.iconst 1, 12, 18, false, aC (nI 1)),
  (.if_icmp .ne 18, 13, 19, false, aT [22]),
  (.aload_n 0, 14, 22, false, aC 0),
  (.getfield 34, 15, 23, false, aF 6 9 10 false),
  (.iload_n 3, 16, 26, false, aC 0),
  (.iaload, 17, 27, false, aC 0),
  (.bipush 12, 18, 28, false, aC (nI 12)),
  (.if_icmp .ge 7, 19, 30, false, aT [22]),
  (.iconst 1, 20, 33, false, aC (nI 1)),
  (.goto 4, 21, 34, false, aT [23]),
  (.iconst 0, 22, 37, false, aC (nI 0)),
  (.istore 4, 23, 38, false, aC 0),
  (.iload_n 2, 24, 40, false, aC 0),
  (.iload 4, 25, 41, false, aC 0),
  (.ifCond .eq 22, 26, 43, false, aT [38]),
  (.aload_n 0, 27, 46, false, aC 0),
  (.getfield 37, 28, 47, false, aF 6 10 11 false),
  (.iload_n 3, 29, 50, false, aC 0),
  (.iaload, 30, 51, false, aC 0),
  (.iload_n 1, 31, 52, false, aC 0),
  (.if_icmp .ne 12, 32, 53, false, aT [38]),
  (.aload_n 0, 33, 56, false, aC 0),
  (.getfield 31, 34, 57, false, aF 6 8 9 false),
  (.iload_n 3, 35, 60, false, aC 0),
  (.iaload, 36, 61, false, aC 0),
  (.goto 4, 37, 62, false, aT [39]),
  (.iconst 0, 38, 65, false, aC (nI 0)),
  (.iadd, 39, 66, false, aC 0),
  (.istore_n 2, 40, 67, false, aC 0),
  (.iload_n 2, 41, 68, false, aC 0),
  (.iload 4, 42, 69, false, aC 0),
  (.ifCond .eq 22, 43, 71, false, aT [55]),
  (.aload_n 0, 44, 74, false, aC 0),
  (.getfield 34, 45, 75, false, aF 6 9 10 false),
  (.iload_n 3, 46, 78, false, aC 0),
  (.iaload, 47, 79, false, aC 0),
  (.iload_n 1, 48, 80, false, aC 0),
  (.if_icmp .ne 12, 49, 81, false, aT [55]),
  (.aload_n 0, 50, 84, false, aC 0),
  (.getfield 31, 51, 85, false, aF 6 8 9 false),
  (.iload_n 3, 52, 88, false, aC 0),
  (.iaload, 53, 89, false, aC 0),
  (.goto 4, 54, 90, false, aT [56]),
  (.iconst 0, 55, 93, false, aC (nI 0)),
  (.isub, 56, 94, false, aC 0),
  (.istore_n 2, 57, 95, false, aC 0),
  (.iinc 3 1, 58, 96, false, aC (nI 1)),
  (.goto (-95), 59, 99, false, aT [4]),
  (.iload_n 2, 60, 102, false, aC 0),
  (.ireturn, 61, 103, false, aC 0)]
theorem ok_X6_balanceOf : okCode i_X6_balanceOf k_X6_balanceOf = true := by decide +kernel
/-- heads [] -/
def k_X6_balance : List Ins := [(.aload_n 0, 0, 0, false, aC 0),
  (.iload_n 1, 1, 1, false, aC 0),
  (.invokevirtual 93, 2, 2, false, aM 111 1 false true 6),
  (.ifCond .eq 11, 3, 5, false, aT [8]),
  (.aload_n 0, 4, 8, false, aC 0),
  (.iload_n 1, 5, 9, false, aC 0),
  (.invokevirtual 215, 6, 10, false, aM 153 1 false true 6),
  (.goto 5, 7, 13, false, aT [9]),
  (.ldc 218, 8, 16, false, aC ((-100000001))),
  (.ireturn, 9, 18, false, aC 0)]
theorem ok_X6_balance : okCode i_X6_balance k_X6_balance = true := by decide +kernel
/-- heads [4] -/
def k_X6_paid : List Ins := [(.iconst 0, 0, 0, false, aC (nI 0)),
  (.istore_n 1, 1, 1, false, aC 0),
  (.iconst 0, 2, 2, false, aC (nI 0)),
  (.istore_n 2, 3, 3, false, aC 0),
  (.iload_n 2, 4, 4, true, aC 0),
  (.aload_n 0, 5, 5, false, aC 0),
  (.getfield 83, 6, 6, false, aF 6 6 0 false),
  (.if_icmp .ge 27, 7, 9, false, aT [22]),
  (.aload_n 0, 8, 12, false, aC 0),
  (.iload_n 2, 9, 13, false, aC 0),
  (.invokevirtual 215, 10, 14, false, aM 153 1 false true 6),
  (.istore_n 3, 11, 17, false, aC 0),
  (.iload_n 1, 12, 18, false, aC 0),
  (.iload_n 3, 13, 19, false, aC 0),
  (.ifCond .le 7, 14, 20, false, aT [17]),
  (.iload_n 3, 15, 23, false, aC 0),
  (.goto 4, 16, 24, false, aT [18]),
  (.iconst 0, 17, 27, false, aC (nI 0)),
  (.iadd, 18, 28, false, aC 0),
  (.istore_n 1, 19, 29, false, aC 0),
  (.iinc 2 1, 20, 30, false, aC (nI 1)),
  (.goto (-29), 21, 33, false, aT [4]),
  (.iload_n 1, 22, 36, false, aC 0),
  (.ireturn, 23, 37, false, aC 0)]
theorem ok_X6_paid : okCode i_X6_paid k_X6_paid = true := by decide +kernel
/-- heads [2] -/
def k_X6_keepAside : List Ins := [(.iconst 0, 0, 0, false, aC (nI 0)),
  (.istore_n 1, 1, 1, false, aC 0),
  (.iload_n 1, 2, 2, true, aC 0),
  (.bipush 12, 3, 3, false, aC (nI 12)),
  (.if_icmp .ge 66, 4, 5, false, aT [45]),
  (.aload_n 0, 5, 8, false, aC 0),
  (.getfield 56, 6, 9, false, aF 6 20 21 false),
  (.iload_n 1, 7, 12, false, aC 0),
  (.aload_n 0, 8, 13, false, aC 0),
  (.getfield 25, 9, 14, false, aF 6 5 6 false),
  (.iload_n 1, 10, 17, false, aC 0),
  (.iaload, 11, 18, false, aC 0),
  (.iastore, 12, 19, false, aC 0),
  (.aload_n 0, 13, 20, false, aC 0),
  (.getfield 56, 14, 21, false, aF 6 20 21 false),
  (.bipush 12, 15, 24, false, aC (nI 12)),
  (.iload_n 1, 16, 26, false, aC 0),
  (.iadd, 17, 27, false, aC 0),
  (.aload_n 0, 18, 28, false, aC 0),
  (.getfield 19, 19, 29, false, aF 6 3 4 false),
  (.iload_n 1, 20, 32, false, aC 0),
  (.iaload, 21, 33, false, aC 0),
  (.iastore, 22, 34, false, aC 0),
  (.aload_n 0, 23, 35, false, aC 0),
  (.getfield 56, 24, 36, false, aF 6 20 21 false),
  (.bipush 24, 25, 39, false, aC (nI 24)),
  (.iload_n 1, 26, 41, false, aC 0),
  (.iadd, 27, 42, false, aC 0),
  (.aload_n 0, 28, 43, false, aC 0),
  (.getfield 34, 29, 44, false, aF 6 9 10 false),
  (.iload_n 1, 30, 47, false, aC 0),
  (.iaload, 31, 48, false, aC 0),
  (.iastore, 32, 49, false, aC 0),
  (.aload_n 0, 33, 50, false, aC 0),
  (.getfield 56, 34, 51, false, aF 6 20 21 false),
  (.bipush 36, 35, 54, false, aC (nI 36)),
  (.iload_n 1, 36, 56, false, aC 0),
  (.iadd, 37, 57, false, aC 0),
  (.aload_n 0, 38, 58, false, aC 0),
  (.getfield 37, 39, 59, false, aF 6 10 11 false),
  (.iload_n 1, 40, 62, false, aC 0),
  (.iaload, 41, 63, false, aC 0),
  (.iastore, 42, 64, false, aC 0),
  (.iinc 1 1, 43, 65, false, aC (nI 1)),
  (.goto (-66), 44, 68, false, aT [2]),
  (.return_, 45, 71, false, aC 0)]
theorem ok_X6_keepAside : okCode i_X6_keepAside k_X6_keepAside = true := by decide +kernel
/-- heads [2] -/
def k_X6_bringBack : List Ins := [(.iconst 0, 0, 0, false, aC (nI 0)),
  (.istore_n 1, 1, 1, false, aC 0),
  (.iload_n 1, 2, 2, true, aC 0),
  (.bipush 12, 3, 3, false, aC (nI 12)),
  (.if_icmp .ge 66, 4, 5, false, aT [45]),
  (.aload_n 0, 5, 8, false, aC 0),
  (.getfield 25, 6, 9, false, aF 6 5 6 false),
  (.iload_n 1, 7, 12, false, aC 0),
  (.aload_n 0, 8, 13, false, aC 0),
  (.getfield 56, 9, 14, false, aF 6 20 21 false),
  (.iload_n 1, 10, 17, false, aC 0),
  (.iaload, 11, 18, false, aC 0),
  (.iastore, 12, 19, false, aC 0),
  (.aload_n 0, 13, 20, false, aC 0),
  (.getfield 19, 14, 21, false, aF 6 3 4 false),
  (.iload_n 1, 15, 24, false, aC 0),
  (.aload_n 0, 16, 25, false, aC 0),
  (.getfield 56, 17, 26, false, aF 6 20 21 false),
  (.bipush 12, 18, 29, false, aC (nI 12)),
  (.iload_n 1, 19, 31, false, aC 0),
  (.iadd, 20, 32, false, aC 0),
  (.iaload, 21, 33, false, aC 0),
  (.iastore, 22, 34, false, aC 0),
  (.aload_n 0, 23, 35, false, aC 0),
  (.getfield 34, 24, 36, false, aF 6 9 10 false),
  (.iload_n 1, 25, 39, false, aC 0),
  (.aload_n 0, 26, 40, false, aC 0),
  (.getfield 56, 27, 41, false, aF 6 20 21 false),
  (.bipush 24, 28, 44, false, aC (nI 24)),
  (.iload_n 1, 29, 46, false, aC 0),
  (.iadd, 30, 47, false, aC 0),
  (.iaload, 31, 48, false, aC 0),
  (.iastore, 32, 49, false, aC 0),
  (.aload_n 0, 33, 50, false, aC 0),
  (.getfield 37, 34, 51, false, aF 6 10 11 false),
  (.iload_n 1, 35, 54, false, aC 0),
  (.aload_n 0, 36, 55, false, aC 0),
  (.getfield 56, 37, 56, false, aF 6 20 21 false),
  (.bipush 36, 38, 59, false, aC (nI 36)),
  (.iload_n 1, 39, 61, false, aC 0),
  (.iadd, 40, 62, false, aC 0),
  (.iaload, 41, 63, false, aC 0),
  (.iastore, 42, 64, false, aC 0),
  (.iinc 1 1, 43, 65, false, aC (nI 1)),
  (.goto (-66), 44, 68, false, aT [2]),
  (.return_, 45, 71, false, aC 0)]
theorem ok_X6_bringBack : okCode i_X6_bringBack k_X6_bringBack = true := by decide +kernel
/-- heads [4, 27, 64] -/
def k_X6_nextOrder : List Ins := [(.iload_n 1, 0, 0, false, aC 0),
  (.iconst 2, 1, 1, false, aC (nI 2)),
  (.isub, 2, 2, false, aC 0),
  (.istore_n 2, 3, 3, false, aC 0),
  (.iload_n 2, 4, 4, true, aC 0),
  (.ifCond .lt 26, 5, 5, false, aT [19]),
  (.aload_n 0, 6, 8, false, aC 0),
  (.getfield 59, 7, 9, false, aF 6 21 22 false),
  (.iload_n 2, 8, 12, false, aC 0),
  (.iaload, 9, 13, false, aC 0),
  (.aload_n 0, 10, 14, false, aC 0),
  (.getfield 59, 11, 15, false, aF 6 21 22 false),
  (.iload_n 2, 12, 18, false, aC 0),
  (.iconst 1, 13, 19, false, aC (nI 1)),
  (.iadd, 14, 20, false, aC 0),
  (.iaload, 15, 21, false, aC 0),
  (.if_icmp .le 9, 16, 22, false, aT [19]),
  (.iinc 2 (-1), 17, 25, false, aC ((-1))),
  (.goto (-24), 18, 28, false, aT [4]),
  (.iload_n 2, 19, 31, false, aC 0),
  (.ifCond .ge 5, 20, 32, false, aT [23]),
  (.iconst 0, 21, 35, false, aC (nI 0)),
  (.ireturn, 22, 36, false, aC 0),
  (.iload_n 1, 23, 37, false, aC 0),
  (.iconst 1, 24, 38, false, aC (nI 1)),
  (.isub, 25, 39, false, aC 0),
  (.istore_n 3, 26, 40, false, aC 0),
  (.aload_n 0, 27, 41, true, aC 0),
  (.getfield 59, 28, 42, false, aF 6 21 22 false),
  (.iload_n 3, 29, 45, false, aC 0),
  (.iaload, 30, 46, false, aC 0),
  (.aload_n 0, 31, 47, false, aC 0),
  (.getfield 59, 32, 48, false, aF 6 21 22 false),
  (.iload_n 2, 33, 51, false, aC 0),
  (.iaload, 34, 52, false, aC 0),
  (.if_icmp .ge 9, 35, 53, false, aT [38]),
  (.iinc 3 (-1), 36, 56, false, aC ((-1))),
  (.goto (-18), 37, 59, false, aT [27]),
  (.aload_n 0, 38, 62, false, aC 0),
  (.getfield 59, 39, 63, false, aF 6 21 22 false),
  (.iload_n 2, 40, 66, false, aC 0),
  (.iaload, 41, 67, false, aC 0),
  (.istore 4, 42, 68, false, aC 0),
  (.aload_n 0, 43, 70, false, aC 0),
  (.getfield 59, 44, 71, false, aF 6 21 22 false),
  (.iload_n 2, 45, 74, false, aC 0),
  (.aload_n 0, 46, 75, false, aC 0),
  (.getfield 59, 47, 76, false, aF 6 21 22 false),
  (.iload_n 3, 48, 79, false, aC 0),
  (.iaload, 49, 80, false, aC 0),
  (.iastore, 50, 81, false, aC 0),
  (.aload_n 0, 51, 82, false, aC 0),
  (.getfield 59, 52, 83, false, aF 6 21 22 false),
  (.iload_n 3, 53, 86, false, aC 0),
  (.iload 4, 54, 87, false, aC 0),
  (.iastore, 55, 89, false, aC 0),
  (.iload_n 1, 56, 90, false, aC 0),
  (.iconst 1, 57, 91, false, aC (nI 1)),
  (.isub, 58, 92, false, aC 0),
  (.istore 5, 59, 93, false, aC 0),
  (.iload_n 2, 60, 95, false, aC 0),
  (.iconst 1, 61, 96, false, aC (nI 1)),
  (.iadd, 62, 97, false, aC 0),
  (.istore 6, 63, 98, false, aC 0),
  (.iload 6, 64, 100, true, aC 0),
  (.iload 5, 65, 102, false, aC 0),
  (.if_icmp .ge 44, 66, 104, false, aT [88]),
  (.aload_n 0, 67, 107, false, aC 0),
  (.getfield 59, 68, 108, false, aF 6 21 22 false),
  (.iload 6, 69, 111, false, aC 0),
  (.iaload, 70, 113, false, aC 0),
  (.istore 4, 71, 114, false, aC 0),
  (.aload_n 0, 72, 116, false, aC 0),
  (.getfield 59, 73, 117, false, aF 6 21 22 false),
  (.iload 6, 74, 120, false, aC 0),
  (.aload_n 0, 75, 122, false, aC 0),
  (.getfield 59, 76, 123, false, aF 6 21 22 false),
  (.iload 5, 77, 126, false, aC 0),
  (.iaload, 78, 128, false, aC 0),
  (.iastore, 79, 129, false, aC 0),
  (.aload_n 0, 80, 130, false, aC 0),
  (.getfield 59, 81, 131, false, aF 6 21 22 false),
  (.iload 5, 82, 134, false, aC 0),
  (.iload 4, 83, 136, false, aC 0),
  (.iastore, 84, 138, false, aC 0),
  (.iinc 5 (-1), 85, 139, false, aC ((-1))),
  (.iinc 6 1, 86, 142, false, aC (nI 1)),
  (.goto (-45), 87, 145, false, aT [64]),
  (.iconst 1, 88, 148, false, aC (nI 1)),
  (.ireturn, 89, 149, false, aC 0)]
theorem ok_X6_nextOrder : okCode i_X6_nextOrder k_X6_nextOrder = true := by decide +kernel
/-- heads [4] -/
def k_X6_firstOrder : List Ins := [(.iconst 0, 0, 0, false, aC (nI 0)),
  (.istore_n 2, 1, 1, false, aC 0),
  (.iconst 0, 2, 2, false, aC (nI 0)),
  (.istore_n 3, 3, 3, false, aC 0),
  (.iload_n 3, 4, 4, true, aC 0),
  (.bipush 12, 5, 5, false, aC (nI 12)),
  (.if_icmp .ge 27, 6, 7, false, aT [19]),
  (.iload_n 1, 7, 10, false, aC 0),
  (.iload_n 3, 8, 11, false, aC 0),
  (.invokestatic 157, 9, 12, false, aM 109 2 true true 6),
  (.ifCond .eq 13, 10, 15, false, aT [17]),
  (.aload_n 0, 11, 18, false, aC 0),
  (.getfield 59, 12, 19, false, aF 6 21 22 false),
  (.iload_n 2, 13, 22, false, aC 0),
  (.iload_n 3, 14, 23, false, aC 0),
  (.iastore, 15, 24, false, aC 0),
  (.iinc 2 1, 16, 25, false, aC (nI 1)),
  (.iinc 3 1, 17, 28, false, aC (nI 1)),
  (.goto (-27), 18, 31, false, aT [4]),
  (.iload_n 2, 19, 34, false, aC 0),
  (.ireturn, 20, 35, false, aC 0)]
theorem ok_X6_firstOrder : okCode i_X6_firstOrder k_X6_firstOrder = true := by decide +kernel
/-- heads [4] -/
def k_X6_allLive : List Ins := [(.iconst 1, 0, 0, false, aC (nI 1)),
  (.istore_n 2, 1, 1, false, aC 0),
  (.iconst 0, 2, 2, false, aC (nI 0)),
  (.istore_n 3, 3, 3, false, aC 0),
  (.iload_n 3, 4, 4, true, aC 0),
  (.bipush 12, 5, 5, false, aC (nI 12)),
  (.if_icmp .ge 35, 6, 7, false, aT [23]),
  (.iload_n 2, 7, 10, false, aC 0),
  (.ifCond .eq 23, 8, 11, false, aT [19]),
  (.iload_n 1, 9, 14, false, aC 0),
  (.iload_n 3, 10, 15, false, aC 0),
  (.invokestatic 157, 11, 16, false, aM 109 2 true true 6),
  (.ifCond .eq 11, 12, 19, false, aT [17]),
  (.aload_n 0, 13, 22, false, aC 0),
  (.iload_n 3, 14, 23, false, aC 0),
  (.invokevirtual 145, 15, 24, false, aM 113 1 false true 6),
  (.ifCond .eq 7, 16, 27, false, aT [19]),
  (.iconst 1, 17, 30, false, aC (nI 1)),
  (.goto 4, 18, 31, false, aT [20]),
  (.iconst 0, 19, 34, false, aC (nI 0)),
  (.istore_n 2, 20, 35, false, aC 0),
  (.iinc 3 1, 21, 36, false, aC (nI 1)),
  (.goto (-35), 22, 39, false, aT [4]),
  (.iload_n 2, 23, 42, false, aC 0),
  (.ireturn, 24, 43, false, aC 0)]
theorem ok_X6_allLive : okCode i_X6_allLive k_X6_allLive = true := by decide +kernel
/-- heads [] -/
def k_X6_isFew : List Ins := [(.iload_n 0, 0, 0, false, aC 0),
  (.i2l, 1, 1, false, aC 0),
  (.lconst 0, 2, 2, false, aL 0),
  (.ldc2_w 219, 3, 3, false, aL 4095),
  (.invokestatic 86, 4, 6, false, aM 108 3 true true 6),
  (.ifCond .eq 15, 5, 9, false, aT [12]),
  (.iload_n 0, 6, 12, false, aC 0),
  (.invokestatic 154, 7, 13, false, aM 110 1 true true 6),
  (.iconst 5, 8, 16, false, aC (nI 5)),
  (.if_icmp .gt 7, 9, 17, false, aT [12]),
  (.iconst 1, 10, 20, false, aC (nI 1)),
  (.goto 4, 11, 21, false, aT [13]),
  (.iconst 0, 12, 24, false, aC (nI 0)),
  (.ireturn, 13, 25, false, aC 0)]
theorem ok_X6_isFew : okCode i_X6_isFew k_X6_isFew = true := by decide +kernel
/-- heads [29, 33] -/
def k_X6_orders : List Ins := [(.iload_n 1, 0, 0, false, aC 0),
  (.invokestatic 221, 1, 1, false, aM 161 1 true true 6),
  (.ifCond .eq 31, 2, 4, false, aT [17]),
  (.aload_n 0, 3, 7, false, aC 0),
  (.iload_n 1, 4, 8, false, aC 0),
  (.invokevirtual 224, 5, 9, false, aM 160 1 false true 6),
  (.ifCond .eq 23, 6, 12, false, aT [17]),
  (.aload_n 0, 7, 15, false, aC 0),
  (.iload_n 2, 8, 16, false, aC 0),
  (.invokevirtual 151, 9, 17, false, aM 112 1 false true 6),
  (.ifCond .eq 15, 10, 20, false, aT [17]),
  (.iload_n 3, 11, 23, false, aC 0),
  (.i2l, 12, 24, false, aC 0),
  (.lconst 0, 13, 25, false, aL 0),
  (.ldc2_w 227, 14, 26, false, aL 13),
  (.invokestatic 86, 15, 29, false, aM 108 3 true true 6),
  (.ifCond .ne 5, 16, 32, false, aT [19]),
  (.iconst (-1), 17, 35, false, aC ((-1))),
  (.ireturn, 18, 36, false, aC 0),
  (.aload_n 0, 19, 37, false, aC 0),
  (.iload_n 1, 20, 38, false, aC 0),
  (.invokevirtual 229, 21, 39, false, aM 159 1 false true 6),
  (.istore 4, 22, 42, false, aC 0),
  (.iconst 0, 23, 44, false, aC (nI 0)),
  (.istore 5, 24, 45, false, aC 0),
  (.aload_n 0, 25, 47, false, aC 0),
  (.invokevirtual 232, 26, 48, false, aM 156 0 false false 6),
  (.iconst 1, 27, 51, false, aC (nI 1)),
  (.istore 6, 28, 52, false, aC 0),
  (.iload 6, 29, 54, true, aC 0),
  (.ifCond .eq 66, 30, 56, false, aT [64]),
  (.iconst 0, 31, 59, false, aC (nI 0)),
  (.istore 7, 32, 60, false, aC 0),
  (.iload 7, 33, 62, true, aC 0),
  (.iload 4, 34, 64, false, aC 0),
  (.if_icmp .ge 21, 35, 66, false, aT [45]),
  (.aload_n 0, 36, 69, false, aC 0),
  (.aload_n 0, 37, 70, false, aC 0),
  (.getfield 59, 38, 71, false, aF 6 21 22 false),
  (.iload 7, 39, 74, false, aC 0),
  (.iaload, 40, 76, false, aC 0),
  (.invokevirtual 210, 41, 77, false, aM 150 1 false true 6),
  (.pop, 42, 80, false, aC 0),
  (.iinc 7 1, 43, 81, false, aC (nI 1)),
  (.goto (-22), 44, 84, false, aT [33]),
  (.iload 5, 45, 87, false, aC 0),
  (.aload_n 0, 46, 89, false, aC 0),
  (.getfield 34, 47, 90, false, aF 6 9 10 false),
  (.iload_n 2, 48, 93, false, aC 0),
  (.iaload, 49, 94, false, aC 0),
  (.iload_n 3, 50, 95, false, aC 0),
  (.if_icmp .ne 7, 51, 96, false, aT [54]),
  (.iconst 1, 52, 99, false, aC (nI 1)),
  (.goto 4, 53, 100, false, aT [55]),
  (.iconst 0, 54, 103, false, aC (nI 0)),
  (.iadd, 55, 104, false, aC 0),
  (.istore 5, 56, 105, false, aC 0),
  (.aload_n 0, 57, 107, false, aC 0),
  (.invokevirtual 235, 58, 108, false, aM 157 0 false false 6),
  (.aload_n 0, 59, 111, false, aC 0),
  (.iload 4, 60, 112, false, aC 0),
  (.invokevirtual 238, 61, 114, false, aM 158 1 false true 6),
  (.istore 6, 62, 117, false, aC 0),
  (.goto (-65), 63, 119, false, aT [29]),
  (.iload 5, 64, 122, false, aC 0),
  (.ireturn, 65, 124, false, aC 0)]
theorem ok_X6_orders : okCode i_X6_orders k_X6_orders = true := by decide +kernel
/-- heads [] -/
def k_X6_carried : List Ins := [(.iload_n 1, 0, 0, false, aC 0),
  (.bipush 12, 1, 1, false, aC (nI 12)),
  (.irem, 2, 3, false, aC 0),
  (.istore 4, 3, 4, false, aC 0),
  (.iload_n 1, 4, 6, false, aC 0),
  (.bipush 72, 5, 7, false, aC (nI 72)),
  (.if_icmp .ge 263, 6, 9, false, aT [144]),
  (.iload_n 1, 7, 12, false, aC 0),
  (.bipush 12, 8, 13, false, aC (nI 12)),
  (.idiv, 9, 15, false, aC 0),
  (.istore 5, 10, 16, false, aC 0),
  (.aload_n 0, 11, 18, false, aC 0),
  (.getfield 7, 12, 19, false, aF 6 0 1 false),
  (.iload 4, 13, 22, false, aC 0),
  (.iload_n 3, 14, 24, false, aC 0),
  (.ifCond .eq 12, 15, 25, false, aT [20]),
  (.iload 5, 16, 28, false, aC 0),
  (.ifCond .ne 7, 17, 30, false, aT [20]),
  (.iload_n 2, 18, 33, false, aC 0),
  (.goto 10, 19, 34, false, aT [24]),
  (.aload_n 0, 20, 37, false, aC 0),
  (.getfield 7, 21, 38, false, aF 6 0 1 false),
  (.iload 4, 22, 41, false, aC 0),
  (.iaload, 23, 43, false, aC 0),
  (.iastore, 24, 44, false, aC 0),
  (.aload_n 0, 25, 45, false, aC 0),
  (.getfield 13, 26, 46, false, aF 6 1 2 false),
  (.iload 4, 27, 49, false, aC 0),
  (.iload_n 3, 28, 51, false, aC 0),
  (.ifCond .eq 13, 29, 52, false, aT [35]),
  (.iload 5, 30, 55, false, aC 0),
  (.iconst 1, 31, 57, false, aC (nI 1)),
  (.if_icmp .ne 7, 32, 58, false, aT [35]),
  (.iload_n 2, 33, 61, false, aC 0),
  (.goto 10, 34, 62, false, aT [39]),
  (.aload_n 0, 35, 65, false, aC 0),
  (.getfield 13, 36, 66, false, aF 6 1 2 false),
  (.iload 4, 37, 69, false, aC 0),
  (.iaload, 38, 71, false, aC 0),
  (.iastore, 39, 72, false, aC 0),
  (.aload_n 0, 40, 73, false, aC 0),
  (.getfield 16, 41, 74, false, aF 6 2 3 false),
  (.iload 4, 42, 77, false, aC 0),
  (.iload_n 3, 43, 79, false, aC 0),
  (.ifCond .eq 13, 44, 80, false, aT [50]),
  (.iload 5, 45, 83, false, aC 0),
  (.iconst 2, 46, 85, false, aC (nI 2)),
  (.if_icmp .ne 7, 47, 86, false, aT [50]),
  (.iload_n 2, 48, 89, false, aC 0),
  (.goto 10, 49, 90, false, aT [54]),
  (.aload_n 0, 50, 93, false, aC 0),
  (.getfield 16, 51, 94, false, aF 6 2 3 false),
  (.iload 4, 52, 97, false, aC 0),
  (.iaload, 53, 99, false, aC 0),
  (.iastore, 54, 100, false, aC 0),
  (.aload_n 0, 55, 101, false, aC 0),
  (.getfield 19, 56, 102, false, aF 6 3 4 false),
  (.iload 4, 57, 105, false, aC 0),
  (.iload_n 3, 58, 107, false, aC 0),
  (.ifCond .eq 13, 59, 108, false, aT [65]),
  (.iload 5, 60, 111, false, aC 0),
  (.iconst 3, 61, 113, false, aC (nI 3)),
  (.if_icmp .ne 7, 62, 114, false, aT [65]),
  (.iload_n 2, 63, 117, false, aC 0),
  (.goto 10, 64, 118, false, aT [69]),
  (.aload_n 0, 65, 121, false, aC 0),
  (.getfield 19, 66, 122, false, aF 6 3 4 false),
  (.iload 4, 67, 125, false, aC 0),
  (.iaload, 68, 127, false, aC 0),
  (.iastore, 69, 128, false, aC 0),
  (.aload_n 0, 70, 129, false, aC 0),
  (.getfield 22, 71, 130, false, aF 6 4 5 false),
  (.iload 4, 72, 133, false, aC 0),
  (.iload_n 3, 73, 135, false, aC 0),
  (.ifCond .eq 13, 74, 136, false, aT [80]),
  (.iload 5, 75, 139, false, aC 0),
  (.iconst 4, 76, 141, false, aC (nI 4)),
  (.if_icmp .ne 7, 77, 142, false, aT [80]),
  (.iload_n 2, 78, 145, false, aC 0),
  (.goto 10, 79, 146, false, aT [84]),
  (.aload_n 0, 80, 149, false, aC 0),
  (.getfield 22, 81, 150, false, aF 6 4 5 false),
  (.iload 4, 82, 153, false, aC 0),
  (.iaload, 83, 155, false, aC 0),
  (.iastore, 84, 156, false, aC 0),
  (.aload_n 0, 85, 157, false, aC 0),
  (.getfield 25, 86, 158, false, aF 6 5 6 false),
  (.iload 4, 87, 161, false, aC 0),
  (.iload_n 3, 88, 163, false, aC 0),
  (.ifCond .eq 13, 89, 164, false, aT [95]),
  (.iload 5, 90, 167, false, aC 0),
  (.iconst 5, 91, 169, false, aC (nI 5)),
  (.if_icmp .ne 7, 92, 170, false, aT [95]),
  (.iload_n 2, 93, 173, false, aC 0),
  (.goto 10, 94, 174, false, aT [99]),
  (.aload_n 0, 95, 177, false, aC 0),
  (.getfield 25, 96, 178, false, aF 6 5 6 false),
  (.iload 4, 97, 181, false, aC 0),
  (.iaload, 98, 183, false, aC 0),
  (.iastore, 99, 184, false, aC 0),
  (.iload 5, 100, 185, false, aC 0),
  (.ifCond .ne 13, 101, 187, false, aT [107]),
  (.aload_n 0, 102, 190, false, aC 0),
  (.getfield 7, 103, 191, false, aF 6 0 1 false),
  (.iload 4, 104, 194, false, aC 0),
  (.iaload, 105, 196, false, aC 0),
  (.goto 74, 106, 197, false, aT [143]),
  (.iload 5, 107, 200, false, aC 0),
  (.iconst 1, 108, 202, false, aC (nI 1)),
  (.if_icmp .ne 13, 109, 203, false, aT [115]),
  (.aload_n 0, 110, 206, false, aC 0),
  (.getfield 13, 111, 207, false, aF 6 1 2 false),
  (.iload 4, 112, 210, false, aC 0),
  (.iaload, 113, 212, false, aC 0),
  (.goto 58, 114, 213, false, aT [143]),
  (.iload 5, 115, 216, false, aC 0),
  (.iconst 2, 116, 218, false, aC (nI 2)),
  (.if_icmp .ne 13, 117, 219, false, aT [123]),
  (.aload_n 0, 118, 222, false, aC 0),
  (.getfield 16, 119, 223, false, aF 6 2 3 false),
  (.iload 4, 120, 226, false, aC 0),
  (.iaload, 121, 228, false, aC 0),
  (.goto 42, 122, 229, false, aT [143]),
  (.iload 5, 123, 232, false, aC 0),
  (.iconst 3, 124, 234, false, aC (nI 3)),
  (.if_icmp .ne 13, 125, 235, false, aT [131]),
  (.aload_n 0, 126, 238, false, aC 0),
  (.getfield 19, 127, 239, false, aF 6 3 4 false),
  (.iload 4, 128, 242, false, aC 0),
  (.iaload, 129, 244, false, aC 0),
  (.goto 26, 130, 245, false, aT [143]),
  (.iload 5, 131, 248, false, aC 0),
  (.iconst 4, 132, 250, false, aC (nI 4)),
  (.if_icmp .ne 13, 133, 251, false, aT [139]),
  (.aload_n 0, 134, 254, false, aC 0),
  (.getfield 22, 135, 255, false, aF 6 4 5 false),
  (.iload 4, 136, 258, false, aC 0),
  (.iaload, 137, 260, false, aC 0),
  (.goto 10, 138, 261, false, aT [143]),
  (.aload_n 0, 139, 264, false, aC 0),
  (.getfield 25, 140, 265, false, aF 6 5 6 false),
  (.iload 4, 141, 268, false, aC 0),
  (.iaload, 142, 270, false, aC 0),
  (.ireturn, 143, 271, false, aC 0),
  (.iload_n 1, 144, 272, false, aC 0),
  (.sipush 132, 145, 273, false, aC (nI 132)),
  (.if_icmp .ge 222, 146, 276, false, aT [263]),
  (.iload_n 1, 147, 279, false, aC 0),
  (.bipush 12, 148, 280, false, aC (nI 12)),
  (.idiv, 149, 282, false, aC 0),
  (.bipush 6, 150, 283, false, aC (nI 6)),
  (.isub, 151, 285, false, aC 0),
  (.istore 5, 152, 286, false, aC 0),
  (.aload_n 0, 153, 288, false, aC 0),
  (.getfield 28, 154, 289, false, aF 6 7 8 false),
  (.iload 4, 155, 292, false, aC 0),
  (.iload_n 3, 156, 294, false, aC 0),
  (.ifCond .eq 12, 157, 295, false, aT [162]),
  (.iload 5, 158, 298, false, aC 0),
  (.ifCond .ne 7, 159, 300, false, aT [162]),
  (.iload_n 2, 160, 303, false, aC 0),
  (.goto 10, 161, 304, false, aT [166]),
  (.aload_n 0, 162, 307, false, aC 0),
  (.getfield 28, 163, 308, false, aF 6 7 8 false),
  (.iload 4, 164, 311, false, aC 0),
  (.iaload, 165, 313, false, aC 0),
  (.iastore, 166, 314, false, aC 0),
  (.aload_n 0, 167, 315, false, aC 0),
  (.getfield 31, 168, 316, false, aF 6 8 9 false),
  (.iload 4, 169, 319, false, aC 0),
  (.iload_n 3, 170, 321, false, aC 0),
  (.ifCond .eq 13, 171, 322, false, aT [177]),
  (.iload 5, 172, 325, false, aC 0),
  (.iconst 1, 173, 327, false, aC (nI 1)),
  (.if_icmp .ne 7, 174, 328, false, aT [177]),
  (.iload_n 2, 175, 331, false, aC 0),
  (.goto 10, 176, 332, false, aT [181]),
  (.aload_n 0, 177, 335, false, aC 0),
  (.getfield 31, 178, 336, false, aF 6 8 9 false),
  (.iload 4, 179, 339, false, aC 0),
  (.iaload, 180, 341, false, aC 0),
  (.iastore, 181, 342, false, aC 0),
  (.aload_n 0, 182, 343, false, aC 0),
  (.getfield 34, 183, 344, false, aF 6 9 10 false),
  (.iload 4, 184, 347, false, aC 0),
  (.iload_n 3, 185, 349, false, aC 0),
  (.ifCond .eq 13, 186, 350, false, aT [192]),
  (.iload 5, 187, 353, false, aC 0),
  (.iconst 2, 188, 355, false, aC (nI 2)),
  (.if_icmp .ne 7, 189, 356, false, aT [192]),
  (.iload_n 2, 190, 359, false, aC 0),
  (.goto 10, 191, 360, false, aT [196]),
  (.aload_n 0, 192, 363, false, aC 0),
  (.getfield 34, 193, 364, false, aF 6 9 10 false),
  (.iload 4, 194, 367, false, aC 0),
  (.iaload, 195, 369, false, aC 0),
  (.iastore, 196, 370, false, aC 0),
  (.aload_n 0, 197, 371, false, aC 0),
  (.getfield 37, 198, 372, false, aF 6 10 11 false),
  (.iload 4, 199, 375, false, aC 0),
  (.iload_n 3, 200, 377, false, aC 0),
  (.ifCond .eq 13, 201, 378, false, aT [207]),
  (.iload 5, 202, 381, false, aC 0),
  (.iconst 3, 203, 383, false, aC (nI 3)),
  (.if_icmp .ne 7, 204, 384, false, aT [207]),
  (.iload_n 2, 205, 387, false, aC 0),
  (.goto 10, 206, 388, false, aT [211]),
  (.aload_n 0, 207, 391, false, aC 0),
  (.getfield 37, 208, 392, false, aF 6 10 11 false),
  (.iload 4, 209, 395, false, aC 0),
  (.iaload, 210, 397, false, aC 0),
  (.iastore, 211, 398, false, aC 0),
  (.aload_n 0, 212, 399, false, aC 0),
  (.getfield 40, 213, 400, false, aF 6 12 13 false),
  (.iload 4, 214, 403, false, aC 0),
  (.iload_n 3, 215, 405, false, aC 0),
  (.ifCond .eq 13, 216, 406, false, aT [222]),
  (.iload 5, 217, 409, false, aC 0),
  (.iconst 4, 218, 411, false, aC (nI 4)),
  (.if_icmp .ne 7, 219, 412, false, aT [222]),
  (.iload_n 2, 220, 415, false, aC 0),
  (.goto 10, 221, 416, false, aT [226]),
  (.aload_n 0, 222, 419, false, aC 0),
  (.getfield 40, 223, 420, false, aF 6 12 13 false),
  (.iload 4, 224, 423, false, aC 0),
  (.iaload, 225, 425, false, aC 0),
  (.iastore, 226, 426, false, aC 0),
  (.iload 5, 227, 427, false, aC 0),
  (.ifCond .ne 13, 228, 429, false, aT [234]),
  (.aload_n 0, 229, 432, false, aC 0),
  (.getfield 28, 230, 433, false, aF 6 7 8 false),
  (.iload 4, 231, 436, false, aC 0),
  (.iaload, 232, 438, false, aC 0),
  (.goto 58, 233, 439, false, aT [262]),
  (.iload 5, 234, 442, false, aC 0),
  (.iconst 1, 235, 444, false, aC (nI 1)),
  (.if_icmp .ne 13, 236, 445, false, aT [242]),
  (.aload_n 0, 237, 448, false, aC 0),
  (.getfield 31, 238, 449, false, aF 6 8 9 false),
  (.iload 4, 239, 452, false, aC 0),
  (.iaload, 240, 454, false, aC 0),
  (.goto 42, 241, 455, false, aT [262]),
  (.iload 5, 242, 458, false, aC 0),
  (.iconst 2, 243, 460, false, aC (nI 2)),
  (.if_icmp .ne 13, 244, 461, false, aT [250]),
  (.aload_n 0, 245, 464, false, aC 0),
  (.getfield 34, 246, 465, false, aF 6 9 10 false),
  (.iload 4, 247, 468, false, aC 0),
  (.iaload, 248, 470, false, aC 0),
  (.goto 26, 249, 471, false, aT [262]),
  (.iload 5, 250, 474, false, aC 0),
  (.iconst 3, 251, 476, false, aC (nI 3)),
  (.if_icmp .ne 13, 252, 477, false, aT [258]),
  (.aload_n 0, 253, 480, false, aC 0),
  (.getfield 37, 254, 481, false, aF 6 10 11 false),
  (.iload 4, 255, 484, false, aC 0),
  (.iaload, 256, 486, false, aC 0),
  (.goto 10, 257, 487, false, aT [262]),
  (.aload_n 0, 258, 490, false, aC 0),
  (.getfield 40, 259, 491, false, aF 6 12 13 false),
  (.iload 4, 260, 494, false, aC 0),
  (.iaload, 261, 496, false, aC 0),
  (.ireturn, 262, 497, false, aC 0),
  (.iload_n 1, 263, 498, false, aC 0),
  (.sipush 136, 264, 499, false, aC (nI 136)),
  (.if_icmp .ge 42, 265, 502, false, aT [289]),
  (.aload_n 0, 266, 505, false, aC 0),
  (.getfield 43, 267, 506, false, aF 6 13 14 false),
  (.iload_n 1, 268, 509, false, aC 0),
  (.sipush 132, 269, 510, false, aC (nI 132)),
  (.isub, 270, 513, false, aC 0),
  (.iload_n 3, 271, 514, false, aC 0),
  (.ifCond .eq 7, 272, 515, false, aT [275]),
  (.iload_n 2, 273, 518, false, aC 0),
  (.goto 13, 274, 519, false, aT [281]),
  (.aload_n 0, 275, 522, false, aC 0),
  (.getfield 43, 276, 523, false, aF 6 13 14 false),
  (.iload_n 1, 277, 526, false, aC 0),
  (.sipush 132, 278, 527, false, aC (nI 132)),
  (.isub, 279, 530, false, aC 0),
  (.iaload, 280, 531, false, aC 0),
  (.iastore, 281, 532, false, aC 0),
  (.aload_n 0, 282, 533, false, aC 0),
  (.getfield 43, 283, 534, false, aF 6 13 14 false),
  (.iload_n 1, 284, 537, false, aC 0),
  (.sipush 132, 285, 538, false, aC (nI 132)),
  (.isub, 286, 541, false, aC 0),
  (.iaload, 287, 542, false, aC 0),
  (.ireturn, 288, 543, false, aC 0),
  (.aload_n 0, 289, 544, false, aC 0),
  (.iload_n 3, 290, 545, false, aC 0),
  (.ifCond .eq 14, 291, 546, false, aT [297]),
  (.iload_n 1, 292, 549, false, aC 0),
  (.sipush 136, 293, 550, false, aC (nI 136)),
  (.if_icmp .ne 7, 294, 553, false, aT [297]),
  (.iload_n 2, 295, 556, false, aC 0),
  (.goto 7, 296, 557, false, aT [299]),
  (.aload_n 0, 297, 560, false, aC 0),
  (.getfield 83, 298, 561, false, aF 6 6 0 false),
  (.putfield 83, 299, 564, false, aF 6 6 0 false),
  (.aload_n 0, 300, 567, false, aC 0),
  (.iload_n 3, 301, 568, false, aC 0),
  (.ifCond .eq 14, 302, 569, false, aT [308]),
  (.iload_n 1, 303, 572, false, aC 0),
  (.sipush 137, 304, 573, false, aC (nI 137)),
  (.if_icmp .ne 7, 305, 576, false, aT [308]),
  (.iload_n 2, 306, 579, false, aC 0),
  (.goto 7, 307, 580, false, aT [310]),
  (.aload_n 0, 308, 583, false, aC 0),
  (.getfield 90, 309, 584, false, aF 6 11 0 false),
  (.putfield 90, 310, 587, false, aF 6 11 0 false),
  (.aload_n 0, 311, 590, false, aC 0),
  (.iload_n 3, 312, 591, false, aC 0),
  (.ifCond .eq 14, 313, 592, false, aT [319]),
  (.iload_n 1, 314, 595, false, aC 0),
  (.sipush 138, 315, 596, false, aC (nI 138)),
  (.if_icmp .ne 7, 316, 599, false, aT [319]),
  (.iload_n 2, 317, 602, false, aC 0),
  (.goto 7, 318, 603, false, aT [321]),
  (.aload_n 0, 319, 606, false, aC 0),
  (.getfield 46, 320, 607, false, aF 6 14 0 false),
  (.putfield 46, 321, 610, false, aF 6 14 0 false),
  (.iload_n 1, 322, 613, false, aC 0),
  (.sipush 136, 323, 614, false, aC (nI 136)),
  (.if_icmp .ne 10, 324, 617, false, aT [328]),
  (.aload_n 0, 325, 620, false, aC 0),
  (.getfield 83, 326, 621, false, aF 6 6 0 false),
  (.goto 21, 327, 624, false, aT [336]),
  (.iload_n 1, 328, 627, false, aC 0),
  (.sipush 137, 329, 628, false, aC (nI 137)),
  (.if_icmp .ne 10, 330, 631, false, aT [334]),
  (.aload_n 0, 331, 634, false, aC 0),
  (.getfield 90, 332, 635, false, aF 6 11 0 false),
  (.goto 7, 333, 638, false, aT [336]),
  (.aload_n 0, 334, 641, false, aC 0),
  (.getfield 46, 335, 642, false, aF 6 14 0 false),
  (.ireturn, 336, 645, false, aC 0)]
theorem ok_X6_carried : okCode i_X6_carried k_X6_carried = true := by decide +kernel
/-- heads [2] -/
def k_X6_store : List Ins := [(.iconst 0, 0, 0, false, aC (nI 0)),
  (.istore_n 2, 1, 1, false, aC 0),
  (.iload_n 2, 2, 2, true, aC 0),
  (.sipush 139, 3, 3, false, aC (nI 139)),
  (.if_icmp .ge 19, 4, 6, false, aT [15]),
  (.aload_n 1, 5, 9, false, aC 0),
  (.iload_n 2, 6, 10, false, aC 0),
  (.aload_n 0, 7, 11, false, aC 0),
  (.iload_n 2, 8, 12, false, aC 0),
  (.iconst 0, 9, 13, false, aC (nI 0)),
  (.iconst 0, 10, 14, false, aC (nI 0)),
  (.invokevirtual 241, 11, 15, false, aM 163 3 false true 6),
  (.iastore, 12, 18, false, aC 0),
  (.iinc 2 1, 13, 19, false, aC (nI 1)),
  (.goto (-20), 14, 22, false, aT [2]),
  (.return_, 15, 25, false, aC 0)]
theorem ok_X6_store : okCode i_X6_store k_X6_store = true := by decide +kernel
/-- heads [2] -/
def k_X6_load : List Ins := [(.iconst 0, 0, 0, false, aC (nI 0)),
  (.istore_n 2, 1, 1, false, aC 0),
  (.iload_n 2, 2, 2, true, aC 0),
  (.sipush 139, 3, 3, false, aC (nI 139)),
  (.if_icmp .ge 19, 4, 6, false, aT [15]),
  (.aload_n 0, 5, 9, false, aC 0),
  (.iload_n 2, 6, 10, false, aC 0),
  (.aload_n 1, 7, 11, false, aC 0),
  (.iload_n 2, 8, 12, false, aC 0),
  (.iaload, 9, 13, false, aC 0),
  (.iconst 1, 10, 14, false, aC (nI 1)),
  (.invokevirtual 241, 11, 15, false, aM 163 3 false true 6),
  (.pop, 12, 18, false, aC 0),
  (.iinc 2 1, 13, 19, false, aC (nI 1)),
  (.goto (-20), 14, 22, false, aT [2]),
  (.return_, 15, 25, false, aC 0)]
theorem ok_X6_load : okCode i_X6_load k_X6_load = true := by decide +kernel
/-- heads [] -/
def k_X6_image : List Ins := [(.aload_n 0, 0, 0, false, aC 0),
  (.aload_n 0, 1, 1, false, aC 0),
  (.getfield 62, 2, 2, false, aF 6 23 24 false),
  (.invokevirtual 245, 3, 5, false, aM 164 1 false false 6),
  (.aload_n 0, 4, 8, false, aC 0),
  (.iconst 1, 5, 9, false, aC (nI 1)),
  (.putfield 249, 6, 10, false, aF 6 22 0 true),
  (.iconst 1, 7, 13, false, aC (nI 1)),
  (.ireturn, 8, 14, false, aC 0)]
theorem ok_X6_image : okCode i_X6_image k_X6_image = true := by decide +kernel
/-- heads [] -/
def k_X6_restore : List Ins := [(.aload_n 0, 0, 0, false, aC 0),
  (.getfield 249, 1, 1, false, aF 6 22 0 true),
  (.ifCond .ne 6, 2, 4, false, aT [5]),
  (.bipush (-4), 3, 7, false, aC ((-4))),
  (.ireturn, 4, 9, false, aC 0),
  (.aload_n 0, 5, 10, false, aC 0),
  (.aload_n 0, 6, 11, false, aC 0),
  (.getfield 62, 7, 12, false, aF 6 23 24 false),
  (.invokevirtual 253, 8, 15, false, aM 165 1 false false 6),
  (.iconst 1, 9, 18, false, aC (nI 1)),
  (.ireturn, 10, 19, false, aC 0)]
theorem ok_X6_restore : okCode i_X6_restore k_X6_restore = true := by decide +kernel
/-- heads [13] -/
def k_X6_areAsNow : List Ins := [(.aload_n 0, 0, 0, false, aC 0),
  (.getfield 90, 1, 1, false, aF 6 11 0 false),
  (.aload_n 0, 2, 4, false, aC 0),
  (.getfield 65, 3, 5, false, aF 6 24 25 false),
  (.sipush 137, 4, 8, false, aC (nI 137)),
  (.iaload, 5, 11, false, aC 0),
  (.if_icmp .ne 7, 6, 12, false, aT [9]),
  (.iconst 1, 7, 15, false, aC (nI 1)),
  (.goto 4, 8, 16, false, aT [10]),
  (.iconst 0, 9, 19, false, aC (nI 0)),
  (.istore_n 1, 10, 20, false, aC 0),
  (.iconst 0, 11, 21, false, aC (nI 0)),
  (.istore_n 2, 12, 22, false, aC 0),
  (.iload_n 2, 13, 23, true, aC 0),
  (.aload_n 0, 14, 24, false, aC 0),
  (.getfield 90, 15, 25, false, aF 6 11 0 false),
  (.if_icmp .ge 91, 16, 28, false, aT [69]),
  (.iload_n 1, 17, 31, false, aC 0),
  (.ifCond .eq 87, 18, 32, false, aT [69]),
  (.aload_n 0, 19, 35, false, aC 0),
  (.getfield 28, 20, 36, false, aF 6 7 8 false),
  (.iload_n 2, 21, 39, false, aC 0),
  (.iaload, 22, 40, false, aC 0),
  (.aload_n 0, 23, 41, false, aC 0),
  (.getfield 65, 24, 42, false, aF 6 24 25 false),
  (.bipush 72, 25, 45, false, aC (nI 72)),
  (.iload_n 2, 26, 47, false, aC 0),
  (.iadd, 27, 48, false, aC 0),
  (.iaload, 28, 49, false, aC 0),
  (.if_icmp .ne 61, 29, 50, false, aT [65]),
  (.aload_n 0, 30, 53, false, aC 0),
  (.getfield 31, 31, 54, false, aF 6 8 9 false),
  (.iload_n 2, 32, 57, false, aC 0),
  (.iaload, 33, 58, false, aC 0),
  (.aload_n 0, 34, 59, false, aC 0),
  (.getfield 65, 35, 60, false, aF 6 24 25 false),
  (.bipush 84, 36, 63, false, aC (nI 84)),
  (.iload_n 2, 37, 65, false, aC 0),
  (.iadd, 38, 66, false, aC 0),
  (.iaload, 39, 67, false, aC 0),
  (.if_icmp .ne 43, 40, 68, false, aT [65]),
  (.aload_n 0, 41, 71, false, aC 0),
  (.getfield 34, 42, 72, false, aF 6 9 10 false),
  (.iload_n 2, 43, 75, false, aC 0),
  (.iaload, 44, 76, false, aC 0),
  (.aload_n 0, 45, 77, false, aC 0),
  (.getfield 65, 46, 78, false, aF 6 24 25 false),
  (.bipush 96, 47, 81, false, aC (nI 96)),
  (.iload_n 2, 48, 83, false, aC 0),
  (.iadd, 49, 84, false, aC 0),
  (.iaload, 50, 85, false, aC 0),
  (.if_icmp .ne 25, 51, 86, false, aT [65]),
  (.aload_n 0, 52, 89, false, aC 0),
  (.getfield 37, 53, 90, false, aF 6 10 11 false),
  (.iload_n 2, 54, 93, false, aC 0),
  (.iaload, 55, 94, false, aC 0),
  (.aload_n 0, 56, 95, false, aC 0),
  (.getfield 65, 57, 96, false, aF 6 24 25 false),
  (.bipush 108, 58, 99, false, aC (nI 108)),
  (.iload_n 2, 59, 101, false, aC 0),
  (.iadd, 60, 102, false, aC 0),
  (.iaload, 61, 103, false, aC 0),
  (.if_icmp .ne 7, 62, 104, false, aT [65]),
  (.iconst 1, 63, 107, false, aC (nI 1)),
  (.goto 4, 64, 108, false, aT [66]),
  (.iconst 0, 65, 111, false, aC (nI 0)),
  (.istore_n 1, 66, 112, false, aC 0),
  (.iinc 2 1, 67, 113, false, aC (nI 1)),
  (.goto (-93), 68, 116, false, aT [13]),
  (.iload_n 1, 69, 119, false, aC 0),
  (.ireturn, 70, 120, false, aC 0)]
theorem ok_X6_areAsNow : okCode i_X6_areAsNow k_X6_areAsNow = true := by decide +kernel
/-- heads [34, 38] -/
def k_X6_explained : List Ins := [(.iload_n 1, 0, 0, false, aC 0),
  (.invokestatic 221, 1, 1, false, aM 161 1 true true 6),
  (.ifCond .ne 5, 2, 4, false, aT [5]),
  (.iconst (-1), 3, 7, false, aC ((-1))),
  (.ireturn, 4, 8, false, aC 0),
  (.aload_n 0, 5, 9, false, aC 0),
  (.getfield 249, 6, 10, false, aF 6 22 0 true),
  (.ifCond .ne 6, 7, 13, false, aT [10]),
  (.bipush (-4), 8, 16, false, aC ((-4))),
  (.ireturn, 9, 18, false, aC 0),
  (.aload_n 0, 10, 19, false, aC 0),
  (.aload_n 0, 11, 20, false, aC 0),
  (.getfield 65, 12, 21, false, aF 6 24 25 false),
  (.invokevirtual 245, 13, 24, false, aM 164 1 false false 6),
  (.aload_n 0, 14, 27, false, aC 0),
  (.aload_n 0, 15, 28, false, aC 0),
  (.getfield 62, 16, 29, false, aF 6 23 24 false),
  (.invokevirtual 253, 17, 32, false, aM 165 1 false false 6),
  (.iconst (-1), 18, 35, false, aC ((-1))),
  (.istore_n 2, 19, 36, false, aC 0),
  (.aload_n 0, 20, 37, false, aC 0),
  (.iload_n 1, 21, 38, false, aC 0),
  (.invokevirtual 224, 22, 39, false, aM 160 1 false true 6),
  (.ifCond .eq 79, 23, 42, false, aT [66]),
  (.iconst 0, 24, 45, false, aC (nI 0)),
  (.istore_n 2, 25, 46, false, aC 0),
  (.aload_n 0, 26, 47, false, aC 0),
  (.iload_n 1, 27, 48, false, aC 0),
  (.invokevirtual 229, 28, 49, false, aM 159 1 false true 6),
  (.istore_n 3, 29, 52, false, aC 0),
  (.aload_n 0, 30, 53, false, aC 0),
  (.invokevirtual 232, 31, 54, false, aM 156 0 false false 6),
  (.iconst 1, 32, 57, false, aC (nI 1)),
  (.istore 4, 33, 58, false, aC 0),
  (.iload 4, 34, 60, true, aC 0),
  (.ifCond .eq 59, 35, 62, false, aT [66]),
  (.iconst 0, 36, 65, false, aC (nI 0)),
  (.istore 5, 37, 66, false, aC 0),
  (.iload 5, 38, 68, true, aC 0),
  (.iload_n 3, 39, 70, false, aC 0),
  (.if_icmp .ge 21, 40, 71, false, aT [50]),
  (.aload_n 0, 41, 74, false, aC 0),
  (.aload_n 0, 42, 75, false, aC 0),
  (.getfield 59, 43, 76, false, aF 6 21 22 false),
  (.iload 5, 44, 79, false, aC 0),
  (.iaload, 45, 81, false, aC 0),
  (.invokevirtual 210, 46, 82, false, aM 150 1 false true 6),
  (.pop, 47, 85, false, aC 0),
  (.iinc 5 1, 48, 86, false, aC (nI 1)),
  (.goto (-21), 49, 89, false, aT [38]),
  (.iload_n 2, 50, 92, false, aC 0),
  (.aload_n 0, 51, 93, false, aC 0),
  (.invokevirtual 256, 52, 94, false, aM 168 0 false true 6),
  (.ifCond .eq 7, 53, 97, false, aT [56]),
  (.iconst 1, 54, 100, false, aC (nI 1)),
  (.goto 4, 55, 101, false, aT [57]),
  (.iconst 0, 56, 104, false, aC (nI 0)),
  (.iadd, 57, 105, false, aC 0),
  (.istore_n 2, 58, 106, false, aC 0),
  (.aload_n 0, 59, 107, false, aC 0),
  (.invokevirtual 235, 60, 108, false, aM 157 0 false false 6),
  (.aload_n 0, 61, 111, false, aC 0),
  (.iload_n 3, 62, 112, false, aC 0),
  (.invokevirtual 238, 63, 113, false, aM 158 1 false true 6),
  (.istore 4, 64, 116, false, aC 0),
  (.goto (-58), 65, 118, false, aT [34]),
  (.aload_n 0, 66, 121, false, aC 0),
  (.aload_n 0, 67, 122, false, aC 0),
  (.getfield 65, 68, 123, false, aF 6 24 25 false),
  (.invokevirtual 253, 69, 126, false, aM 165 1 false false 6),
  (.iload_n 2, 70, 129, false, aC 0),
  (.ireturn, 71, 130, false, aC 0)]
theorem ok_X6_explained : okCode i_X6_explained k_X6_explained = true := by decide +kernel
/-- heads [] -/
def k_X6_nextDraw : List Ins := [(.aload_n 0, 0, 0, false, aC 0),
  (.aload_n 0, 1, 1, false, aC 0),
  (.getfield 46, 2, 2, false, aF 6 14 0 false),
  (.i2l, 3, 5, false, aC 0),
  (.ldc2_w 260, 4, 6, false, aL 1103515245),
  (.lmul, 5, 9, false, aC 0),
  (.ldc2_w 262, 6, 10, false, aL 12345),
  (.ladd, 7, 13, false, aC 0),
  (.ldc2_w 264, 8, 14, false, aL 2147483647),
  (.land, 9, 17, false, aC 0),
  (.l2i, 10, 18, false, aC 0),
  (.putfield 46, 11, 19, false, aF 6 14 0 false),
  (.aload_n 0, 12, 22, false, aC 0),
  (.getfield 46, 13, 23, false, aF 6 14 0 false),
  (.ldc_w 266, 14, 26, false, aC (nI 65536)),
  (.idiv, 15, 29, false, aC 0),
  (.iload_n 1, 16, 30, false, aC 0),
  (.irem, 17, 31, false, aC 0),
  (.ireturn, 18, 32, false, aC 0)]
theorem ok_X6_nextDraw : okCode i_X6_nextDraw k_X6_nextDraw = true := by decide +kernel
/-- heads [4, 17] -/
def k_X6_nth : List Ins := [(.iload_n 0, 0, 0, false, aC 0),
  (.istore_n 2, 1, 1, false, aC 0),
  (.iconst 0, 2, 2, false, aC (nI 0)),
  (.istore_n 3, 3, 3, false, aC 0),
  (.iload_n 3, 4, 4, true, aC 0),
  (.iload_n 1, 5, 5, false, aC 0),
  (.if_icmp .ge 15, 6, 6, false, aT [15]),
  (.iload_n 2, 7, 9, false, aC 0),
  (.iload_n 2, 8, 10, false, aC 0),
  (.iconst 1, 9, 11, false, aC (nI 1)),
  (.isub, 10, 12, false, aC 0),
  (.iand, 11, 13, false, aC 0),
  (.istore_n 2, 12, 14, false, aC 0),
  (.iinc 3 1, 13, 15, false, aC (nI 1)),
  (.goto (-14), 14, 18, false, aT [4]),
  (.iconst 0, 15, 21, false, aC (nI 0)),
  (.istore_n 3, 16, 22, false, aC 0),
  (.iload_n 2, 17, 23, true, aC 0),
  (.iload_n 3, 18, 24, false, aC 0),
  (.invokestatic 157, 19, 25, false, aM 109 2 true true 6),
  (.ifCond .ne 9, 20, 28, false, aT [23]),
  (.iinc 3 1, 21, 31, false, aC (nI 1)),
  (.goto (-11), 22, 34, false, aT [17]),
  (.iload_n 3, 23, 37, false, aC 0),
  (.ireturn, 24, 38, false, aC 0)]
theorem ok_X6_nth : okCode i_X6_nth k_X6_nth = true := by decide +kernel
/-- heads [12, 25] -/
def k_X6_lots : List Ins := [(.iload_n 1, 0, 0, false, aC 0),
  (.i2l, 1, 1, false, aC 0),
  (.lconst 1, 2, 2, false, aL 1),
  (.ldc2_w 267, 3, 3, false, aL 30),
  (.invokestatic 86, 4, 6, false, aM 108 3 true true 6),
  (.ifCond .ne 5, 5, 9, false, aT [8]),
  (.iconst (-1), 6, 12, false, aC ((-1))),
  (.ireturn, 7, 13, false, aC 0),
  (.iconst 0, 8, 14, false, aC (nI 0)),
  (.istore_n 2, 9, 15, false, aC 0),
  (.iconst 0, 10, 16, false, aC (nI 0)),
  (.istore_n 3, 11, 17, false, aC 0),
  (.iload_n 3, 12, 18, true, aC 0),
  (.iload_n 1, 13, 19, false, aC 0),
  (.if_icmp .ge 190, 14, 20, false, aT [108]),
  (.aload_n 0, 15, 23, false, aC 0),
  (.iconst 3, 16, 24, false, aC (nI 3)),
  (.invokevirtual 269, 17, 25, false, aM 170 1 false true 6),
  (.istore 4, 18, 28, false, aC 0),
  (.iconst 0, 19, 30, false, aC (nI 0)),
  (.istore 5, 20, 31, false, aC 0),
  (.iconst 0, 21, 33, false, aC (nI 0)),
  (.istore 6, 22, 34, false, aC 0),
  (.iconst 0, 23, 36, false, aC (nI 0)),
  (.istore 7, 24, 37, false, aC 0),
  (.iload 7, 25, 39, true, aC 0),
  (.aload_n 0, 26, 41, false, aC 0),
  (.getfield 83, 27, 42, false, aF 6 6 0 false),
  (.if_icmp .ge 71, 28, 45, false, aT [66]),
  (.iload 5, 29, 48, false, aC 0),
  (.aload_n 0, 30, 50, false, aC 0),
  (.getfield 25, 31, 51, false, aF 6 5 6 false),
  (.iload 7, 32, 54, false, aC 0),
  (.iaload, 33, 56, false, aC 0),
  (.iload 7, 34, 57, false, aC 0),
  (.ishl, 35, 59, false, aC 0),
  (.ior, 36, 60, false, aC 0),
  (.istore 5, 37, 61, false, aC 0),
  (.iload 6, 38, 63, false, aC 0),
  (.aload_n 0, 39, 65, false, aC 0),
  (.getfield 25, 40, 66, false, aF 6 5 6 false),
  (.iload 7, 41, 69, false, aC 0),
  (.iaload, 42, 71, false, aC 0),
  (.iconst 1, 43, 72, false, aC (nI 1)),
  (.if_icmp .ne 33, 44, 73, false, aT [61]),
  (.aload_n 0, 45, 76, false, aC 0),
  (.getfield 7, 46, 77, false, aF 6 0 1 false),
  (.iload 7, 47, 80, false, aC 0),
  (.iaload, 48, 82, false, aC 0),
  (.iconst 1, 49, 83, false, aC (nI 1)),
  (.if_icmp .ne 22, 50, 84, false, aT [61]),
  (.aload_n 0, 51, 87, false, aC 0),
  (.getfield 19, 52, 88, false, aF 6 3 4 false),
  (.iload 7, 53, 91, false, aC 0),
  (.iaload, 54, 93, false, aC 0),
  (.bipush 12, 55, 94, false, aC (nI 12)),
  (.if_icmp .eq 10, 56, 96, false, aT [61]),
  (.iconst 1, 57, 99, false, aC (nI 1)),
  (.iload 7, 58, 100, false, aC 0),
  (.ishl, 59, 102, false, aC 0),
  (.goto 4, 60, 103, false, aT [62]),
  (.iconst 0, 61, 106, false, aC (nI 0)),
  (.ior, 62, 107, false, aC 0),
  (.istore 6, 63, 108, false, aC 0),
  (.iinc 7 1, 64, 110, false, aC (nI 1)),
  (.goto (-74), 65, 113, false, aT [25]),
  (.iload 4, 66, 116, false, aC 0),
  (.ifCond .ne 30, 67, 118, false, aT [80]),
  (.iload 5, 68, 121, false, aC 0),
  (.ifCond .eq 25, 69, 123, false, aT [80]),
  (.aload_n 0, 70, 126, false, aC 0),
  (.iload 5, 71, 127, false, aC 0),
  (.aload_n 0, 72, 129, false, aC 0),
  (.iload 5, 73, 130, false, aC 0),
  (.invokestatic 154, 74, 132, false, aM 110 1 true true 6),
  (.invokevirtual 269, 75, 135, false, aM 170 1 false true 6),
  (.invokestatic 272, 76, 138, false, aM 171 2 true true 6),
  (.invokevirtual 210, 77, 141, false, aM 150 1 false true 6),
  (.pop, 78, 144, false, aC 0),
  (.iinc 2 1, 79, 145, false, aC (nI 1)),
  (.iload 4, 80, 148, false, aC 0),
  (.ifCond .le 54, 81, 150, false, aT [106]),
  (.aload_n 0, 82, 153, false, aC 0),
  (.getfield 83, 83, 154, false, aF 6 6 0 false),
  (.bipush 12, 84, 157, false, aC (nI 12)),
  (.if_icmp .ge 45, 85, 159, false, aT [106]),
  (.iload 6, 86, 162, false, aC 0),
  (.ifCond .eq 40, 87, 164, false, aT [106]),
  (.iload 6, 88, 167, false, aC 0),
  (.aload_n 0, 89, 169, false, aC 0),
  (.iload 6, 90, 170, false, aC 0),
  (.invokestatic 154, 91, 172, false, aM 110 1 true true 6),
  (.invokevirtual 269, 92, 175, false, aM 170 1 false true 6),
  (.invokestatic 272, 93, 178, false, aM 171 2 true true 6),
  (.istore 7, 94, 181, false, aC 0),
  (.aload_n 0, 95, 183, false, aC 0),
  (.aload_n 0, 96, 184, false, aC 0),
  (.iconst 2, 97, 185, false, aC (nI 2)),
  (.invokevirtual 269, 98, 186, false, aM 170 1 false true 6),
  (.aload_n 0, 99, 189, false, aC 0),
  (.getfield 19, 100, 190, false, aF 6 3 4 false),
  (.iload 7, 101, 193, false, aC 0),
  (.iaload, 102, 195, false, aC 0),
  (.iload 7, 103, 196, false, aC 0),
  (.invokevirtual 101, 104, 198, false, aM 114 3 false false 6),
  (.iinc 2 100, 105, 201, false, aC (nI 100)),
  (.iinc 3 1, 106, 204, false, aC (nI 1)),
  (.goto (-189), 107, 207, false, aT [12]),
  (.iload_n 2, 108, 210, false, aC 0),
  (.ireturn, 109, 211, false, aC 0)]
theorem ok_X6_lots : okCode i_X6_lots k_X6_lots = true := by decide +kernel
/-- heads [] -/
def k_X6_seed : List Ins := [(.iload_n 1, 0, 0, false, aC 0),
  (.ifCond .ge 5, 1, 1, false, aT [4]),
  (.iconst (-1), 2, 4, false, aC ((-1))),
  (.ireturn, 3, 5, false, aC 0),
  (.aload_n 0, 4, 6, false, aC 0),
  (.getfield 46, 5, 7, false, aF 6 14 0 false),
  (.istore_n 2, 6, 10, false, aC 0),
  (.aload_n 0, 7, 11, false, aC 0),
  (.iload_n 1, 8, 12, false, aC 0),
  (.putfield 46, 9, 13, false, aF 6 14 0 false),
  (.iload_n 2, 10, 16, false, aC 0),
  (.ireturn, 11, 17, false, aC 0)]
theorem ok_X6_seed : okCode i_X6_seed k_X6_seed = true := by decide +kernel
/-- heads [] -/
def k_X6_isSheet : List Ins := [(.iload_n 0, 0, 0, false, aC 0),
  (.i2l, 1, 1, false, aC 0),
  (.lconst 0, 2, 2, false, aL 0),
  (.ldc2_w 141, 3, 3, false, aL 3),
  (.invokestatic 86, 4, 6, false, aM 108 3 true true 6),
  (.ifCond .eq 19, 5, 9, false, aT [14]),
  (.iload_n 1, 6, 12, false, aC 0),
  (.i2l, 7, 13, false, aC 0),
  (.lconst 0, 8, 14, false, aL 0),
  (.ldc2_w 275, 9, 15, false, aL 2),
  (.invokestatic 86, 10, 18, false, aM 108 3 true true 6),
  (.ifCond .eq 7, 11, 21, false, aT [14]),
  (.iconst 1, 12, 24, false, aC (nI 1)),
  (.goto 4, 13, 25, false, aT [15]),
  (.iconst 0, 14, 28, false, aC (nI 0)),
  (.ireturn, 15, 29, false, aC 0)]
theorem ok_X6_isSheet : okCode i_X6_isSheet k_X6_isSheet = true := by decide +kernel
/-- heads [25] -/
def k_X6_sheet : List Ins := [(.iload_n 1, 0, 0, false, aC 0),
  (.iload_n 2, 1, 1, false, aC 0),
  (.invokestatic 277, 2, 2, false, aM 174 2 true true 6),
  (.ifCond .eq 9, 3, 5, false, aT [7]),
  (.iload_n 3, 4, 8, false, aC 0),
  (.bipush 24, 5, 9, false, aC (nI 24)),
  (.if_icmp .le 5, 6, 11, false, aT [9]),
  (.iconst (-1), 7, 14, false, aC ((-1))),
  (.ireturn, 8, 15, false, aC 0),
  (.iload_n 3, 9, 16, false, aC 0),
  (.ifCond .ge 6, 10, 17, false, aT [13]),
  (.bipush (-14), 11, 20, false, aC ((-14))),
  (.ireturn, 12, 22, false, aC 0),
  (.aload_n 0, 13, 23, false, aC 0),
  (.getfield 68, 14, 24, false, aF 6 25 26 false),
  (.iload_n 1, 15, 27, false, aC 0),
  (.iload_n 2, 16, 28, false, aC 0),
  (.iastore, 17, 29, false, aC 0),
  (.aload_n 0, 18, 30, false, aC 0),
  (.getfield 71, 19, 31, false, aF 6 26 27 false),
  (.iload_n 1, 20, 34, false, aC 0),
  (.iload_n 3, 21, 35, false, aC 0),
  (.iastore, 22, 36, false, aC 0),
  (.iconst 0, 23, 37, false, aC (nI 0)),
  (.istore 4, 24, 38, false, aC 0),
  (.iload 4, 25, 40, true, aC 0),
  (.bipush 24, 26, 42, false, aC (nI 24)),
  (.if_icmp .ge 22, 27, 44, false, aT [39]),
  (.aload_n 0, 28, 47, false, aC 0),
  (.getfield 74, 29, 48, false, aF 6 27 28 false),
  (.bipush 24, 30, 51, false, aC (nI 24)),
  (.iload_n 1, 31, 53, false, aC 0),
  (.imul, 32, 54, false, aC 0),
  (.iload 4, 33, 55, false, aC 0),
  (.iadd, 34, 57, false, aC 0),
  (.iconst 0, 35, 58, false, aC (nI 0)),
  (.iastore, 36, 59, false, aC 0),
  (.iinc 4 1, 37, 60, false, aC (nI 1)),
  (.goto (-23), 38, 63, false, aT [25]),
  (.iload_n 3, 39, 66, false, aC 0),
  (.ireturn, 40, 67, false, aC 0)]
theorem ok_X6_sheet : okCode i_X6_sheet k_X6_sheet = true := by decide +kernel
/-- heads [] -/
def k_X6_drop : List Ins := [(.iload_n 1, 0, 0, false, aC 0),
  (.i2l, 1, 1, false, aC 0),
  (.lconst 0, 2, 2, false, aL 0),
  (.ldc2_w 141, 3, 3, false, aL 3),
  (.invokestatic 86, 4, 6, false, aM 108 3 true true 6),
  (.ifCond .ne 5, 5, 9, false, aT [8]),
  (.iconst (-1), 6, 12, false, aC ((-1))),
  (.ireturn, 7, 13, false, aC 0),
  (.aload_n 0, 8, 14, false, aC 0),
  (.getfield 68, 9, 15, false, aF 6 25 26 false),
  (.iload_n 1, 10, 18, false, aC 0),
  (.iaload, 11, 19, false, aC 0),
  (.ifCond .ge 6, 12, 20, false, aT [15]),
  (.bipush (-11), 13, 23, false, aC ((-11))),
  (.ireturn, 14, 25, false, aC 0),
  (.aload_n 0, 15, 26, false, aC 0),
  (.getfield 68, 16, 27, false, aF 6 25 26 false),
  (.iload_n 1, 17, 30, false, aC 0),
  (.iconst (-1), 18, 31, false, aC ((-1))),
  (.iastore, 19, 32, false, aC 0),
  (.aload_n 0, 20, 33, false, aC 0),
  (.getfield 71, 21, 34, false, aF 6 26 27 false),
  (.iload_n 1, 22, 37, false, aC 0),
  (.iaload, 23, 38, false, aC 0),
  (.ireturn, 24, 39, false, aC 0)]
theorem ok_X6_drop : okCode i_X6_drop k_X6_drop = true := by decide +kernel
/-- heads [] -/
def k_X6_lacksRow : List Ins := [(.aload_n 0, 0, 0, false, aC 0),
  (.getfield 68, 1, 1, false, aF 6 25 26 false),
  (.iload_n 1, 2, 4, false, aC 0),
  (.iaload, 3, 5, false, aC 0),
  (.iload_n 2, 4, 6, false, aC 0),
  (.if_icmp .eq 20, 5, 7, false, aT [15]),
  (.aload_n 0, 6, 10, false, aC 0),
  (.getfield 68, 7, 11, false, aF 6 25 26 false),
  (.iload_n 1, 8, 14, false, aC 0),
  (.iaload, 9, 15, false, aC 0),
  (.ifCond .ge 8, 10, 16, false, aT [13]),
  (.bipush (-11), 11, 19, false, aC ((-11))),
  (.goto 5, 12, 21, false, aT [14]),
  (.bipush (-12), 13, 24, false, aC ((-12))),
  (.ireturn, 14, 26, false, aC 0),
  (.iload_n 3, 15, 27, false, aC 0),
  (.i2l, 16, 28, false, aC 0),
  (.lconst 0, 17, 29, false, aL 0),
  (.aload_n 0, 18, 30, false, aC 0),
  (.getfield 71, 19, 31, false, aF 6 26 27 false),
  (.iload_n 1, 20, 34, false, aC 0),
  (.iaload, 21, 35, false, aC 0),
  (.iload 4, 22, 36, false, aC 0),
  (.isub, 23, 38, false, aC 0),
  (.i2l, 24, 39, false, aC 0),
  (.invokestatic 86, 25, 40, false, aM 108 3 true true 6),
  (.ifCond .eq 7, 26, 43, false, aT [29]),
  (.iconst 0, 27, 46, false, aC (nI 0)),
  (.goto 5, 28, 47, false, aT [30]),
  (.bipush (-13), 29, 50, false, aC ((-13))),
  (.ireturn, 30, 52, false, aC 0)]
theorem ok_X6_lacksRow : okCode i_X6_lacksRow k_X6_lacksRow = true := by decide +kernel
/-- heads [] -/
def k_X6_item : List Ins := [(.iload_n 1, 0, 0, false, aC 0),
  (.iload_n 2, 1, 1, false, aC 0),
  (.invokestatic 277, 2, 2, false, aM 174 2 true true 6),
  (.ifCond .ne 5, 3, 5, false, aT [6]),
  (.iconst (-1), 4, 8, false, aC ((-1))),
  (.ireturn, 5, 9, false, aC 0),
  (.aload_n 0, 6, 10, false, aC 0),
  (.iload_n 1, 7, 11, false, aC 0),
  (.iload_n 2, 8, 12, false, aC 0),
  (.iload_n 3, 9, 13, false, aC 0),
  (.iconst 1, 10, 14, false, aC (nI 1)),
  (.invokevirtual 280, 11, 15, false, aM 177 4 false true 6),
  (.istore 5, 12, 18, false, aC 0),
  (.iload 5, 13, 20, false, aC 0),
  (.ifCond .ge 6, 14, 22, false, aT [17]),
  (.iload 5, 15, 25, false, aC 0),
  (.ireturn, 16, 27, false, aC 0),
  (.aload_n 0, 17, 28, false, aC 0),
  (.getfield 74, 18, 29, false, aF 6 27 28 false),
  (.bipush 24, 19, 32, false, aC (nI 24)),
  (.iload_n 1, 20, 34, false, aC 0),
  (.imul, 21, 35, false, aC 0),
  (.iload_n 3, 22, 36, false, aC 0),
  (.iadd, 23, 37, false, aC 0),
  (.iload_n 2, 24, 38, false, aC 0),
  (.ifCond .ne 14, 25, 39, false, aT [32]),
  (.iload 4, 26, 42, false, aC 0),
  (.bipush 24, 27, 44, false, aC (nI 24)),
  (.ishl, 28, 46, false, aC 0),
  (.bipush 24, 29, 47, false, aC (nI 24)),
  (.ishr, 30, 49, false, aC 0),
  (.goto 21, 31, 50, false, aT [42]),
  (.iload_n 2, 32, 53, false, aC 0),
  (.iconst 1, 33, 54, false, aC (nI 1)),
  (.if_icmp .ne 14, 34, 55, false, aT [41]),
  (.iload 4, 35, 58, false, aC 0),
  (.bipush 16, 36, 60, false, aC (nI 16)),
  (.ishl, 37, 62, false, aC 0),
  (.bipush 16, 38, 63, false, aC (nI 16)),
  (.ishr, 39, 65, false, aC 0),
  (.goto 5, 40, 66, false, aT [42]),
  (.iload 4, 41, 69, false, aC 0),
  (.iastore, 42, 71, false, aC 0),
  (.iconst 1, 43, 72, false, aC (nI 1)),
  (.ireturn, 44, 73, false, aC 0)]
theorem ok_X6_item : okCode i_X6_item k_X6_item = true := by decide +kernel
/-- heads [2] -/
def k_X6_dieAll : List Ins := [(.iconst 0, 0, 0, false, aC (nI 0)),
  (.istore_n 3, 1, 1, false, aC 0),
  (.iload_n 3, 2, 2, true, aC 0),
  (.iload_n 2, 3, 3, false, aC 0),
  (.if_icmp .ge 39, 4, 4, false, aT [27]),
  (.aload_n 0, 5, 7, false, aC 0),
  (.aload_n 0, 6, 8, false, aC 0),
  (.getfield 74, 7, 9, false, aF 6 27 28 false),
  (.iload_n 1, 8, 12, false, aC 0),
  (.iload_n 3, 9, 13, false, aC 0),
  (.iadd, 10, 14, false, aC 0),
  (.iaload, 11, 15, false, aC 0),
  (.invokevirtual 145, 12, 16, false, aM 113 1 false true 6),
  (.ifCond .ne 5, 13, 19, false, aT [16]),
  (.iload_n 3, 14, 22, false, aC 0),
  (.ireturn, 15, 23, false, aC 0),
  (.aload_n 0, 16, 24, false, aC 0),
  (.aload_n 0, 17, 25, false, aC 0),
  (.getfield 74, 18, 26, false, aF 6 27 28 false),
  (.iload_n 1, 19, 29, false, aC 0),
  (.iload_n 3, 20, 30, false, aC 0),
  (.iadd, 21, 31, false, aC 0),
  (.iaload, 22, 32, false, aC 0),
  (.invokevirtual 210, 23, 33, false, aM 150 1 false true 6),
  (.pop, 24, 36, false, aC 0),
  (.iinc 3 1, 25, 37, false, aC (nI 1)),
  (.goto (-38), 26, 40, false, aT [2]),
  (.bipush (-4), 27, 43, false, aC ((-4))),
  (.ireturn, 28, 45, false, aC 0)]
theorem ok_X6_dieAll : okCode i_X6_dieAll k_X6_dieAll = true := by decide +kernel
/-- heads [] -/
def k_X6_judged : List Ins := [(.iload_n 1, 0, 0, false, aC 0),
  (.iload_n 2, 1, 1, false, aC 0),
  (.invokestatic 277, 2, 2, false, aM 174 2 true true 6),
  (.ifCond .eq 16, 3, 5, false, aT [10]),
  (.iload 4, 4, 8, false, aC 0),
  (.i2l, 5, 10, false, aC 0),
  (.lconst 1, 6, 11, false, aL 1),
  (.ldc2_w 163, 7, 12, false, aL 8),
  (.invokestatic 86, 8, 15, false, aM 108 3 true true 6),
  (.ifCond .ne 5, 9, 18, false, aT [12]),
  (.iconst (-1), 10, 21, false, aC ((-1))),
  (.ireturn, 11, 22, false, aC 0),
  (.aload_n 0, 12, 23, false, aC 0),
  (.iload_n 1, 13, 24, false, aC 0),
  (.iload_n 2, 14, 25, false, aC 0),
  (.iload_n 3, 15, 26, false, aC 0),
  (.iload 4, 16, 27, false, aC 0),
  (.invokevirtual 280, 17, 29, false, aM 177 4 false true 6),
  (.istore 5, 18, 32, false, aC 0),
  (.iload 5, 19, 34, false, aC 0),
  (.ifCond .ge 6, 20, 36, false, aT [23]),
  (.iload 5, 21, 39, false, aC 0),
  (.ireturn, 22, 41, false, aC 0),
  (.aload_n 0, 23, 42, false, aC 0),
  (.invokevirtual 232, 24, 43, false, aM 156 0 false false 6),
  (.aload_n 0, 25, 46, false, aC 0),
  (.bipush 24, 26, 47, false, aC (nI 24)),
  (.iload_n 1, 27, 49, false, aC 0),
  (.imul, 28, 50, false, aC 0),
  (.iload_n 3, 29, 51, false, aC 0),
  (.iadd, 30, 52, false, aC 0),
  (.iload 4, 31, 53, false, aC 0),
  (.invokevirtual 284, 32, 55, false, aM 179 2 false true 6),
  (.istore 6, 33, 58, false, aC 0),
  (.aload_n 0, 34, 60, false, aC 0),
  (.invokevirtual 235, 35, 61, false, aM 157 0 false false 6),
  (.iload 6, 36, 64, false, aC 0),
  (.ireturn, 37, 66, false, aC 0)]
theorem ok_X6_judged : okCode i_X6_judged k_X6_judged = true := by decide +kernel
/-- heads [] -/
def k_X6_canPair : List Ins := [(.iload_n 1, 0, 0, false, aC 0),
  (.bipush 12, 1, 1, false, aC (nI 12)),
  (.idiv, 2, 3, false, aC 0),
  (.istore_n 2, 3, 4, false, aC 0),
  (.iload_n 1, 4, 5, false, aC 0),
  (.bipush 12, 5, 6, false, aC (nI 12)),
  (.irem, 6, 8, false, aC 0),
  (.istore_n 3, 7, 9, false, aC 0),
  (.aload_n 0, 8, 10, false, aC 0),
  (.iload_n 2, 9, 11, false, aC 0),
  (.invokevirtual 93, 10, 12, false, aM 111 1 false true 6),
  (.ifCond .eq 43, 11, 15, false, aT [34]),
  (.aload_n 0, 12, 18, false, aC 0),
  (.iload_n 3, 13, 19, false, aC 0),
  (.invokevirtual 93, 14, 20, false, aM 111 1 false true 6),
  (.ifCond .eq 35, 15, 23, false, aT [34]),
  (.aload_n 0, 16, 26, false, aC 0),
  (.getfield 7, 17, 27, false, aF 6 0 1 false),
  (.iload_n 2, 18, 30, false, aC 0),
  (.iaload, 19, 31, false, aC 0),
  (.ifCond .ne 26, 20, 32, false, aT [34]),
  (.aload_n 0, 21, 35, false, aC 0),
  (.getfield 7, 22, 36, false, aF 6 0 1 false),
  (.iload_n 3, 23, 39, false, aC 0),
  (.iaload, 24, 40, false, aC 0),
  (.iconst 1, 25, 41, false, aC (nI 1)),
  (.if_icmp .ne 16, 26, 42, false, aT [34]),
  (.aload_n 0, 27, 45, false, aC 0),
  (.iload_n 2, 28, 46, false, aC 0),
  (.iload_n 3, 29, 47, false, aC 0),
  (.invokevirtual 114, 30, 48, false, aM 120 2 false true 6),
  (.ifCond .eq 7, 31, 51, false, aT [34]),
  (.iconst 1, 32, 54, false, aC (nI 1)),
  (.goto 4, 33, 55, false, aT [35]),
  (.iconst 0, 34, 58, false, aC (nI 0)),
  (.ireturn, 35, 59, false, aC 0)]
theorem ok_X6_canPair : okCode i_X6_canPair k_X6_canPair = true := by decide +kernel
/-- heads [4] -/
def k_X6_brings : List Ins := [(.iconst 1, 0, 0, false, aC (nI 1)),
  (.istore 6, 1, 1, false, aC 0),
  (.iconst 0, 2, 3, false, aC (nI 0)),
  (.istore 7, 3, 4, false, aC 0),
  (.iload 7, 4, 6, true, aC 0),
  (.iload_n 1, 5, 8, false, aC 0),
  (.if_icmp .ge 56, 6, 9, false, aT [34]),
  (.iload 6, 7, 12, false, aC 0),
  (.ifCond .eq 51, 8, 14, false, aT [34]),
  (.aload_n 0, 9, 17, false, aC 0),
  (.aload_n 0, 10, 18, false, aC 0),
  (.getfield 77, 11, 19, false, aF 6 28 29 false),
  (.iload 7, 12, 22, false, aC 0),
  (.iaload, 13, 24, false, aC 0),
  (.invokevirtual 287, 14, 25, false, aM 181 1 false true 6),
  (.istore 6, 15, 28, false, aC 0),
  (.iload 6, 16, 30, false, aC 0),
  (.ifCond .eq 27, 17, 32, false, aT [32]),
  (.aload_n 0, 18, 35, false, aC 0),
  (.aload_n 0, 19, 36, false, aC 0),
  (.getfield 77, 20, 37, false, aF 6 28 29 false),
  (.iload 7, 21, 40, false, aC 0),
  (.iaload, 22, 42, false, aC 0),
  (.bipush 12, 23, 43, false, aC (nI 12)),
  (.idiv, 24, 45, false, aC 0),
  (.aload_n 0, 25, 46, false, aC 0),
  (.getfield 77, 26, 47, false, aF 6 28 29 false),
  (.iload 7, 27, 50, false, aC 0),
  (.iaload, 28, 52, false, aC 0),
  (.bipush 12, 29, 53, false, aC (nI 12)),
  (.irem, 30, 55, false, aC 0),
  (.invokevirtual 117, 31, 56, false, aM 121 2 false false 6),
  (.iinc 7 1, 32, 59, false, aC (nI 1)),
  (.goto (-56), 33, 62, false, aT [4]),
  (.iload 6, 34, 65, false, aC 0),
  (.ifCond .eq 20, 35, 67, false, aT [44]),
  (.aload_n 0, 36, 70, false, aC 0),
  (.iload 4, 37, 71, false, aC 0),
  (.iload 5, 38, 73, false, aC 0),
  (.invokevirtual 284, 39, 75, false, aM 179 2 false true 6),
  (.bipush (-4), 40, 78, false, aC ((-4))),
  (.if_icmp .ne 7, 41, 80, false, aT [44]),
  (.iconst 1, 42, 83, false, aC (nI 1)),
  (.goto 4, 43, 84, false, aT [45]),
  (.iconst 0, 44, 87, false, aC (nI 0)),
  (.istore 6, 45, 88, false, aC 0),
  (.iload 6, 46, 90, false, aC 0),
  (.ifCond .eq 32, 47, 92, false, aT [64]),
  (.aload_n 0, 48, 95, false, aC 0),
  (.getfield 34, 49, 96, false, aF 6 9 10 false),
  (.iload_n 2, 50, 99, false, aC 0),
  (.iaload, 51, 100, false, aC 0),
  (.bipush 12, 52, 101, false, aC (nI 12)),
  (.if_icmp .ge 21, 53, 103, false, aT [64]),
  (.aload_n 0, 54, 106, false, aC 0),
  (.aload_n 0, 55, 107, false, aC 0),
  (.getfield 34, 56, 108, false, aF 6 9 10 false),
  (.iload_n 2, 57, 111, false, aC 0),
  (.iaload, 58, 112, false, aC 0),
  (.invokevirtual 121, 59, 113, false, aM 125 1 false true 6),
  (.iload_n 3, 60, 116, false, aC 0),
  (.if_icmp .ne 7, 61, 117, false, aT [64]),
  (.iconst 1, 62, 120, false, aC (nI 1)),
  (.goto 4, 63, 121, false, aT [65]),
  (.iconst 0, 64, 124, false, aC (nI 0)),
  (.istore 6, 65, 125, false, aC 0),
  (.aload_n 0, 66, 127, false, aC 0),
  (.invokevirtual 235, 67, 128, false, aM 157 0 false false 6),
  (.iload 6, 68, 131, false, aC 0),
  (.ireturn, 69, 133, false, aC 0)]
theorem ok_X6_brings : okCode i_X6_brings k_X6_brings = true := by decide +kernel
/-- heads [14, 36, 41] -/
def k_X6_findWed : List Ins := [(.aload_n 0, 0, 0, false, aC 0),
  (.invokevirtual 232, 1, 1, false, aM 156 0 false false 6),
  (.aload_n 0, 2, 4, false, aC 0),
  (.iconst 0, 3, 5, false, aC (nI 0)),
  (.iload_n 1, 4, 6, false, aC 0),
  (.iload_n 2, 5, 7, false, aC 0),
  (.iload_n 3, 6, 8, false, aC 0),
  (.iload 4, 7, 9, false, aC 0),
  (.invokevirtual 290, 8, 11, false, aM 182 5 false true 6),
  (.ifCond .eq 5, 9, 14, false, aT [12]),
  (.iconst 0, 10, 17, false, aC (nI 0)),
  (.ireturn, 11, 18, false, aC 0),
  (.iconst 0, 12, 19, false, aC (nI 0)),
  (.istore 5, 13, 20, false, aC 0),
  (.iload 5, 14, 22, true, aC 0),
  (.sipush 144, 15, 24, false, aC (nI 144)),
  (.if_icmp .ge 32, 16, 27, false, aT [34]),
  (.aload_n 0, 17, 30, false, aC 0),
  (.getfield 77, 18, 31, false, aF 6 28 29 false),
  (.iconst 0, 19, 34, false, aC (nI 0)),
  (.iload 5, 20, 35, false, aC 0),
  (.iastore, 21, 37, false, aC 0),
  (.aload_n 0, 22, 38, false, aC 0),
  (.iconst 1, 23, 39, false, aC (nI 1)),
  (.iload_n 1, 24, 40, false, aC 0),
  (.iload_n 2, 25, 41, false, aC 0),
  (.iload_n 3, 26, 42, false, aC 0),
  (.iload 4, 27, 43, false, aC 0),
  (.invokevirtual 290, 28, 45, false, aM 182 5 false true 6),
  (.ifCond .eq 5, 29, 48, false, aT [32]),
  (.iconst 1, 30, 51, false, aC (nI 1)),
  (.ireturn, 31, 52, false, aC 0),
  (.iinc 5 1, 32, 53, false, aC (nI 1)),
  (.goto (-34), 33, 56, false, aT [14]),
  (.iconst 0, 34, 59, false, aC (nI 0)),
  (.istore 5, 35, 60, false, aC 0),
  (.iload 5, 36, 62, true, aC 0),
  (.sipush 144, 37, 64, false, aC (nI 144)),
  (.if_icmp .ge 66, 38, 67, false, aT [72]),
  (.iconst 0, 39, 70, false, aC (nI 0)),
  (.istore 6, 40, 71, false, aC 0),
  (.iload 6, 41, 73, true, aC 0),
  (.sipush 144, 42, 75, false, aC (nI 144)),
  (.if_icmp .ge 49, 43, 78, false, aT [70]),
  (.aload_n 0, 44, 81, false, aC 0),
  (.iload 5, 45, 82, false, aC 0),
  (.invokevirtual 287, 46, 84, false, aM 181 1 false true 6),
  (.ifCond .eq 40, 47, 87, false, aT [70]),
  (.aload_n 0, 48, 90, false, aC 0),
  (.getfield 77, 49, 91, false, aF 6 28 29 false),
  (.iconst 0, 50, 94, false, aC (nI 0)),
  (.iload 5, 51, 95, false, aC 0),
  (.iastore, 52, 97, false, aC 0),
  (.aload_n 0, 53, 98, false, aC 0),
  (.getfield 77, 54, 99, false, aF 6 28 29 false),
  (.iconst 1, 55, 102, false, aC (nI 1)),
  (.iload 6, 56, 103, false, aC 0),
  (.iastore, 57, 105, false, aC 0),
  (.aload_n 0, 58, 106, false, aC 0),
  (.iconst 2, 59, 107, false, aC (nI 2)),
  (.iload_n 1, 60, 108, false, aC 0),
  (.iload_n 2, 61, 109, false, aC 0),
  (.iload_n 3, 62, 110, false, aC 0),
  (.iload 4, 63, 111, false, aC 0),
  (.invokevirtual 290, 64, 113, false, aM 182 5 false true 6),
  (.ifCond .eq 5, 65, 116, false, aT [68]),
  (.iconst 2, 66, 119, false, aC (nI 2)),
  (.ireturn, 67, 120, false, aC 0),
  (.iinc 6 1, 68, 121, false, aC (nI 1)),
  (.goto (-51), 69, 124, false, aT [41]),
  (.iinc 5 1, 70, 127, false, aC (nI 1)),
  (.goto (-68), 71, 130, false, aT [36]),
  (.bipush (-4), 72, 133, false, aC ((-4))),
  (.ireturn, 73, 135, false, aC 0)]
theorem ok_X6_findWed : okCode i_X6_findWed k_X6_findWed = true := by decide +kernel
/-- heads [] -/
def k_X6_wed : List Ins := [(.aload_n 0, 0, 0, false, aC 0),
  (.iload_n 1, 1, 1, false, aC 0),
  (.invokevirtual 151, 2, 2, false, aM 112 1 false true 6),
  (.ifCond .eq 52, 3, 5, false, aT [26]),
  (.iload_n 2, 4, 8, false, aC 0),
  (.i2l, 5, 9, false, aC 0),
  (.lconst 0, 6, 10, false, aL 0),
  (.ldc2_w 213, 7, 11, false, aL 11),
  (.invokestatic 86, 8, 14, false, aM 108 3 true true 6),
  (.ifCond .eq 40, 9, 17, false, aT [26]),
  (.iload_n 3, 10, 20, false, aC 0),
  (.iload 4, 11, 21, false, aC 0),
  (.invokestatic 277, 12, 23, false, aM 174 2 true true 6),
  (.ifCond .eq 31, 13, 26, false, aT [26]),
  (.iload 6, 14, 29, false, aC 0),
  (.i2l, 15, 31, false, aC 0),
  (.lconst 1, 16, 32, false, aL 1),
  (.ldc2_w 163, 17, 33, false, aL 8),
  (.invokestatic 86, 18, 36, false, aM 108 3 true true 6),
  (.ifCond .eq 18, 19, 39, false, aT [26]),
  (.iload 7, 20, 42, false, aC 0),
  (.i2l, 21, 44, false, aC 0),
  (.ldc2_w 294, 22, 45, false, aL (-1)),
  (.ldc2_w 141, 23, 48, false, aL 3),
  (.invokestatic 86, 24, 51, false, aM 108 3 true true 6),
  (.ifCond .ne 5, 25, 54, false, aT [28]),
  (.iconst (-1), 26, 57, false, aC ((-1))),
  (.ireturn, 27, 58, false, aC 0),
  (.aload_n 0, 28, 59, false, aC 0),
  (.iload_n 3, 29, 60, false, aC 0),
  (.iload 4, 30, 61, false, aC 0),
  (.iload 5, 31, 63, false, aC 0),
  (.iload 6, 32, 65, false, aC 0),
  (.invokevirtual 280, 33, 67, false, aM 177 4 false true 6),
  (.istore 8, 34, 70, false, aC 0),
  (.iload 8, 35, 72, false, aC 0),
  (.ifCond .ge 6, 36, 74, false, aT [39]),
  (.iload 8, 37, 77, false, aC 0),
  (.ireturn, 38, 79, false, aC 0),
  (.aload_n 0, 39, 80, false, aC 0),
  (.iload_n 1, 40, 81, false, aC 0),
  (.iload_n 2, 41, 82, false, aC 0),
  (.bipush 24, 42, 83, false, aC (nI 24)),
  (.iload_n 3, 43, 85, false, aC 0),
  (.imul, 44, 86, false, aC 0),
  (.iload 5, 45, 87, false, aC 0),
  (.iadd, 46, 89, false, aC 0),
  (.iload 6, 47, 90, false, aC 0),
  (.invokevirtual 296, 48, 92, false, aM 183 4 false true 6),
  (.istore 9, 49, 95, false, aC 0),
  (.iload 9, 50, 97, false, aC 0),
  (.ifCond .ge 6, 51, 99, false, aT [54]),
  (.bipush (-2), 52, 102, false, aC ((-2))),
  (.ireturn, 53, 104, false, aC 0),
  (.iload 7, 54, 105, false, aC 0),
  (.ifCond .ge 8, 55, 107, false, aT [58]),
  (.iload 9, 56, 110, false, aC 0),
  (.goto 51, 57, 112, false, aT [86]),
  (.iload 7, 58, 115, false, aC 0),
  (.iconst 2, 59, 117, false, aC (nI 2)),
  (.iload 9, 60, 118, false, aC 0),
  (.imul, 61, 120, false, aC 0),
  (.if_icmp .lt 8, 62, 121, false, aT [65]),
  (.bipush (-4), 63, 124, false, aC ((-4))),
  (.goto 37, 64, 126, false, aT [86]),
  (.iload 7, 65, 129, false, aC 0),
  (.iconst 2, 66, 131, false, aC (nI 2)),
  (.irem, 67, 132, false, aC 0),
  (.ifCond .ne 18, 68, 133, false, aT [78]),
  (.aload_n 0, 69, 136, false, aC 0),
  (.getfield 77, 70, 137, false, aF 6 28 29 false),
  (.iload 7, 71, 140, false, aC 0),
  (.iconst 2, 72, 142, false, aC (nI 2)),
  (.idiv, 73, 143, false, aC 0),
  (.iaload, 74, 144, false, aC 0),
  (.bipush 12, 75, 145, false, aC (nI 12)),
  (.idiv, 76, 147, false, aC 0),
  (.goto 15, 77, 148, false, aT [86]),
  (.aload_n 0, 78, 151, false, aC 0),
  (.getfield 77, 79, 152, false, aF 6 28 29 false),
  (.iload 7, 80, 155, false, aC 0),
  (.iconst 2, 81, 157, false, aC (nI 2)),
  (.idiv, 82, 158, false, aC 0),
  (.iaload, 83, 159, false, aC 0),
  (.bipush 12, 84, 160, false, aC (nI 12)),
  (.irem, 85, 162, false, aC 0),
  (.ireturn, 86, 163, false, aC 0)]
theorem ok_X6_wed : okCode i_X6_wed k_X6_wed = true := by decide +kernel
/-- heads [20] -/
def k_X6_film : List Ins := [(.iload_n 1, 0, 0, false, aC 0),
  (.iload_n 2, 1, 1, false, aC 0),
  (.invokestatic 277, 2, 2, false, aM 174 2 true true 6),
  (.ifCond .ne 5, 3, 5, false, aT [6]),
  (.iconst (-1), 4, 8, false, aC ((-1))),
  (.ireturn, 5, 9, false, aC 0),
  (.aload_n 0, 6, 10, false, aC 0),
  (.iload_n 1, 7, 11, false, aC 0),
  (.iload_n 2, 8, 12, false, aC 0),
  (.iload_n 3, 9, 13, false, aC 0),
  (.aload_n 0, 10, 14, false, aC 0),
  (.getfield 90, 11, 15, false, aF 6 11 0 false),
  (.invokevirtual 280, 12, 18, false, aM 177 4 false true 6),
  (.istore 4, 13, 21, false, aC 0),
  (.iload 4, 14, 23, false, aC 0),
  (.ifCond .ge 6, 15, 25, false, aT [18]),
  (.iload 4, 16, 28, false, aC 0),
  (.ireturn, 17, 30, false, aC 0),
  (.iconst 0, 18, 31, false, aC (nI 0)),
  (.istore 5, 19, 32, false, aC 0),
  (.iload 5, 20, 34, true, aC 0),
  (.aload_n 0, 21, 36, false, aC 0),
  (.getfield 90, 22, 37, false, aF 6 11 0 false),
  (.if_icmp .ge 30, 23, 40, false, aT [40]),
  (.aload_n 0, 24, 43, false, aC 0),
  (.getfield 74, 25, 44, false, aF 6 27 28 false),
  (.bipush 24, 26, 47, false, aC (nI 24)),
  (.iload_n 1, 27, 49, false, aC 0),
  (.imul, 28, 50, false, aC 0),
  (.iload_n 3, 29, 51, false, aC 0),
  (.iadd, 30, 52, false, aC 0),
  (.iload 5, 31, 53, false, aC 0),
  (.iadd, 32, 55, false, aC 0),
  (.aload_n 0, 33, 56, false, aC 0),
  (.getfield 34, 34, 57, false, aF 6 9 10 false),
  (.iload 5, 35, 60, false, aC 0),
  (.iaload, 36, 62, false, aC 0),
  (.iastore, 37, 63, false, aC 0),
  (.iinc 5 1, 38, 64, false, aC (nI 1)),
  (.goto (-33), 39, 67, false, aT [20]),
  (.aload_n 0, 40, 70, false, aC 0),
  (.getfield 90, 41, 71, false, aF 6 11 0 false),
  (.ireturn, 42, 74, false, aC 0)]
theorem ok_X6_film : okCode i_X6_film k_X6_film = true := by decide +kernel
/-- heads [69, 90] -/
def k_X6_copy : List Ins := [(.iload_n 1, 0, 0, false, aC 0),
  (.i2l, 1, 1, false, aC 0),
  (.lconst 0, 2, 2, false, aL 0),
  (.ldc2_w 141, 3, 3, false, aL 3),
  (.invokestatic 86, 4, 6, false, aM 108 3 true true 6),
  (.ifCond .eq 15, 5, 9, false, aT [12]),
  (.iload_n 3, 6, 12, false, aC 0),
  (.i2l, 7, 13, false, aC 0),
  (.lconst 0, 8, 14, false, aL 0),
  (.ldc2_w 141, 9, 15, false, aL 3),
  (.invokestatic 86, 10, 18, false, aM 108 3 true true 6),
  (.ifCond .ne 5, 11, 21, false, aT [14]),
  (.iconst (-1), 12, 24, false, aC ((-1))),
  (.ireturn, 13, 25, false, aC 0),
  (.aload_n 0, 14, 26, false, aC 0),
  (.getfield 68, 15, 27, false, aF 6 25 26 false),
  (.iload_n 1, 16, 30, false, aC 0),
  (.iaload, 17, 31, false, aC 0),
  (.ifCond .lt 12, 18, 32, false, aT [24]),
  (.aload_n 0, 19, 35, false, aC 0),
  (.getfield 68, 20, 36, false, aF 6 25 26 false),
  (.iload_n 3, 21, 39, false, aC 0),
  (.iaload, 22, 40, false, aC 0),
  (.ifCond .ge 6, 23, 41, false, aT [26]),
  (.bipush (-11), 24, 44, false, aC ((-11))),
  (.ireturn, 25, 46, false, aC 0),
  (.aload_n 0, 26, 47, false, aC 0),
  (.getfield 68, 27, 48, false, aF 6 25 26 false),
  (.iload_n 1, 28, 51, false, aC 0),
  (.iaload, 29, 52, false, aC 0),
  (.aload_n 0, 30, 53, false, aC 0),
  (.getfield 68, 31, 54, false, aF 6 25 26 false),
  (.iload_n 3, 32, 57, false, aC 0),
  (.iaload, 33, 58, false, aC 0),
  (.if_icmp .eq 6, 34, 59, false, aT [37]),
  (.bipush (-12), 35, 62, false, aC ((-12))),
  (.ireturn, 36, 64, false, aC 0),
  (.iload 5, 37, 65, false, aC 0),
  (.ifCond .lt 44, 38, 67, false, aT [65]),
  (.iload_n 2, 39, 70, false, aC 0),
  (.i2l, 40, 71, false, aC 0),
  (.lconst 0, 41, 72, false, aL 0),
  (.aload_n 0, 42, 73, false, aC 0),
  (.getfield 71, 43, 74, false, aF 6 26 27 false),
  (.iload_n 1, 44, 77, false, aC 0),
  (.iaload, 45, 78, false, aC 0),
  (.i2l, 46, 79, false, aC 0),
  (.iload 5, 47, 80, false, aC 0),
  (.i2l, 48, 82, false, aC 0),
  (.lsub, 49, 83, false, aC 0),
  (.invokestatic 86, 50, 84, false, aM 108 3 true true 6),
  (.ifCond .eq 24, 51, 87, false, aT [65]),
  (.iload 4, 52, 90, false, aC 0),
  (.i2l, 53, 92, false, aC 0),
  (.lconst 0, 54, 93, false, aL 0),
  (.aload_n 0, 55, 94, false, aC 0),
  (.getfield 71, 56, 95, false, aF 6 26 27 false),
  (.iload_n 3, 57, 98, false, aC 0),
  (.iaload, 58, 99, false, aC 0),
  (.i2l, 59, 100, false, aC 0),
  (.iload 5, 60, 101, false, aC 0),
  (.i2l, 61, 103, false, aC 0),
  (.lsub, 62, 104, false, aC 0),
  (.invokestatic 86, 63, 105, false, aM 108 3 true true 6),
  (.ifCond .ne 6, 64, 108, false, aT [67]),
  (.bipush (-13), 65, 111, false, aC ((-13))),
  (.ireturn, 66, 113, false, aC 0),
  (.iconst 0, 67, 114, false, aC (nI 0)),
  (.istore 6, 68, 115, false, aC 0),
  (.iload 6, 69, 117, true, aC 0),
  (.iload 5, 70, 119, false, aC 0),
  (.if_icmp .ge 30, 71, 121, false, aT [88]),
  (.aload_n 0, 72, 124, false, aC 0),
  (.getfield 80, 73, 125, false, aF 6 29 30 false),
  (.iload 6, 74, 128, false, aC 0),
  (.aload_n 0, 75, 130, false, aC 0),
  (.getfield 74, 76, 131, false, aF 6 27 28 false),
  (.bipush 24, 77, 134, false, aC (nI 24)),
  (.iload_n 1, 78, 136, false, aC 0),
  (.imul, 79, 137, false, aC 0),
  (.iload_n 2, 80, 138, false, aC 0),
  (.iadd, 81, 139, false, aC 0),
  (.iload 6, 82, 140, false, aC 0),
  (.iadd, 83, 142, false, aC 0),
  (.iaload, 84, 143, false, aC 0),
  (.iastore, 85, 144, false, aC 0),
  (.iinc 6 1, 86, 145, false, aC (nI 1)),
  (.goto (-31), 87, 148, false, aT [69]),
  (.iconst 0, 88, 151, false, aC (nI 0)),
  (.istore 6, 89, 152, false, aC 0),
  (.iload 6, 90, 154, true, aC 0),
  (.iload 5, 91, 156, false, aC 0),
  (.if_icmp .ge 31, 92, 158, false, aT [109]),
  (.aload_n 0, 93, 161, false, aC 0),
  (.getfield 74, 94, 162, false, aF 6 27 28 false),
  (.bipush 24, 95, 165, false, aC (nI 24)),
  (.iload_n 3, 96, 167, false, aC 0),
  (.imul, 97, 168, false, aC 0),
  (.iload 4, 98, 169, false, aC 0),
  (.iadd, 99, 171, false, aC 0),
  (.iload 6, 100, 172, false, aC 0),
  (.iadd, 101, 174, false, aC 0),
  (.aload_n 0, 102, 175, false, aC 0),
  (.getfield 80, 103, 176, false, aF 6 29 30 false),
  (.iload 6, 104, 179, false, aC 0),
  (.iaload, 105, 181, false, aC 0),
  (.iastore, 106, 182, false, aC 0),
  (.iinc 6 1, 107, 183, false, aC (nI 1)),
  (.goto (-32), 108, 186, false, aT [90]),
  (.iload 5, 109, 189, false, aC 0),
  (.ireturn, 110, 191, false, aC 0)]
theorem ok_X6_copy : okCode i_X6_copy k_X6_copy = true := by decide +kernel
end
