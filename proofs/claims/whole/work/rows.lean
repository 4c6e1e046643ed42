section
/-- a private method of a class that the tables say can be made, by its rows of tables_1 -/
def lw_okq (q : MethodName × Nat) : Prop := (q.1.cls ≠ "java/lang/invoke/MethodHandle" ∧ q.1.cls ≠ "java/lang/invoke/VarHandle") ∧ Cond.instantiable q.1.cls q.2 ∈ tables_1 ∧ Cond.privateMethod q.1 ∈ tables_1 ∧ Cond.instanceMethod q.1 ∈ tables_1
theorem lw_p0 : lw_okq (⟨"KinGoodsModel", "isParent", "(II)Z"⟩, 30) := ⟨⟨by decide +kernel, by decide +kernel⟩, List.mem_of_getElem? (i := 643) (by decide +kernel), List.mem_of_getElem? (i := 747) (by decide +kernel), List.mem_of_getElem? (i := 748) (by decide +kernel)⟩
theorem lw_p1 : lw_okq (⟨"KinGoodsModel", "isOne", "(I)Z"⟩, 30) := ⟨⟨by decide +kernel, by decide +kernel⟩, List.mem_of_getElem? (i := 643) (by decide +kernel), List.mem_of_getElem? (i := 751) (by decide +kernel), List.mem_of_getElem? (i := 752) (by decide +kernel)⟩
theorem lw_p2 : lw_okq (⟨"KinGoodsModel", "add", "(III)V"⟩, 30) := ⟨⟨by decide +kernel, by decide +kernel⟩, List.mem_of_getElem? (i := 643) (by decide +kernel), List.mem_of_getElem? (i := 755) (by decide +kernel), List.mem_of_getElem? (i := 756) (by decide +kernel)⟩
theorem lw_p3 : lw_okq (⟨"KinGoodsModel", "canMarry", "(II)Z"⟩, 30) := ⟨⟨by decide +kernel, by decide +kernel⟩, List.mem_of_getElem? (i := 643) (by decide +kernel), List.mem_of_getElem? (i := 763) (by decide +kernel), List.mem_of_getElem? (i := 764) (by decide +kernel)⟩
theorem lw_p4 : lw_okq (⟨"KinGoodsModel", "areSiblings", "(II)Z"⟩, 30) := ⟨⟨by decide +kernel, by decide +kernel⟩, List.mem_of_getElem? (i := 643) (by decide +kernel), List.mem_of_getElem? (i := 767) (by decide +kernel), List.mem_of_getElem? (i := 768) (by decide +kernel)⟩
theorem lw_p5 : lw_okq (⟨"KinGoodsModel", "isChild", "(II)Z"⟩, 30) := ⟨⟨by decide +kernel, by decide +kernel⟩, List.mem_of_getElem? (i := 643) (by decide +kernel), List.mem_of_getElem? (i := 774) (by decide +kernel), List.mem_of_getElem? (i := 775) (by decide +kernel)⟩
theorem lw_p6 : lw_okq (⟨"KinGoodsModel", "marryNow", "(II)V"⟩, 30) := ⟨⟨by decide +kernel, by decide +kernel⟩, List.mem_of_getElem? (i := 643) (by decide +kernel), List.mem_of_getElem? (i := 778) (by decide +kernel), List.mem_of_getElem? (i := 779) (by decide +kernel)⟩
theorem lw_p7 : lw_okq (⟨"KinGoodsModel", "houseOf", "(I)I"⟩, 30) := ⟨⟨by decide +kernel, by decide +kernel⟩, List.mem_of_getElem? (i := 643) (by decide +kernel), List.mem_of_getElem? (i := 794) (by decide +kernel), List.mem_of_getElem? (i := 795) (by decide +kernel)⟩
theorem lw_p8 : lw_okq (⟨"KinGoodsModel", "kinOf", "(II)I"⟩, 30) := ⟨⟨by decide +kernel, by decide +kernel⟩, List.mem_of_getElem? (i := 643) (by decide +kernel), List.mem_of_getElem? (i := 803) (by decide +kernel), List.mem_of_getElem? (i := 804) (by decide +kernel)⟩
theorem lw_p9 : lw_okq (⟨"KinGoodsModel", "isRelation", "(III)Z"⟩, 30) := ⟨⟨by decide +kernel, by decide +kernel⟩, List.mem_of_getElem? (i := 643) (by decide +kernel), List.mem_of_getElem? (i := 807) (by decide +kernel), List.mem_of_getElem? (i := 808) (by decide +kernel)⟩
theorem lw_p10 : lw_okq (⟨"KinGoodsModel", "areCousins", "(II)Z"⟩, 30) := ⟨⟨by decide +kernel, by decide +kernel⟩, List.mem_of_getElem? (i := 643) (by decide +kernel), List.mem_of_getElem? (i := 811) (by decide +kernel), List.mem_of_getElem? (i := 812) (by decide +kernel)⟩
theorem lw_p11 : lw_okq (⟨"KinGoodsModel", "isParentsSibling", "(II)Z"⟩, 30) := ⟨⟨by decide +kernel, by decide +kernel⟩, List.mem_of_getElem? (i := 643) (by decide +kernel), List.mem_of_getElem? (i := 815) (by decide +kernel), List.mem_of_getElem? (i := 816) (by decide +kernel)⟩
theorem lw_p12 : lw_okq (⟨"KinGoodsModel", "livesOne", "(I)Z"⟩, 30) := ⟨⟨by decide +kernel, by decide +kernel⟩, List.mem_of_getElem? (i := 643) (by decide +kernel), List.mem_of_getElem? (i := 825) (by decide +kernel), List.mem_of_getElem? (i := 826) (by decide +kernel)⟩
theorem lw_p13 : lw_okq (⟨"KinGoodsModel", "isThing", "(I)Z"⟩, 30) := ⟨⟨by decide +kernel, by decide +kernel⟩, List.mem_of_getElem? (i := 643) (by decide +kernel), List.mem_of_getElem? (i := 836) (by decide +kernel), List.mem_of_getElem? (i := 837) (by decide +kernel)⟩
theorem lw_p14 : lw_okq (⟨"KinGoodsModel", "heirOf", "(II)I"⟩, 30) := ⟨⟨by decide +kernel, by decide +kernel⟩, List.mem_of_getElem? (i := 643) (by decide +kernel), List.mem_of_getElem? (i := 851) (by decide +kernel), List.mem_of_getElem? (i := 852) (by decide +kernel)⟩
theorem lw_p15 : lw_okq (⟨"KinGoodsModel", "readAll", "(II)Z"⟩, 30) := ⟨⟨by decide +kernel, by decide +kernel⟩, List.mem_of_getElem? (i := 643) (by decide +kernel), List.mem_of_getElem? (i := 870) (by decide +kernel), List.mem_of_getElem? (i := 871) (by decide +kernel)⟩
def lw_privs_1 : List (MethodName × Nat) := [(⟨"KinGoodsModel", "isParent", "(II)Z"⟩, 30), (⟨"KinGoodsModel", "isOne", "(I)Z"⟩, 30), (⟨"KinGoodsModel", "add", "(III)V"⟩, 30), (⟨"KinGoodsModel", "canMarry", "(II)Z"⟩, 30), (⟨"KinGoodsModel", "areSiblings", "(II)Z"⟩, 30), (⟨"KinGoodsModel", "isChild", "(II)Z"⟩, 30), (⟨"KinGoodsModel", "marryNow", "(II)V"⟩, 30), (⟨"KinGoodsModel", "houseOf", "(I)I"⟩, 30), (⟨"KinGoodsModel", "kinOf", "(II)I"⟩, 30), (⟨"KinGoodsModel", "isRelation", "(III)Z"⟩, 30), (⟨"KinGoodsModel", "areCousins", "(II)Z"⟩, 30), (⟨"KinGoodsModel", "isParentsSibling", "(II)Z"⟩, 30), (⟨"KinGoodsModel", "livesOne", "(I)Z"⟩, 30), (⟨"KinGoodsModel", "isThing", "(I)Z"⟩, 30), (⟨"KinGoodsModel", "heirOf", "(II)I"⟩, 30), (⟨"KinGoodsModel", "readAll", "(II)Z"⟩, 30)]
theorem lw_r1 : ∀ q ∈ lw_privs_1, lw_okq q := List.forall_mem_cons.mpr ⟨lw_p0, List.forall_mem_cons.mpr ⟨lw_p1, List.forall_mem_cons.mpr ⟨lw_p2, List.forall_mem_cons.mpr ⟨lw_p3, List.forall_mem_cons.mpr ⟨lw_p4, List.forall_mem_cons.mpr ⟨lw_p5, List.forall_mem_cons.mpr ⟨lw_p6, List.forall_mem_cons.mpr ⟨lw_p7, List.forall_mem_cons.mpr ⟨lw_p8, List.forall_mem_cons.mpr ⟨lw_p9, List.forall_mem_cons.mpr ⟨lw_p10, List.forall_mem_cons.mpr ⟨lw_p11, List.forall_mem_cons.mpr ⟨lw_p12, List.forall_mem_cons.mpr ⟨lw_p13, List.forall_mem_cons.mpr ⟨lw_p14, List.forall_mem_cons.mpr ⟨lw_p15, fun _ h => absurd h List.not_mem_nil⟩⟩⟩⟩⟩⟩⟩⟩⟩⟩⟩⟩⟩⟩⟩⟩
theorem lw_p16 : lw_okq (⟨"KinGoodsModel", "readPerson", "(I)Z"⟩, 30) := ⟨⟨by decide +kernel, by decide +kernel⟩, List.mem_of_getElem? (i := 643) (by decide +kernel), List.mem_of_getElem? (i := 874) (by decide +kernel), List.mem_of_getElem? (i := 875) (by decide +kernel)⟩
theorem lw_p17 : lw_okq (⟨"KinGoodsModel", "nextByte", "()I"⟩, 30) := ⟨⟨by decide +kernel, by decide +kernel⟩, List.mem_of_getElem? (i := 643) (by decide +kernel), List.mem_of_getElem? (i := 878) (by decide +kernel), List.mem_of_getElem? (i := 879) (by decide +kernel)⟩
theorem lw_p18 : lw_okq (⟨"KinGoodsModel", "takes", "(I)Z"⟩, 30) := ⟨⟨by decide +kernel, by decide +kernel⟩, List.mem_of_getElem? (i := 643) (by decide +kernel), List.mem_of_getElem? (i := 882) (by decide +kernel), List.mem_of_getElem? (i := 883) (by decide +kernel)⟩
theorem lw_p19 : lw_okq (⟨"KinGoodsModel", "readOne", "(II)I"⟩, 30) := ⟨⟨by decide +kernel, by decide +kernel⟩, List.mem_of_getElem? (i := 643) (by decide +kernel), List.mem_of_getElem? (i := 886) (by decide +kernel), List.mem_of_getElem? (i := 887) (by decide +kernel)⟩
theorem lw_p20 : lw_okq (⟨"KinGoodsModel", "readRule", "(I)Z"⟩, 30) := ⟨⟨by decide +kernel, by decide +kernel⟩, List.mem_of_getElem? (i := 643) (by decide +kernel), List.mem_of_getElem? (i := 890) (by decide +kernel), List.mem_of_getElem? (i := 891) (by decide +kernel)⟩
theorem lw_p21 : lw_okq (⟨"KinGoodsModel", "end", "(Z)I"⟩, 30) := ⟨⟨by decide +kernel, by decide +kernel⟩, List.mem_of_getElem? (i := 643) (by decide +kernel), List.mem_of_getElem? (i := 896) (by decide +kernel), List.mem_of_getElem? (i := 897) (by decide +kernel)⟩
theorem lw_p22 : lw_okq (⟨"KinGoodsModel", "die", "(I)I"⟩, 30) := ⟨⟨by decide +kernel, by decide +kernel⟩, List.mem_of_getElem? (i := 643) (by decide +kernel), List.mem_of_getElem? (i := 912) (by decide +kernel), List.mem_of_getElem? (i := 913) (by decide +kernel)⟩
theorem lw_p23 : lw_okq (⟨"KinGoodsModel", "end1", "(II)V"⟩, 30) := ⟨⟨by decide +kernel, by decide +kernel⟩, List.mem_of_getElem? (i := 643) (by decide +kernel), List.mem_of_getElem? (i := 916) (by decide +kernel), List.mem_of_getElem? (i := 917) (by decide +kernel)⟩
theorem lw_p24 : lw_okq (⟨"KinGoodsModel", "balanceOf", "(I)I"⟩, 30) := ⟨⟨by decide +kernel, by decide +kernel⟩, List.mem_of_getElem? (i := 643) (by decide +kernel), List.mem_of_getElem? (i := 929) (by decide +kernel), List.mem_of_getElem? (i := 930) (by decide +kernel)⟩
theorem lw_p25 : lw_okq (⟨"KinGoodsModel", "allLive", "(I)Z"⟩, 30) := ⟨⟨by decide +kernel, by decide +kernel⟩, List.mem_of_getElem? (i := 643) (by decide +kernel), List.mem_of_getElem? (i := 946) (by decide +kernel), List.mem_of_getElem? (i := 947) (by decide +kernel)⟩
theorem lw_p26 : lw_okq (⟨"KinGoodsModel", "firstOrder", "(I)I"⟩, 30) := ⟨⟨by decide +kernel, by decide +kernel⟩, List.mem_of_getElem? (i := 643) (by decide +kernel), List.mem_of_getElem? (i := 951) (by decide +kernel), List.mem_of_getElem? (i := 952) (by decide +kernel)⟩
theorem lw_p27 : lw_okq (⟨"KinGoodsModel", "keepAside", "()V"⟩, 30) := ⟨⟨by decide +kernel, by decide +kernel⟩, List.mem_of_getElem? (i := 643) (by decide +kernel), List.mem_of_getElem? (i := 955) (by decide +kernel), List.mem_of_getElem? (i := 956) (by decide +kernel)⟩
theorem lw_p28 : lw_okq (⟨"KinGoodsModel", "bringBack", "()V"⟩, 30) := ⟨⟨by decide +kernel, by decide +kernel⟩, List.mem_of_getElem? (i := 643) (by decide +kernel), List.mem_of_getElem? (i := 959) (by decide +kernel), List.mem_of_getElem? (i := 960) (by decide +kernel)⟩
theorem lw_p29 : lw_okq (⟨"KinGoodsModel", "nextOrder", "(I)Z"⟩, 30) := ⟨⟨by decide +kernel, by decide +kernel⟩, List.mem_of_getElem? (i := 643) (by decide +kernel), List.mem_of_getElem? (i := 963) (by decide +kernel), List.mem_of_getElem? (i := 964) (by decide +kernel)⟩
theorem lw_p30 : lw_okq (⟨"KinGoodsModel", "store", "([I)V"⟩, 30) := ⟨⟨by decide +kernel, by decide +kernel⟩, List.mem_of_getElem? (i := 643) (by decide +kernel), List.mem_of_getElem? (i := 971) (by decide +kernel), List.mem_of_getElem? (i := 972) (by decide +kernel)⟩
theorem lw_p31 : lw_okq (⟨"KinGoodsModel", "carried", "(IIZ)I"⟩, 30) := ⟨⟨by decide +kernel, by decide +kernel⟩, List.mem_of_getElem? (i := 643) (by decide +kernel), List.mem_of_getElem? (i := 975) (by decide +kernel), List.mem_of_getElem? (i := 976) (by decide +kernel)⟩
def lw_privs_2 : List (MethodName × Nat) := [(⟨"KinGoodsModel", "readPerson", "(I)Z"⟩, 30), (⟨"KinGoodsModel", "nextByte", "()I"⟩, 30), (⟨"KinGoodsModel", "takes", "(I)Z"⟩, 30), (⟨"KinGoodsModel", "readOne", "(II)I"⟩, 30), (⟨"KinGoodsModel", "readRule", "(I)Z"⟩, 30), (⟨"KinGoodsModel", "end", "(Z)I"⟩, 30), (⟨"KinGoodsModel", "die", "(I)I"⟩, 30), (⟨"KinGoodsModel", "end1", "(II)V"⟩, 30), (⟨"KinGoodsModel", "balanceOf", "(I)I"⟩, 30), (⟨"KinGoodsModel", "allLive", "(I)Z"⟩, 30), (⟨"KinGoodsModel", "firstOrder", "(I)I"⟩, 30), (⟨"KinGoodsModel", "keepAside", "()V"⟩, 30), (⟨"KinGoodsModel", "bringBack", "()V"⟩, 30), (⟨"KinGoodsModel", "nextOrder", "(I)Z"⟩, 30), (⟨"KinGoodsModel", "store", "([I)V"⟩, 30), (⟨"KinGoodsModel", "carried", "(IIZ)I"⟩, 30)]
theorem lw_r2 : ∀ q ∈ lw_privs_2, lw_okq q := List.forall_mem_cons.mpr ⟨lw_p16, List.forall_mem_cons.mpr ⟨lw_p17, List.forall_mem_cons.mpr ⟨lw_p18, List.forall_mem_cons.mpr ⟨lw_p19, List.forall_mem_cons.mpr ⟨lw_p20, List.forall_mem_cons.mpr ⟨lw_p21, List.forall_mem_cons.mpr ⟨lw_p22, List.forall_mem_cons.mpr ⟨lw_p23, List.forall_mem_cons.mpr ⟨lw_p24, List.forall_mem_cons.mpr ⟨lw_p25, List.forall_mem_cons.mpr ⟨lw_p26, List.forall_mem_cons.mpr ⟨lw_p27, List.forall_mem_cons.mpr ⟨lw_p28, List.forall_mem_cons.mpr ⟨lw_p29, List.forall_mem_cons.mpr ⟨lw_p30, List.forall_mem_cons.mpr ⟨lw_p31, fun _ h => absurd h List.not_mem_nil⟩⟩⟩⟩⟩⟩⟩⟩⟩⟩⟩⟩⟩⟩⟩⟩
theorem lw_p32 : lw_okq (⟨"KinGoodsModel", "load", "([I)V"⟩, 30) := ⟨⟨by decide +kernel, by decide +kernel⟩, List.mem_of_getElem? (i := 643) (by decide +kernel), List.mem_of_getElem? (i := 983) (by decide +kernel), List.mem_of_getElem? (i := 984) (by decide +kernel)⟩
theorem lw_p33 : lw_okq (⟨"KinGoodsModel", "areAsNow", "()Z"⟩, 30) := ⟨⟨by decide +kernel, by decide +kernel⟩, List.mem_of_getElem? (i := 643) (by decide +kernel), List.mem_of_getElem? (i := 991) (by decide +kernel), List.mem_of_getElem? (i := 992) (by decide +kernel)⟩
theorem lw_p34 : lw_okq (⟨"KinGoodsModel", "nextDraw", "(I)I"⟩, 30) := ⟨⟨by decide +kernel, by decide +kernel⟩, List.mem_of_getElem? (i := 643) (by decide +kernel), List.mem_of_getElem? (i := 1000) (by decide +kernel), List.mem_of_getElem? (i := 1001) (by decide +kernel)⟩
theorem lw_p35 : lw_okq (⟨"KinGoodsModel", "lacksRow", "(IIII)I"⟩, 30) := ⟨⟨by decide +kernel, by decide +kernel⟩, List.mem_of_getElem? (i := 643) (by decide +kernel), List.mem_of_getElem? (i := 1031) (by decide +kernel), List.mem_of_getElem? (i := 1032) (by decide +kernel)⟩
theorem lw_p36 : lw_okq (⟨"KinGoodsModel", "dieAll", "(II)I"⟩, 30) := ⟨⟨by decide +kernel, by decide +kernel⟩, List.mem_of_getElem? (i := 643) (by decide +kernel), List.mem_of_getElem? (i := 1039) (by decide +kernel), List.mem_of_getElem? (i := 1040) (by decide +kernel)⟩
theorem lw_p37 : lw_okq (⟨"KinGoodsModel", "findWed", "(IIII)I"⟩, 30) := ⟨⟨by decide +kernel, by decide +kernel⟩, List.mem_of_getElem? (i := 643) (by decide +kernel), List.mem_of_getElem? (i := 1048) (by decide +kernel), List.mem_of_getElem? (i := 1049) (by decide +kernel)⟩
theorem lw_p38 : lw_okq (⟨"KinGoodsModel", "brings", "(IIIII)Z"⟩, 30) := ⟨⟨by decide +kernel, by decide +kernel⟩, List.mem_of_getElem? (i := 643) (by decide +kernel), List.mem_of_getElem? (i := 1052) (by decide +kernel), List.mem_of_getElem? (i := 1053) (by decide +kernel)⟩
theorem lw_p39 : lw_okq (⟨"KinGoodsModel", "canPair", "(I)Z"⟩, 30) := ⟨⟨by decide +kernel, by decide +kernel⟩, List.mem_of_getElem? (i := 643) (by decide +kernel), List.mem_of_getElem? (i := 1056) (by decide +kernel), List.mem_of_getElem? (i := 1057) (by decide +kernel)⟩
def lw_privs_3 : List (MethodName × Nat) := [(⟨"KinGoodsModel", "load", "([I)V"⟩, 30), (⟨"KinGoodsModel", "areAsNow", "()Z"⟩, 30), (⟨"KinGoodsModel", "nextDraw", "(I)I"⟩, 30), (⟨"KinGoodsModel", "lacksRow", "(IIII)I"⟩, 30), (⟨"KinGoodsModel", "dieAll", "(II)I"⟩, 30), (⟨"KinGoodsModel", "findWed", "(IIII)I"⟩, 30), (⟨"KinGoodsModel", "brings", "(IIIII)Z"⟩, 30), (⟨"KinGoodsModel", "canPair", "(I)Z"⟩, 30)]
theorem lw_r3 : ∀ q ∈ lw_privs_3, lw_okq q := List.forall_mem_cons.mpr ⟨lw_p32, List.forall_mem_cons.mpr ⟨lw_p33, List.forall_mem_cons.mpr ⟨lw_p34, List.forall_mem_cons.mpr ⟨lw_p35, List.forall_mem_cons.mpr ⟨lw_p36, List.forall_mem_cons.mpr ⟨lw_p37, List.forall_mem_cons.mpr ⟨lw_p38, List.forall_mem_cons.mpr ⟨lw_p39, fun _ h => absurd h List.not_mem_nil⟩⟩⟩⟩⟩⟩⟩⟩
def lw_privs : List (MethodName × Nat) := lw_privs_1 ++ (lw_privs_2 ++ (lw_privs_3))
def lw_tbl : List Cond := k2_sels lw_privs ++ tables_1
theorem lw_privs_ok : ∀ q ∈ lw_privs, lw_okq q := by
  show ∀ q ∈ lw_privs_1 ++ (lw_privs_2 ++ (lw_privs_3)), lw_okq q
  exact List.forall_mem_append.mpr ⟨lw_r1, List.forall_mem_append.mpr ⟨lw_r2, lw_r3⟩⟩
def RX0 : String := "KinGoods$Estate"
def TX0 : u_T := fun k => match k with
  | 0 => ("KinGoods$Estate", "people", "I", false)
  | 1 => ("KinGoods$Estate", "living", "I", false)
  | 2 => ("KinGoods$Estate", "sex", "[I", true)
  | 3 => ("KinGoods$Estate", "father", "[I", true)
  | 4 => ("KinGoods$Estate", "mother", "[I", true)
  | 5 => ("KinGoods$Estate", "spouse", "[I", true)
  | 6 => ("KinGoods$Estate", "godchild", "[I", true)
  | 7 => ("KinGoods$Estate", "things", "I", false)
  | 8 => ("KinGoods$Estate", "kind", "[I", true)
  | 9 => ("KinGoods$Estate", "worth", "[I", true)
  | 10 => ("KinGoods$Estate", "holder", "[I", true)
  | 11 => ("KinGoods$Estate", "other", "[I", true)
  | 12 => ("KinGoods$Estate", "ruleRow", "[I", true)
  | 13 => ("KinGoods$Estate", "ruleLength", "[I", true)
  | _ => ("KinGoods$Estate", "draw", "I", false)
def tyX0 : Nat → FieldType := fun k => match k with
  | 0 => .int
  | 1 => .int
  | 2 => .array .int
  | 3 => .array .int
  | 4 => .array .int
  | 5 => .array .int
  | 6 => .array .int
  | 7 => .int
  | 8 => .array .int
  | 9 => .array .int
  | 10 => .array .int
  | 11 => .array .int
  | 12 => .array .int
  | 13 => .array .int
  | _ => .int
abbrev wsX00 : List Cond := u_ws RX0 TX0 15
theorem nmX0 : ∀ a, a < 15 → ∀ b, b < 15 → a ≠ b → (TX0 a).2.1 ≠ (TX0 b).2.1 := by decide +kernel
theorem tyX0_ok : ∀ k, k < 15 → parseFieldDescriptor (TX0 k).2.2.1 = some (tyX0 k) := by decide +kernel
abbrev cX0_init : ByteArray := prog_2_method_1_code
def yX0_init : MethodName := ⟨RX0, "<init>", "()V"⟩
abbrev cX0_takeFrom : ByteArray := prog_2_method_2_code
def yX0_takeFrom : MethodName := ⟨RX0, "takeFrom", "(LKinGoods$Estate;)V"⟩
abbrev cX0_clear : ByteArray := prog_2_method_3_code
def yX0_clear : MethodName := ⟨RX0, "clear", "()V"⟩
abbrev cX0_known : ByteArray := prog_2_method_4_code
def yX0_known : MethodName := ⟨RX0, "known", "(I)Z"⟩
abbrev cX0_lives : ByteArray := prog_2_method_5_code
def yX0_lives : MethodName := ⟨RX0, "lives", "(I)Z"⟩
abbrev cX0_isOf : ByteArray := prog_2_method_6_code
def yX0_isOf : MethodName := ⟨RX0, "isOf", "(II)Z"⟩
abbrev cX0_isThing : ByteArray := prog_2_method_7_code
def yX0_isThing : MethodName := ⟨RX0, "isThing", "(I)Z"⟩
abbrev cX0_allLive : ByteArray := prog_2_method_8_code
def yX0_allLive : MethodName := ⟨RX0, "allLive", "(I)Z"⟩
abbrev cX0_addPerson : ByteArray := prog_2_method_9_code
def yX0_addPerson : MethodName := ⟨RX0, "addPerson", "(III)I"⟩
abbrev cX0_addThing : ByteArray := prog_2_method_10_code
def yX0_addThing : MethodName := ⟨RX0, "addThing", "(IIII)I"⟩
abbrev cX0_setRule : ByteArray := prog_2_method_11_code
def yX0_setRule : MethodName := ⟨RX0, "setRule", "(III)V"⟩
abbrev cX0_canMarry : ByteArray := prog_2_method_12_code
def yX0_canMarry : MethodName := ⟨RX0, "canMarry", "(II)Z"⟩
abbrev cX0_join : ByteArray := prog_2_method_13_code
def yX0_join : MethodName := ⟨RX0, "join", "(II)Z"⟩
abbrev cX0_houseOf : ByteArray := prog_2_method_14_code
def yX0_houseOf : MethodName := ⟨RX0, "houseOf", "(I)I"⟩
abbrev cX0_isIn : ByteArray := prog_2_method_15_code
def yX0_isIn : MethodName := ⟨RX0, "isIn", "(II)Z"⟩
abbrev cX0_childrenOf : ByteArray := prog_2_method_16_code
def yX0_childrenOf : MethodName := ⟨RX0, "childrenOf", "(I)I"⟩
abbrev cX0_siblingsOf : ByteArray := prog_2_method_17_code
def yX0_siblingsOf : MethodName := ⟨RX0, "siblingsOf", "(I)I"⟩
abbrev cX0_ofSex : ByteArray := prog_2_method_18_code
def yX0_ofSex : MethodName := ⟨RX0, "ofSex", "(II)I"⟩
abbrev cX0_related : ByteArray := prog_2_method_19_code
def yX0_related : MethodName := ⟨RX0, "related", "(II)I"⟩
abbrev cX0_heirBy : ByteArray := prog_2_method_20_code
def yX0_heirBy : MethodName := ⟨RX0, "heirBy", "(II)I"⟩
abbrev cX0_member : ByteArray := prog_2_method_21_code
def yX0_member : MethodName := ⟨RX0, "member", "(II)I"⟩
abbrev cX0_heldBy : ByteArray := prog_2_method_22_code
def yX0_heldBy : MethodName := ⟨RX0, "heldBy", "(I)I"⟩
abbrev cX0_worthOfLands : ByteArray := prog_2_method_23_code
def yX0_worthOfLands : MethodName := ⟨RX0, "worthOfLands", "()I"⟩
abbrev cX0_owedTo : ByteArray := prog_2_method_24_code
def yX0_owedTo : MethodName := ⟨RX0, "owedTo", "(I)I"⟩
abbrev cX0_pass : ByteArray := prog_2_method_25_code
def yX0_pass : MethodName := ⟨RX0, "pass", "(II)V"⟩
abbrev cX0_bury : ByteArray := prog_2_method_26_code
def yX0_bury : MethodName := ⟨RX0, "bury", "(I)V"⟩
abbrev cX0_death : ByteArray := prog_2_method_27_code
def yX0_death : MethodName := ⟨RX0, "death", "(I)V"⟩
abbrev cX0_deaths : ByteArray := prog_2_method_28_code
def yX0_deaths : MethodName := ⟨RX0, "deaths", "([II)V"⟩
abbrev cX0_hasThingsOf : ByteArray := prog_2_method_29_code
def yX0_hasThingsOf : MethodName := ⟨RX0, "hasThingsOf", "(LKinGoods$Estate;)Z"⟩
abbrev cX0_drawn : ByteArray := prog_2_method_30_code
def yX0_drawn : MethodName := ⟨RX0, "drawn", "(I)I"⟩
abbrev cX0_wives : ByteArray := prog_2_method_31_code
def yX0_wives : MethodName := ⟨RX0, "wives", "()I"⟩
abbrev cX0_lot : ByteArray := prog_2_method_32_code
def yX0_lot : MethodName := ⟨RX0, "lot", "()I"⟩
def RX1 : String := "KinGoods$Orders"
def TX1 : u_T := fun k => match k with
  | 0 => ("KinGoods$Orders", "members", "[I", true)
  | 1 => ("KinGoods$Orders", "left", "[I", true)
  | 2 => ("KinGoods$Orders", "row", "[I", true)
  | 3 => ("KinGoods$Orders", "n", "I", false)
  | _ => ("KinGoods$Orders", "total", "I", false)
def tyX1 : Nat → FieldType := fun k => match k with
  | 0 => .array .int
  | 1 => .array .int
  | 2 => .array .int
  | 3 => .int
  | _ => .int
abbrev wsX10 : List Cond := u_ws RX1 TX1 5
theorem nmX1 : ∀ a, a < 5 → ∀ b, b < 5 → a ≠ b → (TX1 a).2.1 ≠ (TX1 b).2.1 := by decide +kernel
theorem tyX1_ok : ∀ k, k < 5 → parseFieldDescriptor (TX1 k).2.2.1 = some (tyX1 k) := by decide +kernel
abbrev cX1_init : ByteArray := prog_3_method_1_code
def yX1_init : MethodName := ⟨RX1, "<init>", "()V"⟩
abbrev cX1_takes : ByteArray := prog_3_method_2_code
def yX1_takes : MethodName := ⟨RX1, "takes", "(I)Z"⟩
abbrev cX1_gather : ByteArray := prog_3_method_3_code
def yX1_gather : MethodName := ⟨RX1, "gather", "(I)V"⟩
abbrev cX1_lay : ByteArray := prog_3_method_4_code
def yX1_lay : MethodName := ⟨RX1, "lay", "(I)V"⟩
def RX2 : String := "KinGoods$Sheets"
def TX2 : u_T := fun k => match k with
  | 0 => ("KinGoods$Sheets", "lanes", "[I", true)
  | 1 => ("KinGoods$Sheets", "sizes", "[I", true)
  | _ => ("KinGoods$Sheets", "items", "[I", true)
def tyX2 : Nat → FieldType := fun k => match k with
  | 0 => .array .int
  | 1 => .array .int
  | _ => .array .int
abbrev wsX20 : List Cond := u_ws RX2 TX2 3
theorem nmX2 : ∀ a, a < 3 → ∀ b, b < 3 → a ≠ b → (TX2 a).2.1 ≠ (TX2 b).2.1 := by decide +kernel
theorem tyX2_ok : ∀ k, k < 3 → parseFieldDescriptor (TX2 k).2.2.1 = some (tyX2 k) := by decide +kernel
abbrev cX2_init : ByteArray := prog_4_method_1_code
def yX2_init : MethodName := ⟨RX2, "<init>", "()V"⟩
abbrev cX2_isSheet : ByteArray := prog_4_method_2_code
def yX2_isSheet : MethodName := ⟨RX2, "isSheet", "(I)Z"⟩
abbrev cX2_isLane : ByteArray := prog_4_method_3_code
def yX2_isLane : MethodName := ⟨RX2, "isLane", "(I)Z"⟩
abbrev cX2_holds : ByteArray := prog_4_method_4_code
def yX2_holds : MethodName := ⟨RX2, "holds", "(I)Z"⟩
abbrev cX2_spans : ByteArray := prog_4_method_5_code
def yX2_spans : MethodName := ⟨RX2, "spans", "(III)Z"⟩
abbrev cX2_look : ByteArray := prog_4_method_6_code
def yX2_look : MethodName := ⟨RX2, "look", "(IIII)I"⟩
abbrev cX2_renew : ByteArray := prog_4_method_7_code
def yX2_renew : MethodName := ⟨RX2, "renew", "(III)V"⟩
abbrev cX2_get : ByteArray := prog_4_method_8_code
def yX2_get : MethodName := ⟨RX2, "get", "(II)I"⟩
abbrev cX2_put : ByteArray := prog_4_method_9_code
def yX2_put : MethodName := ⟨RX2, "put", "(III)V"⟩
abbrev cX2_move : ByteArray := prog_4_method_10_code
def yX2_move : MethodName := ⟨RX2, "move", "(IIIII)V"⟩
def RX3 : String := "KinGoods$Suit"
def TX3 : u_T := fun k => match k with
  | 0 => ("KinGoods$Suit", "then", "LKinGoods$Estate;", true)
  | 1 => ("KinGoods$Suit", "dead", "[I", true)
  | 2 => ("KinGoods$Suit", "n", "I", false)
  | _ => ("KinGoods$Suit", "wedded", "[I", true)
def tyX3 : Nat → FieldType := fun k => match k with
  | 0 => .object "KinGoods$Estate"
  | 1 => .array .int
  | 2 => .int
  | _ => .array .int
abbrev wsX30 : List Cond := u_ws RX3 TX3 4
theorem nmX3 : ∀ a, a < 4 → ∀ b, b < 4 → a ≠ b → (TX3 a).2.1 ≠ (TX3 b).2.1 := by decide +kernel
theorem tyX3_ok : ∀ k, k < 4 → parseFieldDescriptor (TX3 k).2.2.1 = some (tyX3 k) := by decide +kernel
abbrev cX3_init : ByteArray := prog_5_method_1_code
def yX3_init : MethodName := ⟨RX3, "<init>", "()V"⟩
abbrev cX3_tell : ByteArray := prog_5_method_2_code
def yX3_tell : MethodName := ⟨RX3, "tell", "(LKinGoods$Sheets;III)V"⟩
abbrev cX3_firstWhoCannotDie : ByteArray := prog_5_method_3_code
def yX3_firstWhoCannotDie : MethodName := ⟨RX3, "firstWhoCannotDie", "(I)I"⟩
abbrev cX3_fewest : ByteArray := prog_5_method_4_code
def yX3_fewest : MethodName := ⟨RX3, "fewest", "(LKinGoods$Estate;II)I"⟩
abbrev cX3_isPair : ByteArray := prog_5_method_5_code
def yX3_isPair : MethodName := ⟨RX3, "isPair", "(LKinGoods$Estate;I)Z"⟩
abbrev cX3_brings : ByteArray := prog_5_method_6_code
def yX3_brings : MethodName := ⟨RX3, "brings", "(LKinGoods$Estate;IIII)Z"⟩
abbrev cX3_weds : ByteArray := prog_5_method_7_code
def yX3_weds : MethodName := ⟨RX3, "weds", "(II)Z"⟩
def RX4 : String := "KinGoods$Tape"
def TX4 : u_T := fun k => match k with
  | 0 => ("KinGoods$Tape", "bytes", "[I", true)
  | 1 => ("KinGoods$Tape", "length", "I", false)
  | _ => ("KinGoods$Tape", "place", "I", false)
def tyX4 : Nat → FieldType := fun k => match k with
  | 0 => .array .int
  | 1 => .int
  | _ => .int
abbrev wsX40 : List Cond := u_ws RX4 TX4 3
theorem nmX4 : ∀ a, a < 3 → ∀ b, b < 3 → a ≠ b → (TX4 a).2.1 ≠ (TX4 b).2.1 := by decide +kernel
theorem tyX4_ok : ∀ k, k < 3 → parseFieldDescriptor (TX4 k).2.2.1 = some (tyX4 k) := by decide +kernel
abbrev cX4_init : ByteArray := prog_6_method_1_code
def yX4_init : MethodName := ⟨RX4, "<init>", "()V"⟩
abbrev cX4_put : ByteArray := prog_6_method_2_code
def yX4_put : MethodName := ⟨RX4, "put", "(JI)I"⟩
abbrev cX4_byteOf : ByteArray := prog_6_method_3_code
def yX4_byteOf : MethodName := ⟨RX4, "byteOf", "(JI)I"⟩
abbrev cX4_open : ByteArray := prog_6_method_4_code
def yX4_open : MethodName := ⟨RX4, "open", "()V"⟩
abbrev cX4_passBlanks : ByteArray := prog_6_method_5_code
def yX4_passBlanks : MethodName := ⟨RX4, "passBlanks", "()V"⟩
abbrev cX4_step : ByteArray := prog_6_method_6_code
def yX4_step : MethodName := ⟨RX4, "step", "()V"⟩
abbrev cX4_empty : ByteArray := prog_6_method_7_code
def yX4_empty : MethodName := ⟨RX4, "empty", "()V"⟩
abbrev cX4_next : ByteArray := prog_6_method_8_code
def yX4_next : MethodName := ⟨RX4, "next", "()I"⟩
abbrev cX4_skip : ByteArray := prog_6_method_9_code
def yX4_skip : MethodName := ⟨RX4, "skip", "(I)Z"⟩
abbrev cX4_fault : ByteArray := prog_6_method_10_code
def yX4_fault : MethodName := ⟨RX4, "fault", "()I"⟩
abbrev cX4_readPeople : ByteArray := prog_6_method_11_code
def yX4_readPeople : MethodName := ⟨RX4, "readPeople", "(LKinGoods$Estate;)I"⟩
abbrev cX4_readPerson : ByteArray := prog_6_method_12_code
def yX4_readPerson : MethodName := ⟨RX4, "readPerson", "(LKinGoods$Estate;)Z"⟩
abbrev cX4_readFather : ByteArray := prog_6_method_13_code
def yX4_readFather : MethodName := ⟨RX4, "readFather", "(LKinGoods$Estate;I)Z"⟩
abbrev cX4_readMother : ByteArray := prog_6_method_14_code
def yX4_readMother : MethodName := ⟨RX4, "readMother", "(LKinGoods$Estate;I)Z"⟩
abbrev cX4_readSpouse : ByteArray := prog_6_method_15_code
def yX4_readSpouse : MethodName := ⟨RX4, "readSpouse", "(LKinGoods$Estate;I)Z"⟩
abbrev cX4_readRules : ByteArray := prog_6_method_16_code
def yX4_readRules : MethodName := ⟨RX4, "readRules", "(LKinGoods$Estate;)I"⟩
abbrev cX4_kindOf : ByteArray := prog_6_method_17_code
def yX4_kindOf : MethodName := ⟨RX4, "kindOf", "(I)I"⟩
abbrev cX4_readRow : ByteArray := prog_6_method_18_code
def yX4_readRow : MethodName := ⟨RX4, "readRow", "(LKinGoods$Estate;I)Z"⟩
def RX5 : String := "KinGoods"
def TX5 : u_T := fun k => match k with
  | 0 => ("KinGoods", "now", "LKinGoods$Estate;", true)
  | 1 => ("KinGoods", "kept", "LKinGoods$Estate;", true)
  | 2 => ("KinGoods", "trial", "LKinGoods$Estate;", true)
  | 3 => ("KinGoods", "tape", "LKinGoods$Tape;", true)
  | 4 => ("KinGoods", "sheets", "LKinGoods$Sheets;", true)
  | 5 => ("KinGoods", "rows", "LKinGoods$Orders;", true)
  | 6 => ("KinGoods", "suit", "LKinGoods$Suit;", true)
  | _ => ("KinGoods", "imaged", "Z", false)
def tyX5 : Nat → FieldType := fun k => match k with
  | 0 => .object "KinGoods$Estate"
  | 1 => .object "KinGoods$Estate"
  | 2 => .object "KinGoods$Estate"
  | 3 => .object "KinGoods$Tape"
  | 4 => .object "KinGoods$Sheets"
  | 5 => .object "KinGoods$Orders"
  | 6 => .object "KinGoods$Suit"
  | _ => .boolean
abbrev wsX50 : List Cond := u_ws RX5 TX5 8
theorem nmX5 : ∀ a, a < 8 → ∀ b, b < 8 → a ≠ b → (TX5 a).2.1 ≠ (TX5 b).2.1 := by decide +kernel
theorem tyX5_ok : ∀ k, k < 8 → parseFieldDescriptor (TX5 k).2.2.1 = some (tyX5 k) := by decide +kernel
abbrev cX5_init : ByteArray := prog_1_method_1_code
def yX5_init : MethodName := ⟨RX5, "<init>", "()V"⟩
abbrev cX5_person : ByteArray := prog_1_method_2_code
def yX5_person : MethodName := ⟨RX5, "person", "(III)I"⟩
abbrev cX5_marry : ByteArray := prog_1_method_3_code
def yX5_marry : MethodName := ⟨RX5, "marry", "(II)I"⟩
abbrev cX5_adopt : ByteArray := prog_1_method_4_code
def yX5_adopt : MethodName := ⟨RX5, "adopt", "(II)I"⟩
abbrev cX5_god : ByteArray := prog_1_method_5_code
def yX5_god : MethodName := ⟨RX5, "god", "(II)I"⟩
abbrev cX5_told : ByteArray := prog_1_method_6_code
def yX5_told : MethodName := ⟨RX5, "told", "(II)I"⟩
abbrev cX5_kin : ByteArray := prog_1_method_7_code
def yX5_kin : MethodName := ⟨RX5, "kin", "(II)I"⟩
abbrev cX5_thing : ByteArray := prog_1_method_8_code
def yX5_thing : MethodName := ⟨RX5, "thing", "(IIII)I"⟩
abbrev cX5_of : ByteArray := prog_1_method_9_code
def yX5_of : MethodName := ⟨RX5, "of", "(II)I"⟩
abbrev cX5_rule : ByteArray := prog_1_method_10_code
def yX5_rule : MethodName := ⟨RX5, "rule", "(III)I"⟩
abbrev cX5_heir : ByteArray := prog_1_method_11_code
def yX5_heir : MethodName := ⟨RX5, "heir", "(II)I"⟩
abbrev cX5_type : ByteArray := prog_1_method_12_code
def yX5_type : MethodName := ⟨RX5, "type", "(JI)I"⟩
abbrev cX5_family : ByteArray := prog_1_method_13_code
def yX5_family : MethodName := ⟨RX5, "family", "()I"⟩
abbrev cX5_rules : ByteArray := prog_1_method_14_code
def yX5_rules : MethodName := ⟨RX5, "rules", "()I"⟩
abbrev cX5_count : ByteArray := prog_1_method_15_code
def yX5_count : MethodName := ⟨RX5, "count", "(I)I"⟩
abbrev cX5_dies : ByteArray := prog_1_method_16_code
def yX5_dies : MethodName := ⟨RX5, "dies", "(I)I"⟩
abbrev cX5_gathers : ByteArray := prog_1_method_17_code
def yX5_gathers : MethodName := ⟨RX5, "gathers", "(II)I"⟩
abbrev cX5_balance : ByteArray := prog_1_method_18_code
def yX5_balance : MethodName := ⟨RX5, "balance", "(I)I"⟩
abbrev cX5_paid : ByteArray := prog_1_method_19_code
def yX5_paid : MethodName := ⟨RX5, "paid", "()I"⟩
abbrev cX5_orders : ByteArray := prog_1_method_20_code
def yX5_orders : MethodName := ⟨RX5, "orders", "(III)I"⟩
abbrev cX5_explained : ByteArray := prog_1_method_21_code
def yX5_explained : MethodName := ⟨RX5, "explained", "(I)I"⟩
abbrev cX5_lots : ByteArray := prog_1_method_22_code
def yX5_lots : MethodName := ⟨RX5, "lots", "(I)I"⟩
abbrev cX5_seed : ByteArray := prog_1_method_23_code
def yX5_seed : MethodName := ⟨RX5, "seed", "(I)I"⟩
abbrev cX5_image : ByteArray := prog_1_method_24_code
def yX5_image : MethodName := ⟨RX5, "image", "()I"⟩
abbrev cX5_restore : ByteArray := prog_1_method_25_code
def yX5_restore : MethodName := ⟨RX5, "restore", "()I"⟩
abbrev cX5_judged : ByteArray := prog_1_method_26_code
def yX5_judged : MethodName := ⟨RX5, "judged", "(IIII)I"⟩
abbrev cX5_wed : ByteArray := prog_1_method_27_code
def yX5_wed : MethodName := ⟨RX5, "wed", "(IIIIIII)I"⟩
abbrev cX5_film : ByteArray := prog_1_method_28_code
def yX5_film : MethodName := ⟨RX5, "film", "(III)I"⟩
abbrev cX5_sheet : ByteArray := prog_1_method_29_code
def yX5_sheet : MethodName := ⟨RX5, "sheet", "(III)I"⟩
abbrev cX5_drop : ByteArray := prog_1_method_30_code
def yX5_drop : MethodName := ⟨RX5, "drop", "(I)I"⟩
abbrev cX5_item : ByteArray := prog_1_method_31_code
def yX5_item : MethodName := ⟨RX5, "item", "(IIII)I"⟩
abbrev cX5_copy : ByteArray := prog_1_method_32_code
def yX5_copy : MethodName := ⟨RX5, "copy", "(IIIII)I"⟩
abbrev cX5_has : ByteArray := prog_1_method_33_code
def yX5_has : MethodName := ⟨RX5, "has", "(II)Z"⟩
abbrev cX5_isKind : ByteArray := prog_1_method_34_code
def yX5_isKind : MethodName := ⟨RX5, "isKind", "(I)Z"⟩
abbrev cX5_hasOtherSide : ByteArray := prog_1_method_35_code
def yX5_hasOtherSide : MethodName := ⟨RX5, "hasOtherSide", "(I)Z"⟩
abbrev cX5_isRow : ByteArray := prog_1_method_36_code
def yX5_isRow : MethodName := ⟨RX5, "isRow", "(II)Z"⟩
def RX6 : String := "KinGoodsModel"
def TX6 : u_T := fun k => match k with
  | 0 => ("KinGoodsModel", "sexes", "[I", true)
  | 1 => ("KinGoodsModel", "fathers", "[I", true)
  | 2 => ("KinGoodsModel", "mothers", "[I", true)
  | 3 => ("KinGoodsModel", "spouses", "[I", true)
  | 4 => ("KinGoodsModel", "gods", "[I", true)
  | 5 => ("KinGoodsModel", "lives", "[I", true)
  | 6 => ("KinGoodsModel", "people", "I", false)
  | 7 => ("KinGoodsModel", "kinds", "[I", true)
  | 8 => ("KinGoodsModel", "worths", "[I", true)
  | 9 => ("KinGoodsModel", "holders", "[I", true)
  | 10 => ("KinGoodsModel", "others", "[I", true)
  | 11 => ("KinGoodsModel", "things", "I", false)
  | 12 => ("KinGoodsModel", "ruleRows", "[I", true)
  | 13 => ("KinGoodsModel", "ruleSizes", "[I", true)
  | 14 => ("KinGoodsModel", "drawn", "I", false)
  | 15 => ("KinGoodsModel", "tape", "[I", true)
  | 16 => ("KinGoodsModel", "taped", "I", false)
  | 17 => ("KinGoodsModel", "place", "I", false)
  | 18 => ("KinGoodsModel", "reads", "I", false)
  | 19 => ("KinGoodsModel", "read", "[I", true)
  | 20 => ("KinGoodsModel", "aside", "[I", true)
  | 21 => ("KinGoodsModel", "order", "[I", true)
  | 22 => ("KinGoodsModel", "isKept", "Z", false)
  | 23 => ("KinGoodsModel", "kept", "[I", true)
  | 24 => ("KinGoodsModel", "present", "[I", true)
  | 25 => ("KinGoodsModel", "lanes", "[I", true)
  | 26 => ("KinGoodsModel", "rowSizes", "[I", true)
  | 27 => ("KinGoodsModel", "items", "[I", true)
  | 28 => ("KinGoodsModel", "pairs", "[I", true)
  | _ => ("KinGoodsModel", "moved", "[I", true)
def tyX6 : Nat → FieldType := fun k => match k with
  | 0 => .array .int
  | 1 => .array .int
  | 2 => .array .int
  | 3 => .array .int
  | 4 => .array .int
  | 5 => .array .int
  | 6 => .int
  | 7 => .array .int
  | 8 => .array .int
  | 9 => .array .int
  | 10 => .array .int
  | 11 => .int
  | 12 => .array .int
  | 13 => .array .int
  | 14 => .int
  | 15 => .array .int
  | 16 => .int
  | 17 => .int
  | 18 => .int
  | 19 => .array .int
  | 20 => .array .int
  | 21 => .array .int
  | 22 => .boolean
  | 23 => .array .int
  | 24 => .array .int
  | 25 => .array .int
  | 26 => .array .int
  | 27 => .array .int
  | 28 => .array .int
  | _ => .array .int
abbrev wsX60 : List Cond := u_ws RX6 TX6 30
theorem nmX6 : ∀ a, a < 30 → ∀ b, b < 30 → a ≠ b → (TX6 a).2.1 ≠ (TX6 b).2.1 := by decide +kernel
theorem tyX6_ok : ∀ k, k < 30 → parseFieldDescriptor (TX6 k).2.2.1 = some (tyX6 k) := by decide +kernel
abbrev cX6_init : ByteArray := prog_8_method_1_code
def yX6_init : MethodName := ⟨RX6, "<init>", "()V"⟩
abbrev cX6_in : ByteArray := prog_8_method_2_code
def yX6_in : MethodName := ⟨RX6, "in", "(JJJ)Z"⟩
abbrev cX6_has : ByteArray := prog_8_method_3_code
def yX6_has : MethodName := ⟨RX6, "has", "(II)Z"⟩
abbrev cX6_ones : ByteArray := prog_8_method_4_code
def yX6_ones : MethodName := ⟨RX6, "ones", "(I)I"⟩
abbrev cX6_isOne : ByteArray := prog_8_method_5_code
def yX6_isOne : MethodName := ⟨RX6, "isOne", "(I)Z"⟩
abbrev cX6_isThing : ByteArray := prog_8_method_6_code
def yX6_isThing : MethodName := ⟨RX6, "isThing", "(I)Z"⟩
abbrev cX6_livesOne : ByteArray := prog_8_method_7_code
def yX6_livesOne : MethodName := ⟨RX6, "livesOne", "(I)Z"⟩
abbrev cX6_add : ByteArray := prog_8_method_8_code
def yX6_add : MethodName := ⟨RX6, "add", "(III)V"⟩
abbrev cX6_isParent : ByteArray := prog_8_method_9_code
def yX6_isParent : MethodName := ⟨RX6, "isParent", "(II)Z"⟩
abbrev cX6_person : ByteArray := prog_8_method_10_code
def yX6_person : MethodName := ⟨RX6, "person", "(III)I"⟩
abbrev cX6_areAlike : ByteArray := prog_8_method_11_code
def yX6_areAlike : MethodName := ⟨RX6, "areAlike", "(II)Z"⟩
abbrev cX6_areSiblings : ByteArray := prog_8_method_12_code
def yX6_areSiblings : MethodName := ⟨RX6, "areSiblings", "(II)Z"⟩
abbrev cX6_isChild : ByteArray := prog_8_method_13_code
def yX6_isChild : MethodName := ⟨RX6, "isChild", "(II)Z"⟩
abbrev cX6_canMarry : ByteArray := prog_8_method_14_code
def yX6_canMarry : MethodName := ⟨RX6, "canMarry", "(II)Z"⟩
abbrev cX6_marryNow : ByteArray := prog_8_method_15_code
def yX6_marryNow : MethodName := ⟨RX6, "marryNow", "(II)V"⟩
abbrev cX6_marry : ByteArray := prog_8_method_16_code
def yX6_marry : MethodName := ⟨RX6, "marry", "(II)I"⟩
abbrev cX6_adopt : ByteArray := prog_8_method_17_code
def yX6_adopt : MethodName := ⟨RX6, "adopt", "(II)I"⟩
abbrev cX6_god : ByteArray := prog_8_method_18_code
def yX6_god : MethodName := ⟨RX6, "god", "(II)I"⟩
abbrev cX6_houseOf : ByteArray := prog_8_method_19_code
def yX6_houseOf : MethodName := ⟨RX6, "houseOf", "(I)I"⟩
abbrev cX6_told : ByteArray := prog_8_method_20_code
def yX6_told : MethodName := ⟨RX6, "told", "(II)I"⟩
abbrev cX6_isParentsSibling : ByteArray := prog_8_method_21_code
def yX6_isParentsSibling : MethodName := ⟨RX6, "isParentsSibling", "(II)Z"⟩
abbrev cX6_areCousins : ByteArray := prog_8_method_22_code
def yX6_areCousins : MethodName := ⟨RX6, "areCousins", "(II)Z"⟩
abbrev cX6_isRelation : ByteArray := prog_8_method_23_code
def yX6_isRelation : MethodName := ⟨RX6, "isRelation", "(III)Z"⟩
abbrev cX6_kinOf : ByteArray := prog_8_method_24_code
def yX6_kinOf : MethodName := ⟨RX6, "kinOf", "(II)I"⟩
abbrev cX6_kin : ByteArray := prog_8_method_25_code
def yX6_kin : MethodName := ⟨RX6, "kin", "(II)I"⟩
abbrev cX6_hasOther : ByteArray := prog_8_method_26_code
def yX6_hasOther : MethodName := ⟨RX6, "hasOther", "(I)Z"⟩
abbrev cX6_thing : ByteArray := prog_8_method_27_code
def yX6_thing : MethodName := ⟨RX6, "thing", "(IIII)I"⟩
abbrev cX6_of : ByteArray := prog_8_method_28_code
def yX6_of : MethodName := ⟨RX6, "of", "(II)I"⟩
abbrev cX6_rule : ByteArray := prog_8_method_29_code
def yX6_rule : MethodName := ⟨RX6, "rule", "(III)I"⟩
abbrev cX6_heirOf : ByteArray := prog_8_method_30_code
def yX6_heirOf : MethodName := ⟨RX6, "heirOf", "(II)I"⟩
abbrev cX6_heir : ByteArray := prog_8_method_31_code
def yX6_heir : MethodName := ⟨RX6, "heir", "(II)I"⟩
abbrev cX6_type : ByteArray := prog_8_method_32_code
def yX6_type : MethodName := ⟨RX6, "type", "(JI)I"⟩
abbrev cX6_nextByte : ByteArray := prog_8_method_33_code
def yX6_nextByte : MethodName := ⟨RX6, "nextByte", "()I"⟩
abbrev cX6_takes : ByteArray := prog_8_method_34_code
def yX6_takes : MethodName := ⟨RX6, "takes", "(I)Z"⟩
abbrev cX6_readOne : ByteArray := prog_8_method_35_code
def yX6_readOne : MethodName := ⟨RX6, "readOne", "(II)I"⟩
abbrev cX6_readPerson : ByteArray := prog_8_method_36_code
def yX6_readPerson : MethodName := ⟨RX6, "readPerson", "(I)Z"⟩
abbrev cX6_readRule : ByteArray := prog_8_method_37_code
def yX6_readRule : MethodName := ⟨RX6, "readRule", "(I)Z"⟩
abbrev cX6_readAll : ByteArray := prog_8_method_38_code
def yX6_readAll : MethodName := ⟨RX6, "readAll", "(II)Z"⟩
abbrev cX6_end : ByteArray := prog_8_method_39_code
def yX6_end : MethodName := ⟨RX6, "end", "(Z)I"⟩
abbrev cX6_family : ByteArray := prog_8_method_40_code
def yX6_family : MethodName := ⟨RX6, "family", "()I"⟩
abbrev cX6_rules : ByteArray := prog_8_method_41_code
def yX6_rules : MethodName := ⟨RX6, "rules", "()I"⟩
abbrev cX6_count : ByteArray := prog_8_method_42_code
def yX6_count : MethodName := ⟨RX6, "count", "(I)I"⟩
abbrev cX6_end1 : ByteArray := prog_8_method_43_code
def yX6_end1 : MethodName := ⟨RX6, "end1", "(II)V"⟩
abbrev cX6_die : ByteArray := prog_8_method_44_code
def yX6_die : MethodName := ⟨RX6, "die", "(I)I"⟩
abbrev cX6_dies : ByteArray := prog_8_method_45_code
def yX6_dies : MethodName := ⟨RX6, "dies", "(I)I"⟩
abbrev cX6_gathers : ByteArray := prog_8_method_46_code
def yX6_gathers : MethodName := ⟨RX6, "gathers", "(II)I"⟩
abbrev cX6_balanceOf : ByteArray := prog_8_method_47_code
def yX6_balanceOf : MethodName := ⟨RX6, "balanceOf", "(I)I"⟩
abbrev cX6_balance : ByteArray := prog_8_method_48_code
def yX6_balance : MethodName := ⟨RX6, "balance", "(I)I"⟩
abbrev cX6_paid : ByteArray := prog_8_method_49_code
def yX6_paid : MethodName := ⟨RX6, "paid", "()I"⟩
abbrev cX6_keepAside : ByteArray := prog_8_method_50_code
def yX6_keepAside : MethodName := ⟨RX6, "keepAside", "()V"⟩
abbrev cX6_bringBack : ByteArray := prog_8_method_51_code
def yX6_bringBack : MethodName := ⟨RX6, "bringBack", "()V"⟩
abbrev cX6_nextOrder : ByteArray := prog_8_method_52_code
def yX6_nextOrder : MethodName := ⟨RX6, "nextOrder", "(I)Z"⟩
abbrev cX6_firstOrder : ByteArray := prog_8_method_53_code
def yX6_firstOrder : MethodName := ⟨RX6, "firstOrder", "(I)I"⟩
abbrev cX6_allLive : ByteArray := prog_8_method_54_code
def yX6_allLive : MethodName := ⟨RX6, "allLive", "(I)Z"⟩
abbrev cX6_isFew : ByteArray := prog_8_method_55_code
def yX6_isFew : MethodName := ⟨RX6, "isFew", "(I)Z"⟩
abbrev cX6_orders : ByteArray := prog_8_method_56_code
def yX6_orders : MethodName := ⟨RX6, "orders", "(III)I"⟩
abbrev cX6_carried : ByteArray := prog_8_method_57_code
def yX6_carried : MethodName := ⟨RX6, "carried", "(IIZ)I"⟩
abbrev cX6_store : ByteArray := prog_8_method_58_code
def yX6_store : MethodName := ⟨RX6, "store", "([I)V"⟩
abbrev cX6_load : ByteArray := prog_8_method_59_code
def yX6_load : MethodName := ⟨RX6, "load", "([I)V"⟩
abbrev cX6_image : ByteArray := prog_8_method_60_code
def yX6_image : MethodName := ⟨RX6, "image", "()I"⟩
abbrev cX6_restore : ByteArray := prog_8_method_61_code
def yX6_restore : MethodName := ⟨RX6, "restore", "()I"⟩
abbrev cX6_areAsNow : ByteArray := prog_8_method_62_code
def yX6_areAsNow : MethodName := ⟨RX6, "areAsNow", "()Z"⟩
abbrev cX6_explained : ByteArray := prog_8_method_63_code
def yX6_explained : MethodName := ⟨RX6, "explained", "(I)I"⟩
abbrev cX6_nextDraw : ByteArray := prog_8_method_64_code
def yX6_nextDraw : MethodName := ⟨RX6, "nextDraw", "(I)I"⟩
abbrev cX6_nth : ByteArray := prog_8_method_65_code
def yX6_nth : MethodName := ⟨RX6, "nth", "(II)I"⟩
abbrev cX6_lots : ByteArray := prog_8_method_66_code
def yX6_lots : MethodName := ⟨RX6, "lots", "(I)I"⟩
abbrev cX6_seed : ByteArray := prog_8_method_67_code
def yX6_seed : MethodName := ⟨RX6, "seed", "(I)I"⟩
abbrev cX6_isSheet : ByteArray := prog_8_method_68_code
def yX6_isSheet : MethodName := ⟨RX6, "isSheet", "(II)Z"⟩
abbrev cX6_sheet : ByteArray := prog_8_method_69_code
def yX6_sheet : MethodName := ⟨RX6, "sheet", "(III)I"⟩
abbrev cX6_drop : ByteArray := prog_8_method_70_code
def yX6_drop : MethodName := ⟨RX6, "drop", "(I)I"⟩
abbrev cX6_lacksRow : ByteArray := prog_8_method_71_code
def yX6_lacksRow : MethodName := ⟨RX6, "lacksRow", "(IIII)I"⟩
abbrev cX6_item : ByteArray := prog_8_method_72_code
def yX6_item : MethodName := ⟨RX6, "item", "(IIII)I"⟩
abbrev cX6_dieAll : ByteArray := prog_8_method_73_code
def yX6_dieAll : MethodName := ⟨RX6, "dieAll", "(II)I"⟩
abbrev cX6_judged : ByteArray := prog_8_method_74_code
def yX6_judged : MethodName := ⟨RX6, "judged", "(IIII)I"⟩
abbrev cX6_canPair : ByteArray := prog_8_method_75_code
def yX6_canPair : MethodName := ⟨RX6, "canPair", "(I)Z"⟩
abbrev cX6_brings : ByteArray := prog_8_method_76_code
def yX6_brings : MethodName := ⟨RX6, "brings", "(IIIII)Z"⟩
abbrev cX6_findWed : ByteArray := prog_8_method_77_code
def yX6_findWed : MethodName := ⟨RX6, "findWed", "(IIII)I"⟩
abbrev cX6_wed : ByteArray := prog_8_method_78_code
def yX6_wed : MethodName := ⟨RX6, "wed", "(IIIIIII)I"⟩
abbrev cX6_film : ByteArray := prog_8_method_79_code
def yX6_film : MethodName := ⟨RX6, "film", "(III)I"⟩
abbrev cX6_copy : ByteArray := prog_8_method_80_code
def yX6_copy : MethodName := ⟨RX6, "copy", "(IIIII)I"⟩
def RJ6 : String := "java/lang/Integer"
def TJ6 : u_T := fun k => match k with
  | _ => ("", "", "", false)
def tyJ6 : Nat → FieldType := fun k => match k with
  | _ => .int
abbrev wsJ60 : List Cond := u_ws RJ6 TJ6 0
theorem nmJ6 : ∀ a, a < 0 → ∀ b, b < 0 → a ≠ b → (TJ6 a).2.1 ≠ (TJ6 b).2.1 := by decide +kernel
theorem tyJ6_ok : ∀ k, k < 0 → parseFieldDescriptor (TJ6 k).2.2.1 = some (tyJ6 k) := by decide +kernel
abbrev cJ6_bitCount_0f7a4 : ByteArray := prog_9_method_49_code
def yJ6_bitCount_0f7a4 : MethodName := ⟨RJ6, "bitCount", "(I)I"⟩
def RJ9 : String := "java/lang/Math"
def TJ9 : u_T := fun k => match k with
  | _ => ("", "", "", false)
def tyJ9 : Nat → FieldType := fun k => match k with
  | _ => .int
abbrev wsJ90 : List Cond := u_ws RJ9 TJ9 0
theorem nmJ9 : ∀ a, a < 0 → ∀ b, b < 0 → a ≠ b → (TJ9 a).2.1 ≠ (TJ9 b).2.1 := by decide +kernel
theorem tyJ9_ok : ∀ k, k < 0 → parseFieldDescriptor (TJ9 k).2.2.1 = some (tyJ9 k) := by decide +kernel
abbrev cJ9_max_7cf53 : ByteArray := prog_10_method_65_code
def yJ9_max_7cf53 : MethodName := ⟨RJ9, "max", "(II)I"⟩
def RJ10 : String := "java/lang/System"
def TJ10 : u_T := fun k => match k with
  | _ => ("", "", "", false)
def tyJ10 : Nat → FieldType := fun k => match k with
  | _ => .int
abbrev wsJ100 : List Cond := u_ws RJ10 TJ10 0
theorem nmJ10 : ∀ a, a < 0 → ∀ b, b < 0 → a ≠ b → (TJ10 a).2.1 ≠ (TJ10 b).2.1 := by decide +kernel
theorem tyJ10_ok : ∀ k, k < 0 → parseFieldDescriptor (TJ10 k).2.2.1 = some (tyJ10 k) := by decide +kernel
def RL : String := "KinGoodsLaw"
abbrev cL_law : ByteArray := code
def yL_law : MethodName := ⟨RL, "law", "([I)Z"⟩
abbrev vwCl : List vw_C := [(RX0, TX0, 15), (RX1, TX1, 5), (RX2, TX2, 3), (RX3, TX3, 4), (RX4, TX4, 3), (RX5, TX5, 8), (RX6, TX6, 30)]
theorem in_X0 : ∀ w ∈ wsX00, w ∈ lw_tbl := by decide +kernel
theorem ig_X0 : ∀ w ∈ wsX00, goodWord w = true := by decide +kernel
theorem in_X1 : ∀ w ∈ wsX10, w ∈ lw_tbl := by decide +kernel
theorem ig_X1 : ∀ w ∈ wsX10, goodWord w = true := by decide +kernel
theorem in_X2 : ∀ w ∈ wsX20, w ∈ lw_tbl := by decide +kernel
theorem ig_X2 : ∀ w ∈ wsX20, goodWord w = true := by decide +kernel
theorem in_X3 : ∀ w ∈ wsX30, w ∈ lw_tbl := by decide +kernel
theorem ig_X3 : ∀ w ∈ wsX30, goodWord w = true := by decide +kernel
theorem in_X4 : ∀ w ∈ wsX40, w ∈ lw_tbl := by decide +kernel
theorem ig_X4 : ∀ w ∈ wsX40, goodWord w = true := by decide +kernel
theorem in_X5 : ∀ w ∈ wsX50, w ∈ lw_tbl := by decide +kernel
theorem ig_X5 : ∀ w ∈ wsX50, goodWord w = true := by decide +kernel
theorem in_X6 : ∀ w ∈ wsX60, w ∈ lw_tbl := by decide +kernel
theorem ig_X6 : ∀ w ∈ wsX60, goodWord w = true := by decide +kernel
end
section
/-- which method: its name, bytes, locals, answer, level, class -/
abbrev MI : Type := MethodName × ByteArray × Nat × Option FieldType × Nat × Nat
def i_X0_init : MI := (yX0_init, cX0_init, 2, none, 1, 0)
def i_X0_takeFrom : MI := (yX0_takeFrom, cX0_takeFrom, 2, none, 1, 0)
def i_X0_clear : MI := (yX0_clear, cX0_clear, 1, none, 0, 0)
def i_X0_known : MI := (yX0_known, cX0_known, 2, some .boolean, 0, 0)
def i_X0_lives : MI := (yX0_lives, cX0_lives, 2, some .boolean, 1, 0)
def i_X0_isOf : MI := (yX0_isOf, cX0_isOf, 3, some .boolean, 1, 0)
def i_X0_isThing : MI := (yX0_isThing, cX0_isThing, 2, some .boolean, 0, 0)
def i_X0_allLive : MI := (yX0_allLive, cX0_allLive, 2, some .boolean, 0, 0)
def i_X0_addPerson : MI := (yX0_addPerson, cX0_addPerson, 5, some .int, 0, 0)
def i_X0_addThing : MI := (yX0_addThing, cX0_addThing, 6, some .int, 0, 0)
def i_X0_setRule : MI := (yX0_setRule, cX0_setRule, 4, none, 0, 0)
def i_X0_canMarry : MI := (yX0_canMarry, cX0_canMarry, 3, some .boolean, 2, 0)
def i_X0_join : MI := (yX0_join, cX0_join, 3, some .boolean, 3, 0)
def i_X0_houseOf : MI := (yX0_houseOf, cX0_houseOf, 4, some .int, 1, 0)
def i_X0_isIn : MI := (yX0_isIn, cX0_isIn, 3, some .boolean, 2, 0)
def i_X0_childrenOf : MI := (yX0_childrenOf, cX0_childrenOf, 4, some .int, 1, 0)
def i_X0_siblingsOf : MI := (yX0_siblingsOf, cX0_siblingsOf, 6, some .int, 1, 0)
def i_X0_ofSex : MI := (yX0_ofSex, cX0_ofSex, 5, some .int, 1, 0)
def i_X0_related : MI := (yX0_related, cX0_related, 4, some .int, 2, 0)
def i_X0_heirBy : MI := (yX0_heirBy, cX0_heirBy, 5, some .int, 3, 0)
def i_X0_member : MI := (yX0_member, cX0_member, 5, some .int, 1, 0)
def i_X0_heldBy : MI := (yX0_heldBy, cX0_heldBy, 4, some .int, 0, 0)
def i_X0_worthOfLands : MI := (yX0_worthOfLands, cX0_worthOfLands, 3, some .int, 1, 0)
def i_X0_owedTo : MI := (yX0_owedTo, cX0_owedTo, 4, some .int, 0, 0)
def i_X0_pass : MI := (yX0_pass, cX0_pass, 3, none, 4, 0)
def i_X0_bury : MI := (yX0_bury, cX0_bury, 3, none, 1, 0)
def i_X0_death : MI := (yX0_death, cX0_death, 3, none, 5, 0)
def i_X0_deaths : MI := (yX0_deaths, cX0_deaths, 4, none, 6, 0)
def i_X0_hasThingsOf : MI := (yX0_hasThingsOf, cX0_hasThingsOf, 3, some .boolean, 0, 0)
def i_X0_drawn : MI := (yX0_drawn, cX0_drawn, 2, some .int, 0, 0)
def i_X0_wives : MI := (yX0_wives, cX0_wives, 3, some .int, 1, 0)
def i_X0_lot : MI := (yX0_lot, cX0_lot, 3, some .int, 6, 0)
def i_X1_init : MI := (yX1_init, cX1_init, 1, none, 1, 1)
def i_X1_takes : MI := (yX1_takes, cX1_takes, 1, some .boolean, 1, 1)
def i_X1_gather : MI := (yX1_gather, cX1_gather, 3, none, 1, 1)
def i_X1_lay : MI := (yX1_lay, cX1_lay, 7, none, 1, 1)
def i_X2_init : MI := (yX2_init, cX2_init, 2, none, 1, 2)
def i_X2_isSheet : MI := (yX2_isSheet, cX2_isSheet, 1, some .boolean, 0, 2)
def i_X2_isLane : MI := (yX2_isLane, cX2_isLane, 1, some .boolean, 0, 2)
def i_X2_holds : MI := (yX2_holds, cX2_holds, 2, some .boolean, 0, 2)
def i_X2_spans : MI := (yX2_spans, cX2_spans, 4, some .boolean, 0, 2)
def i_X2_look : MI := (yX2_look, cX2_look, 5, some .int, 1, 2)
def i_X2_renew : MI := (yX2_renew, cX2_renew, 5, none, 0, 2)
def i_X2_get : MI := (yX2_get, cX2_get, 3, some .int, 0, 2)
def i_X2_put : MI := (yX2_put, cX2_put, 5, none, 0, 2)
def i_X2_move : MI := (yX2_move, cX2_move, 6, none, 1, 2)
def i_X3_init : MI := (yX3_init, cX3_init, 1, none, 2, 3)
def i_X3_tell : MI := (yX3_tell, cX3_tell, 6, none, 1, 3)
def i_X3_firstWhoCannotDie : MI := (yX3_firstWhoCannotDie, cX3_firstWhoCannotDie, 4, some .int, 1, 3)
def i_X3_fewest : MI := (yX3_fewest, cX3_fewest, 6, some .int, 6, 3)
def i_X3_isPair : MI := (yX3_isPair, cX3_isPair, 3, some .boolean, 3, 3)
def i_X3_brings : MI := (yX3_brings, cX3_brings, 7, some .boolean, 5, 3)
def i_X3_weds : MI := (yX3_weds, cX3_weds, 3, some .boolean, 4, 3)
def i_X4_init : MI := (yX4_init, cX4_init, 1, none, 1, 4)
def i_X4_put : MI := (yX4_put, cX4_put, 5, some .int, 1, 4)
def i_X4_byteOf : MI := (yX4_byteOf, cX4_byteOf, 4, some .int, 0, 4)
def i_X4_open : MI := (yX4_open, cX4_open, 1, none, 2, 4)
def i_X4_passBlanks : MI := (yX4_passBlanks, cX4_passBlanks, 2, none, 1, 4)
def i_X4_step : MI := (yX4_step, cX4_step, 1, none, 2, 4)
def i_X4_empty : MI := (yX4_empty, cX4_empty, 1, none, 0, 4)
def i_X4_next : MI := (yX4_next, cX4_next, 1, some .int, 0, 4)
def i_X4_skip : MI := (yX4_skip, cX4_skip, 2, some .boolean, 3, 4)
def i_X4_fault : MI := (yX4_fault, cX4_fault, 1, some .int, 0, 4)
def i_X4_readPeople : MI := (yX4_readPeople, cX4_readPeople, 3, some .int, 6, 4)
def i_X4_readPerson : MI := (yX4_readPerson, cX4_readPerson, 4, some .boolean, 5, 4)
def i_X4_readFather : MI := (yX4_readFather, cX4_readFather, 4, some .boolean, 4, 4)
def i_X4_readMother : MI := (yX4_readMother, cX4_readMother, 4, some .boolean, 4, 4)
def i_X4_readSpouse : MI := (yX4_readSpouse, cX4_readSpouse, 5, some .boolean, 4, 4)
def i_X4_readRules : MI := (yX4_readRules, cX4_readRules, 5, some .int, 4, 4)
def i_X4_kindOf : MI := (yX4_kindOf, cX4_kindOf, 2, some .int, 0, 4)
def i_X4_readRow : MI := (yX4_readRow, cX4_readRow, 7, some .boolean, 3, 4)
def i_X5_init : MI := (yX5_init, cX5_init, 1, none, 3, 5)
def i_X5_person : MI := (yX5_person, cX5_person, 4, some .int, 2, 5)
def i_X5_marry : MI := (yX5_marry, cX5_marry, 3, some .int, 4, 5)
def i_X5_adopt : MI := (yX5_adopt, cX5_adopt, 4, some .int, 2, 5)
def i_X5_god : MI := (yX5_god, cX5_god, 4, some .int, 1, 5)
def i_X5_told : MI := (yX5_told, cX5_told, 3, some .int, 2, 5)
def i_X5_kin : MI := (yX5_kin, cX5_kin, 3, some .int, 3, 5)
def i_X5_thing : MI := (yX5_thing, cX5_thing, 5, some .int, 2, 5)
def i_X5_of : MI := (yX5_of, cX5_of, 3, some .int, 1, 5)
def i_X5_rule : MI := (yX5_rule, cX5_rule, 5, some .int, 2, 5)
def i_X5_heir : MI := (yX5_heir, cX5_heir, 4, some .int, 4, 5)
def i_X5_type : MI := (yX5_type, cX5_type, 4, some .int, 2, 5)
def i_X5_family : MI := (yX5_family, cX5_family, 2, some .int, 7, 5)
def i_X5_rules : MI := (yX5_rules, cX5_rules, 2, some .int, 5, 5)
def i_X5_count : MI := (yX5_count, cX5_count, 2, some .int, 2, 5)
def i_X5_dies : MI := (yX5_dies, cX5_dies, 3, some .int, 6, 5)
def i_X5_gathers : MI := (yX5_gathers, cX5_gathers, 5, some .int, 3, 5)
def i_X5_balance : MI := (yX5_balance, cX5_balance, 2, some .int, 1, 5)
def i_X5_paid : MI := (yX5_paid, cX5_paid, 3, some .int, 1, 5)
def i_X5_orders : MI := (yX5_orders, cX5_orders, 6, some .int, 7, 5)
def i_X5_explained : MI := (yX5_explained, cX5_explained, 4, some .int, 7, 5)
def i_X5_lots : MI := (yX5_lots, cX5_lots, 4, some .int, 7, 5)
def i_X5_seed : MI := (yX5_seed, cX5_seed, 3, some .int, 0, 5)
def i_X5_image : MI := (yX5_image, cX5_image, 1, some .int, 2, 5)
def i_X5_restore : MI := (yX5_restore, cX5_restore, 1, some .int, 2, 5)
def i_X5_judged : MI := (yX5_judged, cX5_judged, 7, some .int, 2, 5)
def i_X5_wed : MI := (yX5_wed, cX5_wed, 10, some .int, 7, 5)
def i_X5_film : MI := (yX5_film, cX5_film, 6, some .int, 2, 5)
def i_X5_sheet : MI := (yX5_sheet, cX5_sheet, 4, some .int, 1, 5)
def i_X5_drop : MI := (yX5_drop, cX5_drop, 2, some .int, 1, 5)
def i_X5_item : MI := (yX5_item, cX5_item, 6, some .int, 2, 5)
def i_X5_copy : MI := (yX5_copy, cX5_copy, 6, some .int, 2, 5)
def i_X5_has : MI := (yX5_has, cX5_has, 2, some .boolean, 0, 5)
def i_X5_isKind : MI := (yX5_isKind, cX5_isKind, 1, some .boolean, 0, 5)
def i_X5_hasOtherSide : MI := (yX5_hasOtherSide, cX5_hasOtherSide, 1, some .boolean, 0, 5)
def i_X5_isRow : MI := (yX5_isRow, cX5_isRow, 5, some .boolean, 1, 5)
def i_X6_init : MI := (yX6_init, cX6_init, 2, none, 1, 6)
def i_X6_in : MI := (yX6_in, cX6_in, 6, some .boolean, 0, 6)
def i_X6_has : MI := (yX6_has, cX6_has, 2, some .boolean, 0, 6)
def i_X6_ones : MI := (yX6_ones, cX6_ones, 3, some .int, 0, 6)
def i_X6_isOne : MI := (yX6_isOne, cX6_isOne, 2, some .boolean, 1, 6)
def i_X6_isThing : MI := (yX6_isThing, cX6_isThing, 2, some .boolean, 1, 6)
def i_X6_livesOne : MI := (yX6_livesOne, cX6_livesOne, 2, some .boolean, 2, 6)
def i_X6_add : MI := (yX6_add, cX6_add, 4, none, 0, 6)
def i_X6_isParent : MI := (yX6_isParent, cX6_isParent, 3, some .boolean, 2, 6)
def i_X6_person : MI := (yX6_person, cX6_person, 4, some .int, 3, 6)
def i_X6_areAlike : MI := (yX6_areAlike, cX6_areAlike, 2, some .boolean, 0, 6)
def i_X6_areSiblings : MI := (yX6_areSiblings, cX6_areSiblings, 3, some .boolean, 1, 6)
def i_X6_isChild : MI := (yX6_isChild, cX6_isChild, 3, some .boolean, 0, 6)
def i_X6_canMarry : MI := (yX6_canMarry, cX6_canMarry, 4, some .boolean, 2, 6)
def i_X6_marryNow : MI := (yX6_marryNow, cX6_marryNow, 3, none, 0, 6)
def i_X6_marry : MI := (yX6_marry, cX6_marry, 3, some .int, 3, 6)
def i_X6_adopt : MI := (yX6_adopt, cX6_adopt, 4, some .int, 2, 6)
def i_X6_god : MI := (yX6_god, cX6_god, 4, some .int, 2, 6)
def i_X6_houseOf : MI := (yX6_houseOf, cX6_houseOf, 5, some .int, 0, 6)
def i_X6_told : MI := (yX6_told, cX6_told, 3, some .int, 2, 6)
def i_X6_isParentsSibling : MI := (yX6_isParentsSibling, cX6_isParentsSibling, 4, some .boolean, 2, 6)
def i_X6_areCousins : MI := (yX6_areCousins, cX6_areCousins, 5, some .boolean, 3, 6)
def i_X6_isRelation : MI := (yX6_isRelation, cX6_isRelation, 4, some .boolean, 4, 6)
def i_X6_kinOf : MI := (yX6_kinOf, cX6_kinOf, 5, some .int, 5, 6)
def i_X6_kin : MI := (yX6_kin, cX6_kin, 3, some .int, 6, 6)
def i_X6_hasOther : MI := (yX6_hasOther, cX6_hasOther, 1, some .boolean, 0, 6)
def i_X6_thing : MI := (yX6_thing, cX6_thing, 5, some .int, 3, 6)
def i_X6_of : MI := (yX6_of, cX6_of, 3, some .int, 2, 6)
def i_X6_rule : MI := (yX6_rule, cX6_rule, 7, some .int, 1, 6)
def i_X6_heirOf : MI := (yX6_heirOf, cX6_heirOf, 6, some .int, 6, 6)
def i_X6_heir : MI := (yX6_heir, cX6_heir, 4, some .int, 7, 6)
def i_X6_type : MI := (yX6_type, cX6_type, 5, some .int, 1, 6)
def i_X6_nextByte : MI := (yX6_nextByte, cX6_nextByte, 1, some .int, 0, 6)
def i_X6_takes : MI := (yX6_takes, cX6_takes, 3, some .boolean, 1, 6)
def i_X6_readOne : MI := (yX6_readOne, cX6_readOne, 4, some .int, 1, 6)
def i_X6_readPerson : MI := (yX6_readPerson, cX6_readPerson, 5, some .boolean, 2, 6)
def i_X6_readRule : MI := (yX6_readRule, cX6_readRule, 7, some .boolean, 2, 6)
def i_X6_readAll : MI := (yX6_readAll, cX6_readAll, 5, some .boolean, 3, 6)
def i_X6_end : MI := (yX6_end, cX6_end, 2, some .int, 1, 6)
def i_X6_family : MI := (yX6_family, cX6_family, 3, some .int, 4, 6)
def i_X6_rules : MI := (yX6_rules, cX6_rules, 5, some .int, 4, 6)
def i_X6_count : MI := (yX6_count, cX6_count, 8, some .int, 0, 6)
def i_X6_end1 : MI := (yX6_end1, cX6_end1, 3, none, 0, 6)
def i_X6_die : MI := (yX6_die, cX6_die, 5, some .int, 7, 6)
def i_X6_dies : MI := (yX6_dies, cX6_dies, 2, some .int, 8, 6)
def i_X6_gathers : MI := (yX6_gathers, cX6_gathers, 6, some .int, 1, 6)
def i_X6_balanceOf : MI := (yX6_balanceOf, cX6_balanceOf, 5, some .int, 0, 6)
def i_X6_balance : MI := (yX6_balance, cX6_balance, 2, some .int, 2, 6)
def i_X6_paid : MI := (yX6_paid, cX6_paid, 4, some .int, 1, 6)
def i_X6_keepAside : MI := (yX6_keepAside, cX6_keepAside, 2, none, 0, 6)
def i_X6_bringBack : MI := (yX6_bringBack, cX6_bringBack, 2, none, 0, 6)
def i_X6_nextOrder : MI := (yX6_nextOrder, cX6_nextOrder, 7, some .boolean, 0, 6)
def i_X6_firstOrder : MI := (yX6_firstOrder, cX6_firstOrder, 4, some .int, 1, 6)
def i_X6_allLive : MI := (yX6_allLive, cX6_allLive, 4, some .boolean, 3, 6)
def i_X6_isFew : MI := (yX6_isFew, cX6_isFew, 1, some .boolean, 1, 6)
def i_X6_orders : MI := (yX6_orders, cX6_orders, 8, some .int, 8, 6)
def i_X6_carried : MI := (yX6_carried, cX6_carried, 6, some .int, 0, 6)
def i_X6_store : MI := (yX6_store, cX6_store, 3, none, 1, 6)
def i_X6_load : MI := (yX6_load, cX6_load, 3, none, 1, 6)
def i_X6_image : MI := (yX6_image, cX6_image, 1, some .int, 2, 6)
def i_X6_restore : MI := (yX6_restore, cX6_restore, 1, some .int, 2, 6)
def i_X6_areAsNow : MI := (yX6_areAsNow, cX6_areAsNow, 3, some .boolean, 0, 6)
def i_X6_explained : MI := (yX6_explained, cX6_explained, 6, some .int, 8, 6)
def i_X6_nextDraw : MI := (yX6_nextDraw, cX6_nextDraw, 2, some .int, 0, 6)
def i_X6_nth : MI := (yX6_nth, cX6_nth, 4, some .int, 1, 6)
def i_X6_lots : MI := (yX6_lots, cX6_lots, 8, some .int, 8, 6)
def i_X6_seed : MI := (yX6_seed, cX6_seed, 3, some .int, 0, 6)
def i_X6_isSheet : MI := (yX6_isSheet, cX6_isSheet, 2, some .boolean, 1, 6)
def i_X6_sheet : MI := (yX6_sheet, cX6_sheet, 5, some .int, 2, 6)
def i_X6_drop : MI := (yX6_drop, cX6_drop, 2, some .int, 1, 6)
def i_X6_lacksRow : MI := (yX6_lacksRow, cX6_lacksRow, 5, some .int, 1, 6)
def i_X6_item : MI := (yX6_item, cX6_item, 6, some .int, 2, 6)
def i_X6_dieAll : MI := (yX6_dieAll, cX6_dieAll, 4, some .int, 8, 6)
def i_X6_judged : MI := (yX6_judged, cX6_judged, 7, some .int, 9, 6)
def i_X6_canPair : MI := (yX6_canPair, cX6_canPair, 4, some .boolean, 3, 6)
def i_X6_brings : MI := (yX6_brings, cX6_brings, 8, some .boolean, 9, 6)
def i_X6_findWed : MI := (yX6_findWed, cX6_findWed, 7, some .int, 10, 6)
def i_X6_wed : MI := (yX6_wed, cX6_wed, 10, some .int, 11, 6)
def i_X6_film : MI := (yX6_film, cX6_film, 6, some .int, 2, 6)
def i_X6_copy : MI := (yX6_copy, cX6_copy, 7, some .int, 1, 6)
def i_J6_bitCount : MI := (yJ6_bitCount_0f7a4, cJ6_bitCount_0f7a4, 1, some .int, 0, 7)
def mT : Nat → MI := fun k => match k with
  | 0 => i_X0_init
  | 1 => i_X0_takeFrom
  | 2 => i_X0_clear
  | 3 => i_X0_known
  | 4 => i_X0_lives
  | 5 => i_X0_isOf
  | 6 => i_X0_isThing
  | 7 => i_X0_allLive
  | 8 => i_X0_addPerson
  | 9 => i_X0_addThing
  | 10 => i_X0_setRule
  | 11 => i_X0_canMarry
  | 12 => i_X0_join
  | 13 => i_X0_houseOf
  | 14 => i_X0_isIn
  | 15 => i_X0_childrenOf
  | 16 => i_X0_siblingsOf
  | 17 => i_X0_ofSex
  | 18 => i_X0_related
  | 19 => i_X0_heirBy
  | 20 => i_X0_member
  | 21 => i_X0_heldBy
  | 22 => i_X0_worthOfLands
  | 23 => i_X0_owedTo
  | 24 => i_X0_pass
  | 25 => i_X0_bury
  | 26 => i_X0_death
  | 27 => i_X0_deaths
  | 28 => i_X0_hasThingsOf
  | 29 => i_X0_drawn
  | 30 => i_X0_wives
  | 31 => i_X0_lot
  | 32 => i_X1_init
  | 33 => i_X1_takes
  | 34 => i_X1_gather
  | 35 => i_X1_lay
  | 36 => i_X2_init
  | 37 => i_X2_isSheet
  | 38 => i_X2_isLane
  | 39 => i_X2_holds
  | 40 => i_X2_spans
  | 41 => i_X2_look
  | 42 => i_X2_renew
  | 43 => i_X2_get
  | 44 => i_X2_put
  | 45 => i_X2_move
  | 46 => i_X3_init
  | 47 => i_X3_tell
  | 48 => i_X3_firstWhoCannotDie
  | 49 => i_X3_fewest
  | 50 => i_X3_isPair
  | 51 => i_X3_brings
  | 52 => i_X3_weds
  | 53 => i_X4_init
  | 54 => i_X4_put
  | 55 => i_X4_byteOf
  | 56 => i_X4_open
  | 57 => i_X4_passBlanks
  | 58 => i_X4_step
  | 59 => i_X4_empty
  | 60 => i_X4_next
  | 61 => i_X4_skip
  | 62 => i_X4_fault
  | 63 => i_X4_readPeople
  | 64 => i_X4_readPerson
  | 65 => i_X4_readFather
  | 66 => i_X4_readMother
  | 67 => i_X4_readSpouse
  | 68 => i_X4_readRules
  | 69 => i_X4_kindOf
  | 70 => i_X4_readRow
  | 71 => i_X5_init
  | 72 => i_X5_person
  | 73 => i_X5_marry
  | 74 => i_X5_adopt
  | 75 => i_X5_god
  | 76 => i_X5_told
  | 77 => i_X5_kin
  | 78 => i_X5_thing
  | 79 => i_X5_of
  | 80 => i_X5_rule
  | 81 => i_X5_heir
  | 82 => i_X5_type
  | 83 => i_X5_family
  | 84 => i_X5_rules
  | 85 => i_X5_count
  | 86 => i_X5_dies
  | 87 => i_X5_gathers
  | 88 => i_X5_balance
  | 89 => i_X5_paid
  | 90 => i_X5_orders
  | 91 => i_X5_explained
  | 92 => i_X5_lots
  | 93 => i_X5_seed
  | 94 => i_X5_image
  | 95 => i_X5_restore
  | 96 => i_X5_judged
  | 97 => i_X5_wed
  | 98 => i_X5_film
  | 99 => i_X5_sheet
  | 100 => i_X5_drop
  | 101 => i_X5_item
  | 102 => i_X5_copy
  | 103 => i_X5_has
  | 104 => i_X5_isKind
  | 105 => i_X5_hasOtherSide
  | 106 => i_X5_isRow
  | 107 => i_X6_init
  | 108 => i_X6_in
  | 109 => i_X6_has
  | 110 => i_X6_ones
  | 111 => i_X6_isOne
  | 112 => i_X6_isThing
  | 113 => i_X6_livesOne
  | 114 => i_X6_add
  | 115 => i_X6_isParent
  | 116 => i_X6_person
  | 117 => i_X6_areAlike
  | 118 => i_X6_areSiblings
  | 119 => i_X6_isChild
  | 120 => i_X6_canMarry
  | 121 => i_X6_marryNow
  | 122 => i_X6_marry
  | 123 => i_X6_adopt
  | 124 => i_X6_god
  | 125 => i_X6_houseOf
  | 126 => i_X6_told
  | 127 => i_X6_isParentsSibling
  | 128 => i_X6_areCousins
  | 129 => i_X6_isRelation
  | 130 => i_X6_kinOf
  | 131 => i_X6_kin
  | 132 => i_X6_hasOther
  | 133 => i_X6_thing
  | 134 => i_X6_of
  | 135 => i_X6_rule
  | 136 => i_X6_heirOf
  | 137 => i_X6_heir
  | 138 => i_X6_type
  | 139 => i_X6_nextByte
  | 140 => i_X6_takes
  | 141 => i_X6_readOne
  | 142 => i_X6_readPerson
  | 143 => i_X6_readRule
  | 144 => i_X6_readAll
  | 145 => i_X6_end
  | 146 => i_X6_family
  | 147 => i_X6_rules
  | 148 => i_X6_count
  | 149 => i_X6_end1
  | 150 => i_X6_die
  | 151 => i_X6_dies
  | 152 => i_X6_gathers
  | 153 => i_X6_balanceOf
  | 154 => i_X6_balance
  | 155 => i_X6_paid
  | 156 => i_X6_keepAside
  | 157 => i_X6_bringBack
  | 158 => i_X6_nextOrder
  | 159 => i_X6_firstOrder
  | 160 => i_X6_allLive
  | 161 => i_X6_isFew
  | 162 => i_X6_orders
  | 163 => i_X6_carried
  | 164 => i_X6_store
  | 165 => i_X6_load
  | 166 => i_X6_image
  | 167 => i_X6_restore
  | 168 => i_X6_areAsNow
  | 169 => i_X6_explained
  | 170 => i_X6_nextDraw
  | 171 => i_X6_nth
  | 172 => i_X6_lots
  | 173 => i_X6_seed
  | 174 => i_X6_isSheet
  | 175 => i_X6_sheet
  | 176 => i_X6_drop
  | 177 => i_X6_lacksRow
  | 178 => i_X6_item
  | 179 => i_X6_dieAll
  | 180 => i_X6_judged
  | 181 => i_X6_canPair
  | 182 => i_X6_brings
  | 183 => i_X6_findWed
  | 184 => i_X6_wed
  | 185 => i_X6_film
  | 186 => i_X6_copy
  | 187 => i_J6_bitCount
  | _ => i_X0_clear
def Rn : Nat → String := fun k => match k with
  | 0 => RX0
  | 1 => RX1
  | 2 => RX2
  | 3 => RX3
  | 4 => RX4
  | 5 => RX5
  | 6 => RX6
  | 7 => RJ6
  | 8 => RL
  | _ => ""
def Tn : Nat → u_T := fun k => match k with
  | 0 => TX0
  | 1 => TX1
  | 2 => TX2
  | 3 => TX3
  | 4 => TX4
  | 5 => TX5
  | _ => TX6
def tyn : Nat → Nat → FieldType := fun k => match k with
  | 0 => tyX0
  | 1 => tyX1
  | 2 => tyX2
  | 3 => tyX3
  | 4 => tyX4
  | 5 => tyX5
  | _ => tyX6
def nF : Nat → Nat := fun k => match k with
  | 0 => 15
  | 1 => 5
  | 2 => 3
  | 3 => 4
  | 4 => 3
  | 5 => 8
  | _ => 30
/-- a field that holds a cell: how far its number is from the object's; 0: it holds an int -/
def offs : Nat → Nat → Nat := fun c j => match c, j with
  | 0, 2 => 3
  | 0, 3 => 4
  | 0, 4 => 5
  | 0, 5 => 6
  | 0, 6 => 7
  | 0, 8 => 9
  | 0, 9 => 10
  | 0, 10 => 11
  | 0, 11 => 12
  | 0, 12 => 13
  | 0, 13 => 14
  | 1, 0 => 1
  | 1, 1 => 2
  | 1, 2 => 3
  | 2, 0 => 1
  | 2, 1 => 2
  | 2, 2 => 3
  | 3, 0 => 100
  | 3, 1 => 2
  | 3, 3 => 4
  | 4, 0 => 1
  | 5, 0 => 100
  | 5, 1 => 200
  | 5, 2 => 300
  | 5, 3 => 400
  | 5, 4 => 500
  | 5, 5 => 600
  | 5, 6 => 700
  | 6, 0 => 1
  | 6, 1 => 2
  | 6, 2 => 3
  | 6, 3 => 4
  | 6, 4 => 5
  | 6, 5 => 6
  | 6, 7 => 8
  | 6, 8 => 9
  | 6, 9 => 10
  | 6, 10 => 11
  | 6, 12 => 13
  | 6, 13 => 14
  | 6, 15 => 16
  | 6, 19 => 20
  | 6, 20 => 21
  | 6, 21 => 22
  | 6, 23 => 24
  | 6, 24 => 25
  | 6, 25 => 26
  | 6, 26 => 27
  | 6, 27 => 28
  | 6, 28 => 29
  | 6, 29 => 30
  | _, _ => 0
/-- the cells: number, class (7: an int array), length -/
def idTab : List (Nat × Nat × Nat) := [(0, 5, 0), (100, 0, 0), (103, 7, 12), (104, 7, 12), (105, 7, 12), (106, 7, 12), (107, 7, 12), (109, 7, 12), (110, 7, 12), (111, 7, 12), (112, 7, 12), (113, 7, 4), (114, 7, 4), (200, 0, 0), (203, 7, 12), (204, 7, 12), (205, 7, 12), (206, 7, 12), (207, 7, 12), (209, 7, 12), (210, 7, 12), (211, 7, 12), (212, 7, 12), (213, 7, 4), (214, 7, 4), (300, 0, 0), (303, 7, 12), (304, 7, 12), (305, 7, 12), (306, 7, 12), (307, 7, 12), (309, 7, 12), (310, 7, 12), (311, 7, 12), (312, 7, 12), (313, 7, 4), (314, 7, 4), (400, 4, 0), (401, 7, 120), (500, 2, 0), (501, 7, 4), (502, 7, 4), (503, 7, 96), (600, 1, 0), (601, 7, 5), (602, 7, 5), (603, 7, 5), (700, 3, 0), (702, 7, 8), (704, 7, 4), (800, 0, 0), (803, 7, 12), (804, 7, 12), (805, 7, 12), (806, 7, 12), (807, 7, 12), (809, 7, 12), (810, 7, 12), (811, 7, 12), (812, 7, 12), (813, 7, 4), (814, 7, 4), (900, 6, 0), (901, 7, 12), (902, 7, 12), (903, 7, 12), (904, 7, 12), (905, 7, 12), (906, 7, 12), (908, 7, 12), (909, 7, 12), (910, 7, 12), (911, 7, 12), (913, 7, 12), (914, 7, 4), (916, 7, 120), (920, 7, 60), (921, 7, 48), (922, 7, 5), (924, 7, 139), (925, 7, 139), (926, 7, 4), (927, 7, 4), (928, 7, 96), (929, 7, 2), (930, 7, 24)]
def idsL : List Nat := idTab.map (fun q => q.1)
def clsOf : Nat → Nat := fun k => match k with
  | 0 => 5
  | 100 => 0
  | 103 => 7
  | 104 => 7
  | 105 => 7
  | 106 => 7
  | 107 => 7
  | 109 => 7
  | 110 => 7
  | 111 => 7
  | 112 => 7
  | 113 => 7
  | 114 => 7
  | 200 => 0
  | 203 => 7
  | 204 => 7
  | 205 => 7
  | 206 => 7
  | 207 => 7
  | 209 => 7
  | 210 => 7
  | 211 => 7
  | 212 => 7
  | 213 => 7
  | 214 => 7
  | 300 => 0
  | 303 => 7
  | 304 => 7
  | 305 => 7
  | 306 => 7
  | 307 => 7
  | 309 => 7
  | 310 => 7
  | 311 => 7
  | 312 => 7
  | 313 => 7
  | 314 => 7
  | 400 => 4
  | 401 => 7
  | 500 => 2
  | 501 => 7
  | 502 => 7
  | 503 => 7
  | 600 => 1
  | 601 => 7
  | 602 => 7
  | 603 => 7
  | 700 => 3
  | 702 => 7
  | 704 => 7
  | 800 => 0
  | 803 => 7
  | 804 => 7
  | 805 => 7
  | 806 => 7
  | 807 => 7
  | 809 => 7
  | 810 => 7
  | 811 => 7
  | 812 => 7
  | 813 => 7
  | 814 => 7
  | 900 => 6
  | 901 => 7
  | 902 => 7
  | 903 => 7
  | 904 => 7
  | 905 => 7
  | 906 => 7
  | 908 => 7
  | 909 => 7
  | 910 => 7
  | 911 => 7
  | 913 => 7
  | 914 => 7
  | 916 => 7
  | 920 => 7
  | 921 => 7
  | 922 => 7
  | 924 => 7
  | 925 => 7
  | 926 => 7
  | 927 => 7
  | 928 => 7
  | 929 => 7
  | 930 => 7
  | _ => 99
def lenOf : Nat → Nat := fun k => match k with
  | 103 => 12
  | 104 => 12
  | 105 => 12
  | 106 => 12
  | 107 => 12
  | 109 => 12
  | 110 => 12
  | 111 => 12
  | 112 => 12
  | 113 => 4
  | 114 => 4
  | 203 => 12
  | 204 => 12
  | 205 => 12
  | 206 => 12
  | 207 => 12
  | 209 => 12
  | 210 => 12
  | 211 => 12
  | 212 => 12
  | 213 => 4
  | 214 => 4
  | 303 => 12
  | 304 => 12
  | 305 => 12
  | 306 => 12
  | 307 => 12
  | 309 => 12
  | 310 => 12
  | 311 => 12
  | 312 => 12
  | 313 => 4
  | 314 => 4
  | 401 => 120
  | 501 => 4
  | 502 => 4
  | 503 => 96
  | 601 => 5
  | 602 => 5
  | 603 => 5
  | 702 => 8
  | 704 => 4
  | 803 => 12
  | 804 => 12
  | 805 => 12
  | 806 => 12
  | 807 => 12
  | 809 => 12
  | 810 => 12
  | 811 => 12
  | 812 => 12
  | 813 => 4
  | 814 => 4
  | 901 => 12
  | 902 => 12
  | 903 => 12
  | 904 => 12
  | 905 => 12
  | 906 => 12
  | 908 => 12
  | 909 => 12
  | 910 => 12
  | 911 => 12
  | 913 => 12
  | 914 => 4
  | 916 => 120
  | 920 => 60
  | 921 => 48
  | 922 => 5
  | 924 => 139
  | 925 => 139
  | 926 => 4
  | 927 => 4
  | 928 => 96
  | 929 => 2
  | 930 => 24
  | _ => 0
def fLT : List (Nat × Nat × Nat × Nat × Nat) := [(0, 9, 0, 0, 65), (5, 158, 0, 0, 66), (0, 15, 0, 1, 67), (5, 162, 0, 1, 68), (0, 18, 0, 2, 69), (5, 79, 0, 2, 70), (4, 78, 0, 2, 71), (0, 22, 0, 3, 72), (5, 72, 0, 3, 73), (4, 72, 0, 3, 74), (0, 25, 0, 4, 75), (5, 82, 0, 4, 76), (4, 75, 0, 4, 77), (0, 28, 0, 5, 78), (5, 85, 0, 5, 79), (4, 81, 0, 5, 80), (0, 31, 0, 6, 81), (5, 76, 0, 6, 82), (0, 34, 0, 7, 83), (5, 170, 0, 7, 84), (0, 37, 0, 8, 85), (5, 109, 0, 8, 86), (0, 40, 0, 9, 87), (5, 112, 0, 9, 88), (0, 43, 0, 10, 89), (5, 115, 0, 10, 90), (0, 46, 0, 11, 91), (5, 118, 0, 11, 92), (0, 49, 0, 12, 93), (5, 124, 0, 12, 94), (0, 52, 0, 13, 95), (0, 55, 0, 14, 96), (5, 228, 0, 14, 97), (4, 11, 4, 0, 136), (4, 15, 4, 1, 137), (4, 19, 4, 2, 138), (2, 11, 2, 0, 152), (5, 262, 2, 0, 153), (2, 15, 2, 1, 154), (5, 265, 2, 1, 155), (2, 18, 2, 2, 156), (1, 9, 1, 0, 170), (1, 15, 1, 1, 171), (1, 18, 1, 2, 172), (5, 211, 1, 2, 173), (1, 21, 1, 3, 174), (5, 214, 1, 3, 175), (1, 25, 1, 4, 176), (5, 205, 1, 4, 177), (3, 12, 3, 0, 197), (3, 18, 3, 1, 198), (3, 22, 3, 2, 199), (3, 26, 3, 3, 200), (5, 245, 3, 3, 201), (5, 10, 5, 0, 211), (5, 16, 5, 1, 212), (5, 19, 5, 2, 213), (5, 25, 5, 3, 214), (5, 32, 5, 4, 215), (5, 39, 5, 5, 216), (5, 46, 5, 6, 217), (5, 50, 5, 7, 218), (6, 7, 6, 0, 688), (6, 13, 6, 1, 689), (6, 16, 6, 2, 690), (6, 19, 6, 3, 691), (6, 22, 6, 4, 692), (6, 25, 6, 5, 693), (6, 83, 6, 6, 694), (6, 28, 6, 7, 695), (6, 31, 6, 8, 696), (6, 34, 6, 9, 697), (6, 37, 6, 10, 698), (6, 90, 6, 11, 699), (6, 40, 6, 12, 700), (6, 43, 6, 13, 701), (6, 46, 6, 14, 702), (6, 50, 6, 15, 703), (6, 171, 6, 16, 704), (6, 174, 6, 17, 705), (6, 197, 6, 18, 706), (6, 53, 6, 19, 707), (6, 56, 6, 20, 708), (6, 59, 6, 21, 709), (6, 249, 6, 22, 710), (6, 62, 6, 23, 711), (6, 65, 6, 24, 712), (6, 68, 6, 25, 713), (6, 71, 6, 26, 714), (6, 74, 6, 27, 715), (6, 77, 6, 28, 716), (6, 80, 6, 29, 717)]
def mLT : List (Nat × Nat × Nat × Nat) := [(8, 13, 72, 236), (5, 54, 5, 240), (0, 64, 3, 244), (5, 58, 8, 248), (8, 18, 73, 252), (5, 62, 12, 256), (0, 78, 11, 260), (0, 72, 5, 264), (0, 75, 4, 265), (8, 23, 74, 272), (5, 65, 3, 276), (5, 69, 4, 277), (8, 27, 75, 278), (8, 31, 76, 282), (5, 88, 13, 286), (8, 35, 77, 290), (5, 92, 18, 294), (0, 85, 15, 298), (0, 88, 17, 302), (0, 92, 16, 306), (8, 39, 78, 310), (5, 96, 104, 314), (5, 99, 105, 317), (5, 102, 9, 320), (8, 44, 79, 324), (5, 106, 6, 328), (8, 48, 80, 332), (5, 121, 106, 336), (5, 276, 103, 339), (5, 127, 10, 340), (8, 52, 81, 344), (5, 131, 19, 348), (0, 95, 18, 352), (0, 98, 20, 353), (8, 58, 82, 357), (5, 134, 54, 361), (4, 22, 55, 365), (8, 63, 83, 370), (5, 138, 1, 374), (5, 142, 2, 381), (5, 145, 56, 385), (4, 28, 57, 389), (4, 31, 60, 393), (5, 148, 63, 397), (4, 38, 64, 401), (4, 35, 58, 405), (4, 49, 8, 409), (4, 55, 3, 410), (4, 58, 65, 411), (4, 45, 61, 415), (4, 68, 5, 419), (4, 62, 66, 420), (4, 65, 67, 424), (4, 42, 62, 428), (5, 152, 59, 432), (8, 68, 84, 436), (5, 155, 68, 440), (4, 84, 69, 444), (4, 94, 70, 450), (4, 100, 10, 455), (8, 72, 85, 456), (5, 165, 187, 460), (5, 173, 21, 466), (5, 176, 22, 470), (8, 77, 86, 474), (5, 180, 26, 478), (0, 104, 24, 482), (0, 101, 19, 486), (0, 108, 25, 487), (8, 81, 87, 491), (5, 184, 14, 495), (0, 81, 13, 499), (8, 85, 88, 500), (5, 188, 23, 505), (8, 89, 89, 509), (8, 93, 90, 516), (5, 196, 33, 520), (1, 28, 187, 523), (5, 199, 7, 524), (5, 202, 34, 528), (5, 208, 35, 533), (5, 217, 27, 538), (0, 112, 26, 542), (8, 97, 91, 543), (5, 221, 28, 547), (8, 101, 92, 551), (5, 225, 31, 555), (0, 118, 29, 559), (0, 121, 187, 566), (0, 126, 30, 567), (0, 130, 8, 571), (8, 105, 93, 572), (8, 109, 94, 576), (8, 113, 95, 580), (8, 117, 96, 584), (5, 231, 41, 588), (2, 21, 37, 592), (2, 25, 38, 595), (2, 28, 39, 598), (2, 31, 40, 602), (5, 234, 47, 606), (3, 29, 43, 610), (5, 238, 48, 614), (8, 121, 97, 619), (5, 241, 49, 623), (3, 39, 51, 627), (3, 50, 1, 631), (3, 54, 52, 632), (3, 68, 12, 636), (3, 57, 24, 637), (3, 61, 25, 638), (3, 65, 14, 639), (3, 43, 50, 640), (3, 47, 11, 644), (8, 126, 98, 645), (5, 248, 44, 649), (8, 130, 99, 653), (5, 250, 37, 657), (5, 253, 38, 658), (5, 256, 42, 659), (8, 134, 100, 663), (5, 259, 39, 667), (8, 138, 101, 668), (8, 142, 102, 672), (5, 268, 40, 676), (5, 272, 45, 677), (8, 17, 116, 779), (6, 86, 108, 783), (6, 97, 115, 786), (6, 93, 111, 790), (6, 101, 114, 794), (8, 22, 122, 798), (6, 114, 120, 802), (6, 108, 118, 806), (6, 105, 117, 810), (6, 111, 119, 813), (6, 117, 121, 817), (8, 26, 123, 821), (8, 30, 124, 825), (8, 34, 126, 829), (6, 121, 125, 833), (8, 38, 131, 837), (6, 137, 130, 842), (6, 131, 129, 846), (6, 128, 128, 850), (6, 125, 127, 854), (8, 43, 133, 858), (6, 145, 113, 864), (6, 148, 132, 868), (8, 47, 134, 871), (6, 151, 112, 875), (8, 51, 135, 879), (6, 154, 110, 883), (8, 55, 137, 886), (6, 160, 136, 890), (6, 157, 109, 894), (8, 62, 138, 897), (8, 67, 146, 905), (6, 200, 144, 909), (6, 191, 142, 913), (6, 177, 139, 917), (6, 181, 140, 921), (6, 184, 141, 925), (6, 194, 143, 929), (6, 203, 145, 935), (8, 71, 147, 939), (8, 76, 148, 943), (8, 80, 151, 947), (6, 210, 150, 951), (6, 207, 149, 955), (8, 84, 152, 959), (8, 88, 154, 964), (6, 215, 153, 968), (8, 92, 155, 973), (8, 96, 162, 977), (6, 221, 161, 981), (6, 224, 160, 985), (6, 229, 159, 990), (6, 232, 156, 994), (6, 235, 157, 998), (6, 238, 158, 1002), (8, 112, 166, 1006), (6, 245, 164, 1010), (6, 241, 163, 1014), (8, 116, 167, 1018), (6, 253, 165, 1022), (8, 100, 169, 1026), (6, 256, 168, 1030), (8, 104, 172, 1034), (6, 269, 170, 1039), (6, 272, 171, 1047), (8, 108, 173, 1050), (8, 133, 175, 1054), (6, 277, 174, 1058), (8, 137, 176, 1062), (8, 141, 178, 1066), (6, 280, 177, 1070), (8, 120, 180, 1074), (6, 284, 179, 1078), (8, 125, 184, 1082), (6, 296, 183, 1087), (6, 290, 182, 1091), (6, 287, 181, 1095), (8, 129, 185, 1099), (8, 146, 186, 1103)]
def mLN : List (Nat × Nat × Nat × Nat) := [(0, 68, 103, 269), (4, 88, 104, 448), (4, 91, 103, 449), (4, 97, 106, 454), (1, 34, 103, 532), (3, 35, 103, 618)]
def cpT : List (Nat × Nat × Nat) := [(0, 58, 378), (1, 38, 537), (2, 35, 681)]
def mxT : List (Nat × Nat × Nat) := [(5, 191, 513)]
def mFT : List (Nat × Nat × Bool × Nat × Nat × Nat × Nat) := [(1, 1, false, 377, 42, 375, 376), (2, 0, false, 384, 42, 382, 383), (3, 1, false, 247, 42, 245, 246), (4, 1, false, 268, 42, 266, 267), (5, 2, false, 243, 42, 241, 242), (6, 1, false, 331, 42, 329, 330), (7, 1, false, 527, 42, 525, 526), (8, 3, false, 251, 42, 249, 250), (9, 4, false, 323, 42, 321, 322), (10, 3, false, 343, 42, 341, 342), (11, 2, false, 263, 42, 261, 262), (12, 2, false, 259, 42, 257, 258), (13, 1, false, 289, 42, 287, 288), (14, 2, false, 498, 42, 496, 497), (15, 1, false, 301, 42, 299, 300), (16, 1, false, 309, 42, 307, 308), (17, 2, false, 305, 42, 303, 304), (18, 2, false, 297, 42, 295, 296), (19, 2, false, 351, 42, 349, 350), (20, 2, false, 356, 42, 354, 355), (21, 1, false, 469, 42, 467, 468), (22, 0, false, 473, 42, 471, 472), (23, 1, false, 508, 42, 506, 507), (24, 2, false, 485, 42, 483, 484), (25, 1, false, 490, 42, 488, 489), (26, 1, false, 481, 42, 479, 480), (27, 2, false, 541, 42, 539, 540), (28, 1, false, 550, 42, 548, 549), (29, 1, false, 562, 42, 560, 561), (30, 0, false, 570, 42, 568, 569), (31, 0, false, 558, 42, 556, 557), (33, 1, true, 522, 45, 521, 0), (34, 1, false, 531, 45, 529, 530), (35, 1, false, 536, 45, 534, 535), (37, 1, true, 594, 44, 593, 0), (38, 1, true, 597, 44, 596, 0), (39, 1, false, 601, 44, 599, 600), (40, 3, false, 605, 44, 603, 604), (41, 4, false, 591, 44, 589, 590), (42, 3, false, 662, 44, 660, 661), (43, 2, false, 613, 44, 611, 612), (44, 3, false, 652, 44, 650, 651), (45, 5, false, 680, 44, 678, 679), (47, 4, false, 609, 46, 607, 608), (48, 1, false, 617, 46, 615, 616), (49, 3, false, 626, 46, 624, 625), (50, 2, false, 643, 46, 641, 642), (51, 5, false, 630, 46, 628, 629), (52, 2, false, 635, 46, 633, 634), (54, 2, false, 364, 43, 362, 363), (55, 2, false, 368, 43, 366, 367), (56, 0, false, 388, 43, 386, 387), (57, 0, false, 392, 43, 390, 391), (58, 0, false, 408, 43, 406, 407), (59, 0, false, 435, 43, 433, 434), (60, 0, false, 396, 43, 394, 395), (61, 1, false, 418, 43, 416, 417), (62, 0, false, 431, 43, 429, 430), (63, 1, false, 400, 43, 398, 399), (64, 1, false, 404, 43, 402, 403), (65, 2, false, 414, 43, 412, 413), (66, 2, false, 423, 43, 421, 422), (67, 2, false, 427, 43, 425, 426), (68, 1, false, 443, 43, 441, 442), (69, 1, false, 447, 43, 445, 446), (70, 2, false, 453, 43, 451, 452), (72, 3, false, 239, 41, 237, 238), (73, 2, false, 255, 41, 253, 254), (74, 2, false, 275, 41, 273, 274), (75, 2, false, 281, 41, 279, 280), (76, 2, false, 285, 41, 283, 284), (77, 2, false, 293, 41, 291, 292), (78, 4, false, 313, 41, 311, 312), (79, 2, false, 327, 41, 325, 326), (80, 3, false, 335, 41, 333, 334), (81, 2, false, 347, 41, 345, 346), (82, 2, false, 360, 41, 358, 359), (83, 0, false, 373, 41, 371, 372), (84, 0, false, 439, 41, 437, 438), (85, 1, false, 459, 41, 457, 458), (86, 1, false, 477, 41, 475, 476), (87, 2, false, 494, 41, 492, 493), (88, 1, false, 503, 41, 501, 502), (89, 0, false, 512, 41, 510, 511), (90, 3, false, 519, 41, 517, 518), (91, 1, false, 546, 41, 544, 545), (92, 1, false, 554, 41, 552, 553), (93, 1, false, 575, 41, 573, 574), (94, 0, false, 579, 41, 577, 578), (95, 0, false, 583, 41, 581, 582), (96, 4, false, 587, 41, 585, 586), (97, 7, false, 622, 41, 620, 621), (98, 3, false, 648, 41, 646, 647), (99, 3, false, 656, 41, 654, 655), (100, 1, false, 666, 41, 664, 665), (101, 4, false, 671, 41, 669, 670), (102, 5, false, 675, 41, 673, 674), (103, 2, true, 271, 41, 270, 0), (104, 1, true, 316, 41, 315, 0), (105, 1, true, 319, 41, 318, 0), (106, 2, true, 338, 41, 337, 0), (108, 3, true, 785, 47, 784, 0), (109, 2, true, 896, 47, 895, 0), (110, 1, true, 885, 47, 884, 0), (111, 1, false, 793, 47, 792, 1), (112, 1, false, 878, 47, 877, 13), (113, 1, false, 867, 47, 866, 12), (114, 3, false, 797, 47, 796, 2), (115, 2, false, 789, 47, 788, 0), (116, 3, false, 782, 47, 780, 781), (117, 2, true, 812, 47, 811, 0), (118, 2, false, 809, 47, 808, 4), (119, 2, false, 816, 47, 815, 5), (120, 2, false, 805, 47, 804, 3), (121, 2, false, 820, 47, 819, 6), (122, 2, false, 801, 47, 799, 800), (123, 2, false, 824, 47, 822, 823), (124, 2, false, 828, 47, 826, 827), (125, 1, false, 836, 47, 835, 7), (126, 2, false, 832, 47, 830, 831), (127, 2, false, 857, 47, 856, 11), (128, 2, false, 853, 47, 852, 10), (129, 3, false, 849, 47, 848, 9), (130, 2, false, 845, 47, 844, 8), (131, 2, false, 840, 47, 838, 839), (132, 1, true, 870, 47, 869, 0), (133, 4, false, 861, 47, 859, 860), (134, 2, false, 874, 47, 872, 873), (135, 3, false, 882, 47, 880, 881), (136, 2, false, 893, 47, 892, 14), (137, 2, false, 889, 47, 887, 888), (138, 2, false, 900, 47, 898, 899), (139, 0, false, 920, 47, 919, 17), (140, 1, false, 924, 47, 923, 18), (141, 2, false, 928, 47, 927, 19), (142, 1, false, 916, 47, 915, 16), (143, 1, false, 932, 47, 931, 20), (144, 2, false, 912, 47, 911, 15), (145, 1, false, 938, 47, 937, 21), (146, 0, false, 908, 47, 906, 907), (147, 0, false, 942, 47, 940, 941), (148, 1, false, 946, 47, 944, 945), (149, 2, false, 958, 47, 957, 23), (150, 1, false, 954, 47, 953, 22), (151, 1, false, 950, 47, 948, 949), (152, 2, false, 962, 47, 960, 961), (153, 1, false, 971, 47, 970, 24), (154, 1, false, 967, 47, 965, 966), (155, 0, false, 976, 47, 974, 975), (156, 0, false, 997, 47, 996, 27), (157, 0, false, 1001, 47, 1000, 28), (158, 1, false, 1005, 47, 1004, 29), (159, 1, false, 993, 47, 992, 26), (160, 1, false, 988, 47, 987, 25), (161, 1, true, 983, 47, 982, 0), (162, 3, false, 980, 47, 978, 979), (163, 3, false, 1017, 47, 1016, 31), (164, 1, false, 1013, 47, 1012, 30), (165, 1, false, 1025, 47, 1024, 32), (166, 0, false, 1009, 47, 1007, 1008), (167, 0, false, 1021, 47, 1019, 1020), (168, 0, false, 1033, 47, 1032, 33), (169, 1, false, 1029, 47, 1027, 1028), (170, 1, false, 1042, 47, 1041, 34), (171, 2, true, 1049, 47, 1048, 0), (172, 1, false, 1037, 47, 1035, 1036), (173, 1, false, 1053, 47, 1051, 1052), (174, 2, true, 1060, 47, 1059, 0), (175, 3, false, 1057, 47, 1055, 1056), (176, 1, false, 1065, 47, 1063, 1064), (177, 4, false, 1073, 47, 1072, 35), (178, 4, false, 1069, 47, 1067, 1068), (179, 2, false, 1081, 47, 1080, 36), (180, 4, false, 1077, 47, 1075, 1076), (181, 1, false, 1098, 47, 1097, 39), (182, 5, false, 1094, 47, 1093, 38), (183, 4, false, 1090, 47, 1089, 37), (184, 7, false, 1085, 47, 1083, 1084), (185, 3, false, 1102, 47, 1100, 1101), (186, 5, false, 1106, 47, 1104, 1105), (187, 1, true, 462, 49, 461, 0)]
def cIT : List (Nat × Nat × Int32 × Nat) := [(7, 265, nI 1431655765, 463), (7, 266, nI 858993459, 464), (7, 267, nI 252645135, 465), (5, 187, (-100000001), 504), (0, 115, nI 1103515245, 563), (0, 116, nI 2147483647, 564), (0, 117, nI 65536, 565), (6, 218, (-100000001), 972), (6, 266, nI 65536, 1046)]
def cLT : List (Nat × Nat × Int64 × Nat) := [(4, 26, 255, 369), (6, 135, 5, 841), (6, 141, 3, 862), (6, 143, 99, 863), (6, 163, 8, 901), (6, 165, 255, 902), (6, 167, 32, 903), (6, 169, 126, 904), (6, 187, 48, 933), (6, 189, 57, 934), (6, 213, 11, 963), (6, 219, 4095, 984), (6, 227, 13, 989), (6, 267, 30, 1038), (6, 260, 1103515245, 1043), (6, 262, 12345, 1044), (6, 264, 2147483647, 1045), (6, 275, 2, 1061), (6, 294, -1, 1086), (8, 56, 4294967295, 1107)]
end
section
/-! THE WALKER: a method's body is walked by a function (vc) over cells that are numbers; proved once to tell of the machine (V_run) -/
abbrev St : Type := Nat → Nat → Int32
abbrev Ax : Type := Int32 ⊕ (Int64 ⊕ (List Nat ⊕ ((Nat × Nat × Nat × Bool) ⊕ (Nat × Nat × Bool × Bool × Nat))))
def aC (c : Int32) : Ax := .inl c
def aL (c : Int64) : Ax := .inr (.inl c)
def aT (t : List Nat) : Ax := .inr (.inr (.inl t))
def aF (ci j o : Nat) (b : Bool) : Ax := .inr (.inr (.inr (.inl (ci, j, o, b))))
def aM (k n : Nat) (st rt : Bool) (ci : Nat) : Ax := .inr (.inr (.inr (.inr (k, n, st, rt, ci))))
def gC (a : Ax) : Int32 := match a with | .inl c => c | _ => 0
def gL (a : Ax) : Int64 := match a with | .inr (.inl c) => c | _ => 0
def gT (a : Ax) : List Nat := match a with | .inr (.inr (.inl t)) => t | _ => []
def gF (a : Ax) : Nat × Nat × Nat × Bool := match a with | .inr (.inr (.inr (.inl t))) => t | _ => (99, 0, 0, false)
def gM (a : Ax) : Nat × Nat × Bool × Bool × Nat := match a with | .inr (.inr (.inr (.inr t))) => t | _ => (999, 0, false, false, 99)
/-- instruction, its place in the list, its pc, whether a walk halts there, what goes with it -/
abbrev Ins : Type := Instr × Nat × Nat × Bool × Ax
def wr (σ : St) (k j : Nat) (v : Int32) : St := fun k' => if k' = k then upd (σ k) j v else σ k'
def wrR (σ : St) (k : Nat) (f : Nat → Int32) : St := fun k' => if k' = k then f else σ k'
def BIG : List Cond := lw_tbl.filter goodWord
def rmL (d : Nat) : Room := { frames := d, cells := 0, slots := 0, locals := 42 * d }
def cv (ad : Nat → Nat) (v : Value) : Value := match v with | .ref k => .ref (ad k) | v => v
def fv (ad : Nat → Nat) (σ : St) (k j : Nat) : Value := if offs (clsOf k) j = 0 then .int (σ k j) else .ref (ad (k + offs (clsOf k) j))
def cellE (cI : ClassId) (ad : Nat → Nat) (σ : St) (k : Nat) : va_E := if clsOf k < 7 then .inr (clsOf k, (List.range (nF (clsOf k))).map (fv ad σ k)) else .inl (cI, lenOf k, .inl (σ k))
def wsW (cI : ClassId) (ad : Nat → Nat) (σ : St) : va_W := idsL.map fun k => (ad k, cellE cI ad σ k)
def nestL : List Cond := mLN.map fun q => Cond.methodLinkNest (Rn q.1) q.2.1 (mT q.2.2.1).1 RX5
def Wd (D : va_G) (cI : ClassId) (U : State) : Prop := va_K D vwCl [(cI, .int)] U ∧ ∀ w ∈ nestL, va_Nw w U
def Bk (D : va_G) (cI : ClassId) (ad : Nat → Nat) (A : Nat → Prop) (σ : St) (t : State) : Prop := va_P D vwCl (wsW cI ad σ) t.heap ∧ Wd D cI t ∧ va_D A (wsW cI ad σ)
def Pw (D : va_G) (cI : ClassId) (ad : Nat → Nat) (σ : St) (sz : Nat) (U : State) : Prop := U.heap.size = sz ∧ va_P D vwCl (wsW cI ad σ) U.heap ∧ Wd D cI U ∧ va_D (fun _ => True) (wsW cI ad σ)
/-- a method's end: an answer r (0 of a method without one) and the store -/
def Qc (rt : Option FieldType) (Q : Int32 → St → Prop) (D : va_G) (cI : ClassId) (ad : Nat → Nat) (A : Nat → Prop) : Array Value → State → Outcome → State → Prop :=
  match rt with
  | none => va_Qv (fun σ' : St => Q 0 σ') (Bk D cI ad A) A
  | some _ => va_Qi (fun r (σ' : St) => Q r σ') (Bk D cI ad A) A
abbrev Spec : Type := List Value → St → (Int32 → St → Prop) → Prop
/-- a method does what S says -/
def AMet (l : Launch) (mi : MI) (S : Spec) : Prop :=
  ∀ (D : va_G) (cI : ClassId) (ad : Nat → Nat) (σ : St) (as : List Value) (Q : Int32 → St → Prop) (sz : Nat), S as σ Q →
    Met l mi.1 (.code mi.1 mi.2.1 mi.2.2.1 mi.2.2.2.1 :: BIG) (rmL mi.2.2.2.2.1)
      (va_Pc (as.map (cv ad)) (Pw D cI ad σ sz))
      (Qc mi.2.2.2.1 Q D cI ad (va_A (wsW cI ad σ) sz)) 0 0 (va_A (wsW cI ad σ) sz)
def CallAt (l : Launch) (k : Nat) (as : List Value) (σ : St) (K : Int32 → St → Prop) : Prop := ∃ S : Spec, AMet l (mT k) S ∧ S as σ K
def okR (rt : Option FieldType) (v : Int32) : Prop := match rt with
  | some .int => True
  | some .boolean => v = nI 0 ∨ v = nI 1
  | _ => False
def lng (v : Value) : Bool := v.category == 2
def lngB (L : List Value) (k : Nat) : Bool := match k with | 0 => false | j + 1 => lng (L.getD j .null)
def swT (jp : Nat → Prop) (x : Int32) : Nat → List Nat → Prop
  | _, [] => True
  | n, t :: r => (x = nI n → jp t) ∧ swT jp x (n + 1) r
def swL (jp : Nat → Prop) (x : Int32) (d : Nat) : List (Int × Int) → List Nat → Prop
  | (a, _) :: r, t :: ts => (x = Int32.ofInt a → jp t) ∧ (¬ x = Int32.ofInt a → swL jp x d r ts)
  | [], [] => jp d
  | _, _ => False
def cnd (c : ClassFile.Cond) (x y : Int32) : Prop := match c with
  | .eq => x = y
  | .ne => ¬ x = y
  | .lt => x < y
  | .ge => y ≤ x
  | .gt => y < x
  | .le => x ≤ y
section Step
variable (l : Launch) (rt : Option FieldType) (Q : Int32 → St → Prop)
def stp (i : Ins) (L S : List Value) (σ : St) (nx : List Value → List Value → St → Prop) (jp : Nat → List Value → List Value → St → Prop) : Prop :=
  match i.1 with
  | .iconst _ => nx L (.int (gC i.2.2.2.2) :: S) σ
  | .bipush _ => nx L (.int (gC i.2.2.2.2) :: S) σ
  | .sipush _ => nx L (.int (gC i.2.2.2.2) :: S) σ
  | .ldc _ => nx L (.int (gC i.2.2.2.2) :: S) σ
  | .ldc_w _ => nx L (.int (gC i.2.2.2.2) :: S) σ
  | .lconst _ => nx L (.long (gL i.2.2.2.2) :: S) σ
  | .ldc2_w _ => nx L (.long (gL i.2.2.2.2) :: S) σ
  | .iload k => (match L.getD k .null with | .int x => nx L (.int x :: S) σ | _ => False)
  | .iload_n k => (match L.getD k.val .null with | .int x => nx L (.int x :: S) σ | _ => False)
  | .lload k => (match L.getD k .null with | .long x => nx L (.long x :: S) σ | _ => False)
  | .lload_n k => (match L.getD k.val .null with | .long x => nx L (.long x :: S) σ | _ => False)
  | .aload k => (match L.getD k .null with | .ref x => nx L (.ref x :: S) σ | _ => False)
  | .aload_n k => (match L.getD k.val .null with | .ref x => nx L (.ref x :: S) σ | _ => False)
  | .istore k => (match S with | .int x :: S => lngB L k = false ∧ nx (L.set k (.int x)) S σ | _ => False)
  | .istore_n k => (match S with | .int x :: S => lngB L k.val = false ∧ nx (L.set k.val (.int x)) S σ | _ => False)
  | .iinc k _ => (match L.getD k .null with | .int x => lngB L k = false ∧ nx (L.set k (.int (x + gC i.2.2.2.2))) S σ | _ => False)
  | .iadd => (match S with | .int y :: .int x :: S => nx L (.int (x + y) :: S) σ | _ => False)
  | .isub => (match S with | .int y :: .int x :: S => nx L (.int (x - y) :: S) σ | _ => False)
  | .imul => (match S with | .int y :: .int x :: S => nx L (.int (x * y) :: S) σ | _ => False)
  | .iand => (match S with | .int y :: .int x :: S => nx L (.int (x &&& y) :: S) σ | _ => False)
  | .ior => (match S with | .int y :: .int x :: S => nx L (.int (x ||| y) :: S) σ | _ => False)
  | .ixor => (match S with | .int y :: .int x :: S => nx L (.int (x ^^^ y) :: S) σ | _ => False)
  | .idiv => (match S with | .int y :: .int x :: S => (¬ y = 0) ∧ nx L (.int (x / y) :: S) σ | _ => False)
  | .irem => (match S with | .int y :: .int x :: S => (¬ y = 0) ∧ nx L (.int (x - x / y * y) :: S) σ | _ => False)
  | .ishl => (match S with | .int y :: .int x :: S => nx L (.int (x <<< (y &&& 31)) :: S) σ | _ => False)
  | .ishr => (match S with | .int y :: .int x :: S => nx L (.int (x >>> (y &&& 31)) :: S) σ | _ => False)
  | .iushr => (match S with | .int y :: .int x :: S => nx L (.int ((x.toUInt32 >>> (y.toUInt32 &&& Int32.toUInt32 31)).toInt32) :: S) σ | _ => False)
  | .ladd => (match S with | .long y :: .long x :: S => nx L (.long (x + y) :: S) σ | _ => False)
  | .lsub => (match S with | .long y :: .long x :: S => nx L (.long (x - y) :: S) σ | _ => False)
  | .lmul => (match S with | .long y :: .long x :: S => nx L (.long (x * y) :: S) σ | _ => False)
  | .land => (match S with | .long y :: .long x :: S => nx L (.long (x &&& y) :: S) σ | _ => False)
  | .lor => (match S with | .long y :: .long x :: S => nx L (.long (x ||| y) :: S) σ | _ => False)
  | .lshl => (match S with | .int y :: .long x :: S => nx L (.long (x <<< (y.toInt64 &&& 63)) :: S) σ | _ => False)
  | .lshr => (match S with | .int y :: .long x :: S => nx L (.long (x >>> (y.toInt64 &&& 63)) :: S) σ | _ => False)
  | .lcmp => (match S with | .long y :: .long x :: S => nx L (.int (lg_cmp x y) :: S) σ | _ => False)
  | .i2l => (match S with | .int x :: S => nx L (.long x.toInt64 :: S) σ | _ => False)
  | .l2i => (match S with | .long x :: S => nx L (.int x.toInt32 :: S) σ | _ => False)
  | .i2b => (match S with | .int x :: S => nx L (.int x.toInt8.toInt32 :: S) σ | _ => False)
  | .i2s => (match S with | .int x :: S => nx L (.int x.toInt16.toInt32 :: S) σ | _ => False)
  | .dup => (match S with | .int x :: S => nx L (.int x :: .int x :: S) σ | .ref x :: S => nx L (.ref x :: .ref x :: S) σ | _ => False)
  | .pop => (match S with | .int _ :: S => nx L S σ | _ => False)
  | .goto _ => (match gT i.2.2.2.2 with | [t] => jp t L S σ | _ => False)
  | .ifCond c _ => (match S, gT i.2.2.2.2 with | .int x :: S, [t] => (cnd c x (nI 0) → jp t L S σ) ∧ (¬ cnd c x (nI 0) → nx L S σ) | _, _ => False)
  | .if_icmp c _ => (match S, gT i.2.2.2.2 with | .int y :: .int x :: S, [t] => (cnd c x y → jp t L S σ) ∧ (¬ cnd c x y → nx L S σ) | _, _ => False)
  | .tableswitch _ lo hi _ => (match S, gT i.2.2.2.2 with | .int x :: S, d :: ts => lo = 0 ∧ (hi : Int) + 1 = ts.length ∧ ts.length < 2 ^ 31 ∧ swT (fun t => jp t L S σ) x 0 ts ∧ ((x < nI 0 ∨ nI ts.length ≤ x) → jp d L S σ) | _, _ => False)
  | .lookupswitch _ ps => (match S, gT i.2.2.2.2 with | .int x :: S, d :: ts => swL (fun t => jp t L S σ) x d ps.toList ts | _, _ => False)
  | .getfield _ => (match S with | .ref k :: S => clsOf k = (gF i.2.2.2.2).1 ∧ nx L ((if (gF i.2.2.2.2).2.2.1 = 0 then .int (σ k (gF i.2.2.2.2).2.1) else .ref (k + (gF i.2.2.2.2).2.2.1)) :: S) σ | _ => False)
  | .putfield _ => (match S with | .int v :: .ref k :: S => clsOf k = (gF i.2.2.2.2).1 ∧ ((gF i.2.2.2.2).2.2.2 = true → v = nI 0 ∨ v = nI 1) ∧ nx L S (wr σ k (gF i.2.2.2.2).2.1 v) | _ => False)
  | .iaload => (match S with | .int x :: .ref k :: S => clsOf k = 7 ∧ vp_in x (lenOf k) ∧ nx L (.int (σ k x.toNatClampNeg) :: S) σ | _ => False)
  | .iastore => (match S with | .int v :: .int x :: .ref k :: S => clsOf k = 7 ∧ vp_in x (lenOf k) ∧ nx L S (wr σ k x.toNatClampNeg v) | _ => False)
  | .arraylength => (match S with | .ref k :: S => clsOf k = 7 ∧ nx L (.int (nI (lenOf k)) :: S) σ | _ => False)
  | .invokevirtual _ => (match S.drop (gM i.2.2.2.2).2.1 with
      | .ref k :: S' => clsOf k = (gM i.2.2.2.2).2.2.2.2 ∧ S'.length ≤ 4 ∧ CallAt l (gM i.2.2.2.2).1 (.ref k :: (S.take (gM i.2.2.2.2).2.1).reverse) σ (fun r σ' => nx L (if (gM i.2.2.2.2).2.2.2.1 = true then .int r :: S' else S') σ')
      | _ => False)
  | .invokestatic _ =>
      if (gM i.2.2.2.2).1 = 900 then (match S with
        | .int n :: .int dp :: .ref kd :: .int sp :: .ref ks :: S => S.length ≤ 4 ∧ clsOf ks = 7 ∧ clsOf kd = 7 ∧ (¬ sp < 0) ∧ (¬ dp < 0) ∧ (¬ n < 0) ∧ sp.toNatClampNeg + n.toNatClampNeg ≤ lenOf ks ∧ dp.toNatClampNeg + n.toNatClampNeg ≤ lenOf kd ∧ nx L S (wrR σ kd (va_cpy (σ ks) (σ kd) sp.toNatClampNeg dp.toNatClampNeg n.toNatClampNeg))
        | _ => False)
      else if (gM i.2.2.2.2).1 = 901 then (match S with | .int y :: .int x :: S => S.length ≤ 4 ∧ nx L (.int (if x < y then y else x) :: S) σ | _ => False)
      else (S.take (gM i.2.2.2.2).2.1).length = (gM i.2.2.2.2).2.1 ∧ (S.drop (gM i.2.2.2.2).2.1).length ≤ 4 ∧ CallAt l (gM i.2.2.2.2).1 (S.take (gM i.2.2.2.2).2.1).reverse σ (fun r σ' => nx L (if (gM i.2.2.2.2).2.2.2.1 = true then .int r :: S.drop (gM i.2.2.2.2).2.1 else S.drop (gM i.2.2.2.2).2.1) σ')
  | .ireturn => (match S with | [.int v] => okR rt v ∧ Q v σ | _ => False)
  | .return_ => (match S with | [] => rt = none ∧ Q 0 σ | _ => False)
  | _ => False
/-- on from a place in the list: halt where it is marked -/
def goF (J : Nat → List Value → List Value → St → Prop) (f : List Ins → List Value → List Value → St → Prop) (r : List Ins) (L S : List Value) (σ : St) : Prop :=
  match r with
  | [] => False
  | j :: _ => if j.2.2.2.1 = true then J j.2.1 L S σ else f r L S σ
def vc (J : Nat → List Value → List Value → St → Prop) (cd : List Ins) : Nat → List Ins → List Value → List Value → St → Prop
  | 0, r, L, S, σ => (match r with | [] => False | j :: _ => J j.2.1 L S σ)
  | n + 1, r, L, S, σ => (match r with
    | [] => False
    | i :: r' => stp l rt Q i L S σ (goF J (vc J cd n) r') (fun t => goF J (vc J cd n) (cd.drop t)))
end Step
end
section
/-! what a list of instructions must be to stand for a method's bytes -/
def lnI (i : Instr) : Nat := match i with
  | .iload _ => 2 | .lload _ => 2 | .aload _ => 2 | .istore _ => 2 | .bipush _ => 2 | .ldc _ => 2
  | .sipush _ => 3 | .ldc_w _ => 3 | .ldc2_w _ => 3 | .iinc _ _ => 3 | .goto _ => 3 | .ifCond _ _ => 3 | .if_icmp _ _ => 3
  | .getfield _ => 3 | .putfield _ => 3 | .invokevirtual _ => 3 | .invokestatic _ => 3
  | _ => 1
def isSw (i : Instr) : Bool := match i with | .tableswitch _ _ _ _ => true | .lookupswitch _ _ => true | _ => false
def pcA (cd : List Ins) (k : Nat) : Nat := match cd[k]? with | some i => i.2.2.1 | none => 0
def okT (cd : List Ins) (pc : Nat) (o : Int) (t : Nat) : Bool := decide (t < cd.length) && decide ((pc : Int) + o = (pcA cd t : Int))
def okTs (cd : List Ins) (pc : Nat) : List Int → List Nat → Bool
  | [], [] => true
  | o :: os, t :: ts => okT cd pc o t && okTs cd pc os ts
  | _, _ => false
def okA (mi : MI) (cd : List Ins) (i : Ins) : Bool :=
  match i.1 with
  | .iconst n => decide (Int32.ofInt n = gC i.2.2.2.2)
  | .bipush n => decide ((Int8.ofInt n).toInt32 = gC i.2.2.2.2)
  | .sipush n => decide ((Int16.ofInt n).toInt32 = gC i.2.2.2.2)
  | .ldc x => cIT.any (fun q => q.1 == mi.2.2.2.2.2 && q.2.1 == x && decide (q.2.2.1 = gC i.2.2.2.2))
  | .ldc_w x => cIT.any (fun q => q.1 == mi.2.2.2.2.2 && q.2.1 == x && decide (q.2.2.1 = gC i.2.2.2.2))
  | .lconst n => decide (Int64.ofNat (n : Nat) = gL i.2.2.2.2)
  | .ldc2_w x => cLT.any (fun q => q.1 == mi.2.2.2.2.2 && q.2.1 == x && decide (q.2.2.1 = gL i.2.2.2.2))
  | .istore k => decide (k < mi.2.2.1)
  | .istore_n k => decide (k.val < mi.2.2.1)
  | .iinc k n => decide (k < mi.2.2.1) && decide (Int32.ofInt n = gC i.2.2.2.2)
  | .goto o => okTs cd i.2.2.1 [o] (gT i.2.2.2.2)
  | .ifCond _ o => okTs cd i.2.2.1 [o] (gT i.2.2.2.2)
  | .if_icmp _ o => okTs cd i.2.2.1 [o] (gT i.2.2.2.2)
  | .tableswitch d _ _ os => okTs cd i.2.2.1 (d :: os.toList) (gT i.2.2.2.2)
  | .lookupswitch d ps => okTs cd i.2.2.1 (d :: ps.toList.map (fun q => q.2)) (gT i.2.2.2.2) && ps.toList.all (fun q => decide ((Int32.ofInt q.1).toInt = q.1)) && (ps.toList.zip (ps.toList.drop 1)).all (fun (a, next) => a.1 < next.1)
  | .getfield x => fLT.any (fun q => q.1 == mi.2.2.2.2.2 && q.2.1 == x && q.2.2.1 == (gF i.2.2.2.2).1 && q.2.2.2.1 == (gF i.2.2.2.2).2.1) && offs (gF i.2.2.2.2).1 (gF i.2.2.2.2).2.1 == (gF i.2.2.2.2).2.2.1 && decide ((gF i.2.2.2.2).1 < 7) && decide ((gF i.2.2.2.2).2.1 < nF (gF i.2.2.2.2).1)
  | .putfield x => fLT.any (fun q => q.1 == mi.2.2.2.2.2 && q.2.1 == x && q.2.2.1 == (gF i.2.2.2.2).1 && q.2.2.2.1 == (gF i.2.2.2.2).2.1) && offs (gF i.2.2.2.2).1 (gF i.2.2.2.2).2.1 == 0 && decide ((gF i.2.2.2.2).1 < 7) && decide ((gF i.2.2.2.2).2.1 < nF (gF i.2.2.2.2).1) && !(Tn (gF i.2.2.2.2).1 (gF i.2.2.2.2).2.1).2.2.2 && decide (parseFieldDescriptor (Tn (gF i.2.2.2.2).1 (gF i.2.2.2.2).2.1).2.2.1 = some (if (gF i.2.2.2.2).2.2.2 then .boolean else .int))
  | .invokevirtual x => mLT.any (fun q => q.1 == mi.2.2.2.2.2 && q.2.1 == x && q.2.2.1 == (gM i.2.2.2.2).1) && mFT.any (fun q => q.1 == (gM i.2.2.2.2).1 && q.2.1 == (gM i.2.2.2.2).2.1 && q.2.2.1 == false) && (mT (gM i.2.2.2.2).1).2.2.2.2.2 == (gM i.2.2.2.2).2.2.2.2 && (mT (gM i.2.2.2.2).1).2.2.2.1.isSome == (gM i.2.2.2.2).2.2.2.1 && decide ((mT (gM i.2.2.2.2).1).2.2.2.2.1 < mi.2.2.2.2.1) && decide ((mT (gM i.2.2.2.2).1).2.2.1 ≤ 23) && decide ((gM i.2.2.2.2).2.2.2.2 < 7)
  | .invokestatic x => if (gM i.2.2.2.2).1 = 900 then cpT.any (fun q => q.1 == mi.2.2.2.2.2 && q.2.1 == x) && decide (1 ≤ mi.2.2.2.2.1)
      else if (gM i.2.2.2.2).1 = 901 then mxT.any (fun q => q.1 == mi.2.2.2.2.2 && q.2.1 == x) && decide (1 ≤ mi.2.2.2.2.1)
      else (mLT.any (fun q => q.1 == mi.2.2.2.2.2 && q.2.1 == x && q.2.2.1 == (gM i.2.2.2.2).1) || mLN.any (fun q => q.1 == mi.2.2.2.2.2 && q.2.1 == x && q.2.2.1 == (gM i.2.2.2.2).1)) && mFT.any (fun q => q.1 == (gM i.2.2.2.2).1 && q.2.1 == (gM i.2.2.2.2).2.1 && q.2.2.1 == true) && (mT (gM i.2.2.2.2).1).2.2.2.1.isSome == (gM i.2.2.2.2).2.2.2.1 && decide ((mT (gM i.2.2.2.2).1).2.2.2.2.1 < mi.2.2.2.2.1) && decide ((mT (gM i.2.2.2.2).1).2.2.1 ≤ 23)
  | _ => true
def okI (mi : MI) (cd : List Ins) (k : Nat) : Bool := match cd[k]? with
  | none => false
  | some i => i.2.1 == k && (match decode mi.2.1 i.2.2.1 with | .ok (j, n) => decide (j = i.1) && (isSw i.1 || n == lnI i.1) | .error _ => false) && (isSw i.1 || (match cd[k + 1]? with | some j => j.2.2.1 == i.2.2.1 + lnI i.1 | none => true)) && okA mi cd i
def okCode (mi : MI) (cd : List Ins) : Bool := (List.range cd.length).all (okI mi cd)
/-! the tables' words, by their places -/
theorem big_at {w : Cond} (i : Nat) (h : lw_tbl[i]? = some w) (g : goodWord w = true) : w ∈ BIG := List.mem_filter.mpr ⟨List.mem_of_getElem? h, g⟩
theorem big_good : ∀ w ∈ BIG, goodWord w = true := fun _ h => (List.mem_filter.mp h).2
theorem fLT_ok : fLT.all (fun q => decide (lw_tbl[q.2.2.2.2]? = some (Cond.fieldLink (Rn q.1) q.2.1 (Tn q.2.2.1 q.2.2.2.1).1 (Tn q.2.2.1 q.2.2.2.1).2.1 (Tn q.2.2.1 q.2.2.2.1).2.2.1))) = true := by decide +kernel
theorem mLT_ok : mLT.all (fun q => decide (lw_tbl[q.2.2.2]? = some (Cond.methodLink (Rn q.1) q.2.1 (mT q.2.2.1).1))) = true := by decide +kernel
theorem mLN_ok : mLN.all (fun q => decide (lw_tbl[q.2.2.2]? = some (Cond.methodLinkNest (Rn q.1) q.2.1 (mT q.2.2.1).1 RX5))) = true := by decide +kernel
theorem cIT_ok : cIT.all (fun q => decide (lw_tbl[q.2.2.2]? = some (Cond.constant (Rn q.1) q.2.1 q.2.2.1))) = true := by decide +kernel
theorem cLT_ok : cLT.all (fun q => decide (lw_tbl[q.2.2.2]? = some (Cond.constantLong (Rn q.1) q.2.1 q.2.2.1))) = true := by decide +kernel
theorem cpT_ok : cpT.all (fun q => decide (lw_tbl[q.2.2]? = some (Cond.methodLink (Rn q.1) q.2.1 arraycopyName))) = true := by decide +kernel
theorem mxT_ok : mxT.all (fun q => decide (lw_tbl[q.2.2]? = some (Cond.methodLink (Rn q.1) q.2.1 Lib.Math.max.name))) = true := by decide +kernel
/-- the facts of a method: code, initialised, static or instance and selected, its class' name, how many arguments -/
def mFq (q : Nat × Nat × Bool × Nat × Nat × Nat × Nat) : Bool :=
  decide ((mT q.1).1.cls = Rn (mT q.1).2.2.2.2.2) && decide (lw_tbl[q.2.2.2.2.1]? = some (Cond.initialized (Rn (mT q.1).2.2.2.2.2))) && (if q.2.2.1 then decide (lw_tbl[q.2.2.2.2.2.1]? = some (Cond.static (mT q.1).1)) else decide (lw_tbl[q.2.2.2.2.2.1]? = some (Cond.instanceMethod (mT q.1).1)) && decide (lw_tbl[q.2.2.2.2.2.2]? = some (Cond.selects (Rn (mT q.1).2.2.2.2.2) (mT q.1).1 (mT q.1).1)))
   && decide ((parseMethodDescriptor (mT q.1).1.desc).map (fun d => d.parameters.length) = some q.2.1)
theorem mFT_ok : mFT.all mFq = true := by decide +kernel
theorem Rn_plain : (List.range 9).all (fun k => decide (Rn k ≠ "java/lang/invoke/MethodHandle" ∧ Rn k ≠ "java/lang/invoke/VarHandle") && plainName (Rn k)) = true := by decide +kernel
theorem mT_own : (List.range 200).all (fun k => decide ((mT k).2.2.2.2.2 < 8)) = true := by decide +kernel
end
section
set_option maxRecDepth 1000000 in
theorem mFT_code : mFT.map (fun q => lw_tbl[q.2.2.2.1]?) = mFT.map (fun q => some (Cond.code (mT q.1).1 (mT q.1).2.1 (mT q.1).2.2.1 (mT q.1).2.2.2.1)) := by rfl
theorem ids_of {k : Nat} (h : clsOf k ≤ 7) : k ∈ idsL := by
  unfold clsOf at h
  split at h <;> first | decide | (exact absurd h (by decide))
theorem ids_nd : idsL.Nodup := by decide +kernel
theorem ids_pos {k : Nat} (h : clsOf k ≤ 7) : ∃ q : Nat, idsL[q]? = some k := List.getElem?_of_mem (ids_of h)
theorem ws_at {cI : ClassId} {ad : Nat → Nat} {σ : St} {q k : Nat} (h : idsL[q]? = some k) : (wsW cI ad σ)[q]? = some (ad k, cellE cI ad σ k) := by
  unfold wsW
  rw [List.getElem?_map, h]
  rfl
theorem cellE_eq {cI : ClassId} {ad : Nat → Nat} {σ σ' : St} {k : Nat} (h : σ' k = σ k) : cellE cI ad σ' k = cellE cI ad σ k := by
  have hf : fv ad σ' k = fv ad σ k := by funext j; simp [fv, h]
  simp [cellE, h, hf]
theorem ws_set {cI : ClassId} {ad : Nat → Nat} {σ σ' : St} {q k : Nat} {e : va_E} (hq : idsL[q]? = some k) (hσ : ∀ k', k' ≠ k → σ' k' = σ k') (he : cellE cI ad σ' k = e) : (wsW cI ad σ).set q (ad k, e) = wsW cI ad σ' := by
  have hql : q < idsL.length := (List.getElem?_eq_some_iff.mp hq).1
  apply List.ext_getElem?
  intro j
  by_cases hj : j = q
  · subst hj
    rw [List.getElem?_set_self (by simpa [wsW] using hql), ws_at hq, he]
  · rw [List.getElem?_set_ne (Ne.symm hj)]
    unfold wsW
    rw [List.getElem?_map, List.getElem?_map]
    cases hk : idsL[j]? with
    | none => rfl
    | some k' =>
      have hne : k' ≠ k := by
        intro h
        subst h
        exact hj ((List.getElem?_inj (List.getElem?_eq_some_iff.mp hk).1 ids_nd).mp (hk.trans hq.symm))
      simp [cellE_eq (hσ k' hne)]
theorem wr_ne {σ : St} {k j : Nat} {v : Int32} : ∀ k', k' ≠ k → wr σ k j v k' = σ k' := fun k' h => by simp [wr, h]
theorem wrR_ne {σ : St} {k : Nat} {f : Nat → Int32} : ∀ k', k' ≠ k → wrR σ k f k' = σ k' := fun k' h => by simp [wrR, h]
theorem cell_obj {cI : ClassId} {ad : Nat → Nat} {σ : St} {k ci : Nat} (h : clsOf k = ci) (hc : ci < 7) : cellE cI ad σ k = .inr (ci, (List.range (nF ci)).map (fv ad σ k)) := by
  subst h
  simp [cellE, hc]
theorem cell_arr {cI : ClassId} {ad : Nat → Nat} {σ : St} {k : Nat} (h : clsOf k = 7) : cellE cI ad σ k = .inl (cI, lenOf k, .inl (σ k)) := by
  simp [cellE, h]
/-- the addresses don't move -/
theorem wsD {A B : Nat → Prop} {cI : ClassId} {ad : Nat → Nat} {σ σ' : St} (h : va_D A (wsW cI ad σ)) (hB : ∀ (k : Nat) (q : Nat × va_E), (wsW cI ad σ)[k]? = some q → B q.1) : va_D B (wsW cI ad σ') := by
  have key : ∀ (i : Nat) (x : Nat × va_E), (wsW cI ad σ')[i]? = some x → ∃ y, (wsW cI ad σ)[i]? = some y ∧ y.1 = x.1 := by
    intro i x hx
    unfold wsW at hx ⊢
    rw [List.getElem?_map] at hx ⊢
    cases hk : idsL[i]? with
    | none => rw [hk] at hx; cases hx
    | some k => rw [hk] at hx; cases hx; exact ⟨_, rfl, rfl⟩
  refine ⟨fun i j x y hi hj hxy => ?_, fun i x hi => ?_⟩
  · obtain ⟨x', h1, h2⟩ := key i x hi
    obtain ⟨y', h3, h4⟩ := key j y hj
    exact h.1 i j x' y' h1 h3 (h2.trans (hxy.trans h4.symm))
  · obtain ⟨x', h1, h2⟩ := key i x hi
    rw [← h2]
    exact hB i x' h1
/-! locals -/
def LsOk (ls : Array Slot) (nL : Nat) (ad : Nat → Nat) (L : List Value) : Prop := ls.size = nL ∧ lv_wf ls ∧ L.length = nL ∧ ∀ (i : Nat) (v : Value), L[i]? = some v → v ≠ .null → ls[i]? = some (.val (cv ad v))
def toL (ad : Nat → Nat) (L : List Value) : List (Nat × Value) := (List.range L.length).filterMap (fun i => if L.getD i .null = .null then none else some (i, cv ad (L.getD i .null)))
theorem getD_some {L : List Value} {k : Nat} {v : Value} (h : L.getD k .null = v) (hv : v ≠ .null) : L[k]? = some v := by
  rw [List.getD_eq_getElem?_getD] at h
  cases hk : L[k]? with
  | none => rw [hk] at h; exact absurd h.symm hv
  | some w => rw [hk] at h; simpa using h
theorem LsOk.get {ls : Array Slot} {nL : Nat} {ad : Nat → Nat} {L : List Value} (h : LsOk ls nL ad L) {k : Nat} {v : Value} (hk : L.getD k .null = v) (hv : v ≠ .null) : ls[k]? = some (.val (cv ad v)) := h.2.2.2 k v (getD_some hk hv) hv
theorem toL_mem {ad : Nat → Nat} {L : List Value} {i : Nat} {v : Value} (h : L[i]? = some v) (hv : v ≠ .null) : (i, cv ad v) ∈ toL ad L := by
  have hl := (List.getElem?_eq_some_iff.mp h).1
  have hg : L.getD i .null = v := by rw [List.getD_eq_getElem?_getD, h]; rfl
  exact List.mem_filterMap.mpr ⟨i, List.mem_range.mpr hl, by rw [hg, if_neg hv]⟩
theorem LsOk.lv {ls : Array Slot} {nL : Nat} {ad : Nat → Nat} {L : List Value} (h : LsOk ls nL ad L) : lv_has ls nL (toL ad L) := by
  refine ⟨h.1, h.2.1, fun q hq => ?_⟩
  obtain ⟨i, -, hi⟩ := List.mem_filterMap.mp hq
  by_cases hn : L.getD i .null = .null
  · rw [if_pos hn] at hi; cases hi
  · rw [if_neg hn] at hi
    cases hi
    exact h.get rfl hn
theorem cv_cat {ad : Nat → Nat} (v : Value) : (cv ad v).category = v.category := by cases v <;> rfl
theorem LsOk.set {ls ls' : Array Slot} {nL : Nat} {ad : Nat → Nat} {L : List Value} {k : Nat} {x : Int32} (h : LsOk ls nL ad L) (hb : lngB L k = false) (h' : lv_has ls' nL ((k, Value.int x) :: (toL ad L).filter (fun q => !(q.1 == k) && !(q.1 + 1 == k && q.2.category == 2)))) : LsOk ls' nL ad (L.set k (.int x)) := by
  refine ⟨h'.1, h'.2.1, by rw [List.length_set]; exact h.2.2.1, fun i v hi hv => ?_⟩
  by_cases hik : i = k
  · subst hik
    have hl : i < L.length := by
      have := (List.getElem?_eq_some_iff.mp hi).1
      rwa [List.length_set] at this
    rw [List.getElem?_set_self hl] at hi
    cases hi
    exact h'.2.2 (i, .int x) List.mem_cons_self
  · rw [List.getElem?_set_ne (Ne.symm hik)] at hi
    refine h'.2.2 (i, cv ad v) (List.mem_cons_of_mem _ (List.mem_filter.mpr ⟨toL_mem hi hv, ?_⟩))
    simp only [Bool.and_eq_true, Bool.not_eq_true', beq_eq_false_iff_ne, Bool.and_eq_false_iff, cv_cat]
    refine ⟨hik, ?_⟩
    by_cases h1 : i + 1 = k
    · right
      subst h1
      have hg : L.getD i .null = v := by rw [List.getD_eq_getElem?_getD, hi]; rfl
      unfold lngB lng at hb
      dsimp only at hb
      rw [hg] at hb
      simpa using hb
    · left
      exact h1
end
section
theorem cl_at {ci : Nat} (h : ci < 7) : vwCl[ci]? = some (Rn ci, Tn ci, nF ci) := by
  rcases (show ci = 0 ∨ ci = 1 ∨ ci = 2 ∨ ci = 3 ∨ ci = 4 ∨ ci = 5 ∨ ci = 6 by omega) with rfl | rfl | rfl | rfl | rfl | rfl | rfl <;> rfl
theorem cl_in {ci : Nat} (h : ci < 7) : ∀ w ∈ u_ws (Rn ci) (Tn ci) (nF ci), w ∈ BIG := by
  intro w hw
  rcases (show ci = 0 ∨ ci = 1 ∨ ci = 2 ∨ ci = 3 ∨ ci = 4 ∨ ci = 5 ∨ ci = 6 by omega) with rfl | rfl | rfl | rfl | rfl | rfl | rfl
  · exact List.mem_filter.mpr ⟨in_X0 w hw, ig_X0 w hw⟩
  · exact List.mem_filter.mpr ⟨in_X1 w hw, ig_X1 w hw⟩
  · exact List.mem_filter.mpr ⟨in_X2 w hw, ig_X2 w hw⟩
  · exact List.mem_filter.mpr ⟨in_X3 w hw, ig_X3 w hw⟩
  · exact List.mem_filter.mpr ⟨in_X4 w hw, ig_X4 w hw⟩
  · exact List.mem_filter.mpr ⟨in_X5 w hw, ig_X5 w hw⟩
  · exact List.mem_filter.mpr ⟨in_X6 w hw, ig_X6 w hw⟩
theorem cl_ty {ci : Nat} (h : ci < 7) : ∀ k, k < nF ci → parseFieldDescriptor (Tn ci k).2.2.1 = some (tyn ci k) := by
  rcases (show ci = 0 ∨ ci = 1 ∨ ci = 2 ∨ ci = 3 ∨ ci = 4 ∨ ci = 5 ∨ ci = 6 by omega) with rfl | rfl | rfl | rfl | rfl | rfl | rfl
  · exact tyX0_ok
  · exact tyX1_ok
  · exact tyX2_ok
  · exact tyX3_ok
  · exact tyX4_ok
  · exact tyX5_ok
  · exact tyX6_ok
theorem cl_nm {ci : Nat} (h : ci < 7) : ∀ a, a < nF ci → ∀ b, b < nF ci → a ≠ b → (Tn ci a).2.1 ≠ (Tn ci b).2.1 := by
  rcases (show ci = 0 ∨ ci = 1 ∨ ci = 2 ∨ ci = 3 ∨ ci = 4 ∨ ci = 5 ∨ ci = 6 by omega) with rfl | rfl | rfl | rfl | rfl | rfl | rfl
  · exact nmX0
  · exact nmX1
  · exact nmX2
  · exact nmX3
  · exact nmX4
  · exact nmX5
  · exact nmX6
theorem fl_big {own x ci j : Nat} (h : fLT.any (fun q => q.1 == own && q.2.1 == x && q.2.2.1 == ci && q.2.2.2.1 == j) = true) : Cond.fieldLink (Rn own) x (Tn ci j).1 (Tn ci j).2.1 (Tn ci j).2.2.1 ∈ BIG := by
  obtain ⟨q, hq, h2⟩ := List.any_eq_true.mp h
  simp only [Bool.and_eq_true, beq_iff_eq] at h2
  obtain ⟨⟨⟨rfl, rfl⟩, rfl⟩, rfl⟩ := h2
  exact big_at _ (of_decide_eq_true (List.all_eq_true.mp fLT_ok q hq)) rfl
theorem ml_big {own x k : Nat} (h : mLT.any (fun q => q.1 == own && q.2.1 == x && q.2.2.1 == k) = true) : Cond.methodLink (Rn own) x (mT k).1 ∈ BIG := by
  obtain ⟨q, hq, h2⟩ := List.any_eq_true.mp h
  simp only [Bool.and_eq_true, beq_iff_eq] at h2
  obtain ⟨⟨rfl, rfl⟩, rfl⟩ := h2
  exact big_at _ (of_decide_eq_true (List.all_eq_true.mp mLT_ok q hq)) rfl
theorem mn_nest {own x k : Nat} (h : mLN.any (fun q => q.1 == own && q.2.1 == x && q.2.2.1 == k) = true) : Cond.methodLinkNest (Rn own) x (mT k).1 RX5 ∈ nestL := by
  obtain ⟨q, hq, h2⟩ := List.any_eq_true.mp h
  simp only [Bool.and_eq_true, beq_iff_eq] at h2
  obtain ⟨⟨rfl, rfl⟩, rfl⟩ := h2
  exact List.mem_map.mpr ⟨q, hq, rfl⟩
theorem ci_big {own x : Nat} {v : Int32} (h : cIT.any (fun q => q.1 == own && q.2.1 == x && decide (q.2.2.1 = v)) = true) : Cond.constant (Rn own) x v ∈ BIG := by
  obtain ⟨q, hq, h2⟩ := List.any_eq_true.mp h
  simp only [Bool.and_eq_true, beq_iff_eq, decide_eq_true_eq] at h2
  obtain ⟨⟨rfl, rfl⟩, rfl⟩ := h2
  exact big_at _ (of_decide_eq_true (List.all_eq_true.mp cIT_ok q hq)) rfl
theorem cl_big {own x : Nat} {v : Int64} (h : cLT.any (fun q => q.1 == own && q.2.1 == x && decide (q.2.2.1 = v)) = true) : Cond.constantLong (Rn own) x v ∈ BIG := by
  obtain ⟨q, hq, h2⟩ := List.any_eq_true.mp h
  simp only [Bool.and_eq_true, beq_iff_eq, decide_eq_true_eq] at h2
  obtain ⟨⟨rfl, rfl⟩, rfl⟩ := h2
  exact big_at _ (of_decide_eq_true (List.all_eq_true.mp cLT_ok q hq)) rfl
theorem cp_big {own x : Nat} (h : cpT.any (fun q => q.1 == own && q.2.1 == x) = true) : Cond.methodLink (Rn own) x arraycopyName ∈ BIG := by
  obtain ⟨q, hq, h2⟩ := List.any_eq_true.mp h
  simp only [Bool.and_eq_true, beq_iff_eq] at h2
  obtain ⟨rfl, rfl⟩ := h2
  exact big_at _ (of_decide_eq_true (List.all_eq_true.mp cpT_ok q hq)) rfl
theorem mx_big {own x : Nat} (h : mxT.any (fun q => q.1 == own && q.2.1 == x) = true) : Cond.methodLink (Rn own) x Lib.Math.max.name ∈ BIG := by
  obtain ⟨q, hq, h2⟩ := List.any_eq_true.mp h
  simp only [Bool.and_eq_true, beq_iff_eq] at h2
  obtain ⟨rfl, rfl⟩ := h2
  exact big_at _ (of_decide_eq_true (List.all_eq_true.mp mxT_ok q hq)) rfl
theorem bg_copy : Cond.native arraycopyName ∈ BIG ∧ Cond.static arraycopyName ∈ BIG ∧ Cond.initialized "java/lang/System" ∈ BIG := by
  refine ⟨List.mem_filter.mpr ⟨by decide +kernel, rfl⟩, List.mem_filter.mpr ⟨by decide +kernel, rfl⟩, List.mem_filter.mpr ⟨by decide +kernel, rfl⟩⟩
theorem bg_max : Cond.static Lib.Math.max.name ∈ BIG ∧ Cond.initialized "java/lang/Math" ∈ BIG := by
  refine ⟨List.mem_filter.mpr ⟨by decide +kernel, rfl⟩, List.mem_filter.mpr ⟨by decide +kernel, rfl⟩⟩
theorem mf_code {q : Nat × Nat × Bool × Nat × Nat × Nat × Nat} (hq : q ∈ mFT) : Cond.code (mT q.1).1 (mT q.1).2.1 (mT q.1).2.2.1 (mT q.1).2.2.2.1 ∈ BIG := by
  obtain ⟨i, hi⟩ := List.getElem?_of_mem hq
  have h := congrArg (fun z => z[i]?) mFT_code
  simp only [List.getElem?_map, hi, Option.map_some, Option.some.injEq] at h
  exact big_at _ h rfl
/-- what is known of a method that is called: k, how many arguments, static or not -/
theorem mf_all {k n : Nat} {st : Bool} (h : mFT.any (fun q => q.1 == k && q.2.1 == n && q.2.2.1 == st) = true) :
    Cond.code (mT k).1 (mT k).2.1 (mT k).2.2.1 (mT k).2.2.2.1 ∈ BIG ∧ Cond.initialized (mT k).1.cls ∈ BIG ∧ (mT k).1.cls = Rn (mT k).2.2.2.2.2 ∧ (parseMethodDescriptor (mT k).1.desc).map (fun d => d.parameters.length) = some n ∧ (if st then Cond.static (mT k).1 ∈ BIG else Cond.instanceMethod (mT k).1 ∈ BIG ∧ Cond.selects (Rn (mT k).2.2.2.2.2) (mT k).1 (mT k).1 ∈ BIG) := by
  obtain ⟨q, hq, h2⟩ := List.any_eq_true.mp h
  simp only [Bool.and_eq_true, beq_iff_eq] at h2
  obtain ⟨⟨rfl, rfl⟩, rfl⟩ := h2
  have hc := mf_code hq
  have hf := List.all_eq_true.mp mFT_ok q hq
  unfold mFq at hf
  simp only [Bool.and_eq_true, decide_eq_true_eq] at hf
  obtain ⟨⟨⟨h1, h2⟩, h3⟩, h4⟩ := hf
  refine ⟨hc, by rw [h1]; exact big_at _ h2 rfl, h1, h4, ?_⟩
  cases hs : q.2.2.1 with
  | true =>
    rw [hs] at h3
    simp only [if_true, decide_eq_true_eq] at h3 ⊢
    exact big_at _ h3 rfl
  | false =>
    rw [hs] at h3
    simp only [Bool.false_eq_true, if_false, Bool.and_eq_true, decide_eq_true_eq] at h3 ⊢
    exact ⟨big_at _ h3.1 rfl, big_at _ h3.2 rfl⟩
theorem good_big {y : MethodName} {b : ByteArray} {n : Nat} {rt : Option FieldType} (h : Cond.code y b n rt ∈ BIG) : GoodIn BIG (.code y b n rt :: BIG) := by
  intro w hw
  rcases List.mem_cons.mp hw with rfl | hw
  · exact ⟨h, Or.inl rfl⟩
  · exact ⟨hw, good_of_word (big_good w hw)⟩
theorem nest_on {w : Cond} (h : w ∈ nestL) : w.onTables = true := by
  obtain ⟨q, -, rfl⟩ := List.mem_map.mp h
  rfl
theorem Wd.warm {D : va_G} {cI : ClassId} {s U : State} (hW : s.WarmedH U.vm) (h : Wd D cI s) : Wd D cI U := by
  refine ⟨va_K.moved hW.alike h.1, fun w hw => ?_⟩
  have h2 := h.2 w hw
  obtain ⟨q, -, rfl⟩ := List.mem_map.mp hw
  exact va_Nw.warmM hW h2
theorem Wd.same {D : va_G} {cI : ClassId} {s U : State} (hv : s.vm = U.vm) (h : Wd D cI s) : Wd D cI U :=
  ⟨va_K.moved (by rw [hv]; exact Vm.Alike.refl _) h.1, fun w hw => va_Nw.same (nest_on hw) hv (h.2 w hw)⟩
theorem Pw_blind (D : va_G) (cI : ClassId) (ad : Nat → Nat) (σ : St) (sz : Nat) (av : List Value) : FrameBlind (va_Pc av (Pw D cI ad σ sz)) :=
  fun a U g mk q => ⟨q.1, q.2.1, q.2.2.1, Wd.same (s := U) (U := U.calling g mk a) rfl q.2.2.2.1, q.2.2.2.2⟩
end
section
/-! one instruction of the walk, over the machine -/
def Cx (p : Program) (R : Room) (s : State) (m : MethodId) (args : Array Value) (meth : Method) (c : Code) (D : va_G) (cI : ClassId) (A : Nat → Prop) (mi : MI) : Prop :=
  p.tables.exec = Jvm.exec ∧ c.code = mi.2.1 ∧ c.maxLocals = mi.2.2.1 ∧ meth.sig.returnType = mi.2.2.2.1 ∧ meth.locks = false ∧ s.vm.findClass (Rn mi.2.2.2.2.2) = some m.cls ∧ (∀ w ∈ BIG, w.before args s = true) ∧ Wd D cI s ∧ R = rmL mi.2.2.2.2.1 ∧ (∀ q, s.heap.size ≤ q → A q)
section SM
variable (l : Launch) (p : Program) (e : Env) (R : Room) (s : State) (m : MethodId) (args : Array Value) (below : List Frame) (meth : Method) (c : Code) (D : va_G) (cI : ClassId) (ad : Nat → Nat) (A : Nat → Prop) (mi : MI) (Q : Int32 → St → Prop)
def Sm (pc : Nat) (L S : List Value) (σ : St) : Prop := ∀ (H : Heap) (locs : List Loc) (ls : Array Slot), va_P D vwCl (wsW cI ad σ) H → va_D A (wsW cI ad σ) → va_S A s.heap H locs → LsOk ls mi.2.2.1 ad L →
  W p l e R s m args below meth c H locs 0 0 (MQ below (Qc mi.2.2.2.1 Q D cI ad A) args s 0 0 A) (F0 m pc ls (S.map (cv ad)))
end SM
/-- the place k of the list cd, over every machine that runs the method -/
def V (l : Launch) (mi : MI) (cd : List Ins) (k : Nat) (L S : List Value) (σ : St) (Q : Int32 → St → Prop) : Prop :=
  ∀ (p : Program) (e : Env) (R : Room) (s : State) (m : MethodId) (args : Array Value) (below : List Frame) (meth : Method) (c : Code) (D : va_G) (cI : ClassId) (ad : Nat → Nat) (A : Nat → Prop), Cx p R s m args meth c D cI A mi → Sm l p e R s m args below meth c D cI ad A mi Q (pcA cd k) L S σ
section Snd
variable {l : Launch} {p : Program} {e : Env} {R : Room} {s : State} {m : MethodId} {args : Array Value} {below : List Frame} {meth : Method} {c : Code} {D : va_G} {cI : ClassId} {ad : Nat → Nat} {A : Nat → Prop} {mi : MI} {Q : Int32 → St → Prop}
theorem sum_le (S : List Value) : ∀ (ad : Nat → Nat), ((S.map (cv ad)).map fun v => v.category).sum ≤ 2 * S.length := by
  intro ad
  induction S with
  | nil => simp
  | cons v r ih =>
    have : (cv ad v).category ≤ 2 := by cases v <;> simp [cv, Value.category]
    simp only [List.map_cons, List.sum_cons, List.length_cons]
    omega
theorem sm_call {pc : Nat} {L S S' : List Value} {σ : St} {k : Nat} {as : List Value} {K : Int32 → St → Prop} (hC : Cx p R s m args meth c D cI A mi)
    (hrun : ∀ (H : Heap) (locs : List Loc) (ls : Array Slot), va_P D vwCl (wsW cI ad σ) H → va_D A (wsW cI ad σ) → LsOk ls mi.2.2.1 ad L → ∀ (Pc : Array Value → State → Prop) (Qq : Array Value → State → Outcome → State → Prop) (free : Addr → Prop), Met l (mT k).1 (.code (mT k).1 (mT k).2.1 (mT k).2.2.1 (mT k).2.2.2.1 :: BIG) (rmL (mT k).2.2.2.2.1) Pc Qq 0 0 free → FrameBlind Pc → (∀ U : State, U.heap = H → s.WarmedH U.vm → Pc (as.map (cv ad)).toArray U) →
      va_Run p l e R s m args below meth c H locs 0 0 0 0 (F0 m pc ls (S.map (cv ad))) (S'.map (cv ad)) (Qq (as.map (cv ad)).toArray) free)
    (hcall : CallAt l k as σ K) (hk : ∀ r σ', K r σ' → Sm l p e R s m args below meth c D cI ad A mi Q (pc + 3) L (if (mT k).2.2.2.1.isSome then .int r :: S' else S') σ') : Sm l p e R s m args below meth c D cI ad A mi Q pc L S σ := by
  obtain ⟨-, -, -, -, -, -, -, hWd, -, hA⟩ := hC
  obtain ⟨Sp, hM, hS⟩ := hcall
  intro H locs ls hP hD hS0 hl
  have hM := hM D cI ad σ as K H.size hS
  have hA1 : ∀ q, va_A (wsW cI ad σ) H.size q → A q := by
    rintro q (⟨j, e, hj⟩ | hq)
    · exact hD.2 j (q, e) hj
    · exact hA q (Nat.le_trans hS0.1 hq)
  have hr := hrun H locs ls hP hD hl _ _ _ hM (Pw_blind D cI ad σ H.size _) (fun U hU hW => ⟨rfl, by rw [hU], by rw [hU]; exact hP, hWd.warm hW, hD.weaken (fun _ _ _ _ => trivial)⟩)
  cases hrt : (mT k).2.2.2.1 with
  | none =>
    rw [hrt] at hr hk
    refine va_callv (a := (as.map (cv ad)).toArray) (A0 := A) (A1 := va_A (wsW cI ad σ) H.size) hr hS0 (fun q _ h => hA1 q h) hA1 (fun σ' t H1 locs1 ht _ hw hB _ _ hS1 => ?_)
    obtain ⟨hP1, -, hD1⟩ := hB
    rw [ht] at hP1
    exact hk 0 σ' hw H1 locs1 ls hP1 (hD1.weaken (fun _ _ _ h => hA1 _ h)) hS1 hl
  | some ty =>
    rw [hrt] at hr hk
    refine va_calli (a := (as.map (cv ad)).toArray) (A0 := A) (A1 := va_A (wsW cI ad σ) H.size) hr hS0 (fun q _ h => hA1 q h) hA1 (fun r σ' t H1 locs1 ht _ hw hB _ _ hS1 => ?_)
    obtain ⟨hP1, -, hD1⟩ := hB
    rw [ht] at hP1
    exact hk r σ' hw H1 locs1 ls hP1 (hD1.weaken (fun _ _ _ h => hA1 _ h)) hS1 hl
theorem room_ok {k : Nat} (hlev : (mT k).2.2.2.2.1 < mi.2.2.2.2.1) (hL : (mT k).2.2.1 ≤ 23) : (rmL (mT k).2.2.2.2.1).frames + 1 ≤ (rmL mi.2.2.2.2.1).frames ∧ 8 + ((mT k).2.2.1 + 11) + (rmL (mT k).2.2.2.2.1).locals ≤ (rmL mi.2.2.2.2.1).locals := by
  simp only [rmL]
  omega
theorem mh_ne {k : Nat} (h : (mT k).1.cls = Rn (mT k).2.2.2.2.2) (hk : (mT k).2.2.2.2.2 < 9) : (mT k).1.cls ≠ "java/lang/invoke/MethodHandle" ∧ (mT k).1.cls ≠ "java/lang/invoke/VarHandle" := by
  have h2 := List.all_eq_true.mp Rn_plain _ (List.mem_range.mpr hk)
  simp only [Bool.and_eq_true, decide_eq_true_eq] at h2
  rw [h]
  exact h2.1
theorem mF_own : mFT.all (fun q => decide ((mT q.1).2.2.2.2.2 < 9)) = true := by decide +kernel
theorem mT_lt {k n : Nat} {st : Bool} (h : mFT.any (fun q => q.1 == k && q.2.1 == n && q.2.2.1 == st) = true) : (mT k).2.2.2.2.2 < 9 := by
  obtain ⟨q, hq, h2⟩ := List.any_eq_true.mp h
  simp only [Bool.and_eq_true, beq_iff_eq] at h2
  obtain ⟨⟨rfl, rfl⟩, rfl⟩ := h2
  exact of_decide_eq_true (List.all_eq_true.mp mF_own q hq)
theorem sm_virtual {pc x k n : Nat} {L S S' : List Value} {σ : St} {b : Nat} {K : Int32 → St → Prop} (hC : Cx p R s m args meth c D cI A mi) (hd : decode mi.2.1 pc = .ok (.invokevirtual x, 3))
    (hml : mLT.any (fun q => q.1 == mi.2.2.2.2.2 && q.2.1 == x && q.2.2.1 == k) = true) (hmf : mFT.any (fun q => q.1 == k && q.2.1 == n && q.2.2.1 == false) = true) (hlev : (mT k).2.2.2.2.1 < mi.2.2.2.2.1) (hL : (mT k).2.2.1 ≤ 23) (hci : (mT k).2.2.2.2.2 < 7)
    (hst : S.drop n = .ref b :: S') (hb : clsOf b = (mT k).2.2.2.2.2) (hlen : S'.length ≤ 4) (hcall : CallAt l k (.ref b :: (S.take n).reverse) σ K)
    (hk : ∀ r σ', K r σ' → Sm l p e R s m args below meth c D cI ad A mi Q (pc + 3) L (if (mT k).2.2.2.1.isSome then .int r :: S' else S') σ') : Sm l p e R s m args below meth c D cI ad A mi Q pc L S σ := by
  refine sm_call hC (fun H locs ls hP hD hl Pc Qq free hM hblind hPc => ?_) hcall hk
  obtain ⟨hx, hbb, hmx, -, -, hown, hts, hWd, hR, -⟩ := hC
  obtain ⟨h1, h2, h3, h4, h5⟩ := mf_all hmf
  simp only [Bool.false_eq_true, if_false] at h5
  have hnl : n ≤ S.length := by
    rcases Nat.lt_or_ge S.length n with q | q
    · rw [List.drop_eq_nil_of_le (Nat.le_of_lt q)] at hst; cases hst
    · exact q
  have hSe : S = S.take n ++ (.ref b :: S') := by rw [← hst, List.take_append_drop]
  have hstack : S.map (cv ad) = (((S.take n).reverse).map (cv ad)).reverse ++ (Value.ref (ad b) :: S'.map (cv ad)) := by
    rw [← List.map_reverse, List.reverse_reverse]
    conv => lhs; rw [hSe]
    rw [List.map_append]
    rfl
  have hcw : CallW R s args (Rn mi.2.2.2.2.2) (Rn (mT k).2.2.2.2.2) x (mT k).1 (mT k).2.1 (mT k).2.2.1 (mT k).2.2.2.1 (.code (mT k).1 (mT k).2.1 (mT k).2.2.1 (mT k).2.2.2.1 :: BIG) (rmL (mT k).2.2.2.2.1) 0 0 n := by
    refine ⟨callB_of n hts (good_big h1) rfl rfl rfl (hts _ h2) (hts _ (ml_big hml)) ⟨(mh_ne h3 (mT_lt hmf)).1, (mh_ne h3 (mT_lt hmf)).2, h4⟩ (by rw [hR]; exact room_ok hlev hL), hts _ h5.1, hts _ h5.2⟩
  obtain ⟨q0, hq0⟩ := ids_pos (k := b) (by omega)
  have hat := ws_at (cI := cI) (ad := ad) (σ := σ) hq0
  rw [cell_obj hb hci] at hat
  exact va_runV (As := ((S.take n).reverse).map (cv ad)) (rest := S'.map (cv ad)) ⟨hx, hbb, hmx, hown, hts⟩ hM hcw ⟨hblind, va_recv hWd.1 hP (cl_at hci) hat, hPc⟩ rfl (by simp [hnl]) hl.1 hstack (lv_room (Nat.le_trans (sum_le S' ad) (by omega))) hd ⟨Nat.zero_le _, Nat.zero_le _⟩
theorem sm_static {pc x k n : Nat} {L S : List Value} {σ : St} {K : Int32 → St → Prop} (hC : Cx p R s m args meth c D cI A mi) (hd : decode mi.2.1 pc = .ok (.invokestatic x, 3))
    (hml : mLT.any (fun q => q.1 == mi.2.2.2.2.2 && q.2.1 == x && q.2.2.1 == k) = true ∨ mLN.any (fun q => q.1 == mi.2.2.2.2.2 && q.2.1 == x && q.2.2.1 == k) = true) (hmf : mFT.any (fun q => q.1 == k && q.2.1 == n && q.2.2.1 == true) = true) (hlev : (mT k).2.2.2.2.1 < mi.2.2.2.2.1) (hL : (mT k).2.2.1 ≤ 23)
    (hnl : (S.take n).length = n) (hlen : (S.drop n).length ≤ 4) (hcall : CallAt l k ((S.take n).reverse) σ K)
    (hk : ∀ r σ', K r σ' → Sm l p e R s m args below meth c D cI ad A mi Q (pc + 3) L (if (mT k).2.2.2.1.isSome then .int r :: S.drop n else S.drop n) σ') : Sm l p e R s m args below meth c D cI ad A mi Q pc L S σ := by
  refine sm_call hC (fun H locs ls hP hD hl Pc Qq free hM hblind hPc => ?_) hcall hk
  obtain ⟨hx, hbb, hmx, -, -, hown, hts, hWd, hR, -⟩ := hC
  obtain ⟨h1, h2, h3, h4, h5⟩ := mf_all hmf
  simp only [if_true] at h5
  have hstack : S.map (cv ad) = (((S.take n).reverse).map (cv ad)).reverse ++ ((S.drop n).map (cv ad)) := by
    rw [← List.map_reverse, List.reverse_reverse, ← List.map_append, List.take_append_drop]
  rcases hml with hml | hml
  · exact va_runS (As := ((S.take n).reverse).map (cv ad)) (rest := (S.drop n).map (cv ad)) ⟨hx, hbb, hmx, hown, hts⟩ hM ⟨callB_of n hts (good_big h1) rfl rfl rfl (hts _ h2) (hts _ (ml_big hml)) ⟨(mh_ne h3 (mT_lt hmf)).1, (mh_ne h3 (mT_lt hmf)).2, h4⟩ (by rw [hR]; exact room_ok hlev hL), hts _ h5⟩ ⟨hblind, hPc⟩ rfl (by simpa using hnl) hl.1 hstack (lv_room (Nat.le_trans (sum_le _ ad) (by omega))) hd ⟨Nat.zero_le _, Nat.zero_le _⟩
  · exact va_runSN (host := RX5) (As := ((S.take n).reverse).map (cv ad)) (rest := (S.drop n).map (cv ad)) ⟨hx, hbb, hmx, hown, hts⟩ hM ⟨va_cnB n hts (good_big h1) rfl rfl rfl (hWd.2 _ (mn_nest hml)) (hts _ h2) ⟨(mh_ne h3 (mT_lt hmf)).1, (mh_ne h3 (mT_lt hmf)).2, h4⟩ (by rw [hR]; exact room_ok hlev hL), hts _ h5, trivial⟩ ⟨hblind, hPc⟩ rfl (by simpa using hnl) hl.1 hstack (lv_room (Nat.le_trans (sum_le _ ad) (by omega))) hd ⟨Nat.zero_le _, Nat.zero_le _⟩
end Snd
end
