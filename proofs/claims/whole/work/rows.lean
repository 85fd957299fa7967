section
-- ===== PART A: goes FIRST, ahead of the names: the tables' words, and 'selects' of the private methods out of them =====
/-- a private method of a class that the tables say can be made, by its rows of tables_1 -/
def lw_okq (q : MethodName × Nat) : Prop := (q.1.cls ≠ "java/lang/invoke/MethodHandle" ∧ q.1.cls ≠ "java/lang/invoke/VarHandle") ∧ Cond.instantiable q.1.cls q.2 ∈ tables_1 ∧ Cond.privateMethod q.1 ∈ tables_1 ∧ Cond.instanceMethod q.1 ∈ tables_1
theorem lw_p0 : lw_okq (⟨"ChannelBorrower$Layout", "placeCells", "(II)V"⟩, 8) := ⟨⟨by decide +kernel, by decide +kernel⟩, List.mem_of_getElem? (i := 20) (by decide +kernel), List.mem_of_getElem? (i := 26) (by decide +kernel), List.mem_of_getElem? (i := 27) (by decide +kernel)⟩
theorem lw_p1 : lw_okq (⟨"ChannelBorrower$Layout", "channelsOfGroup", "(II)I"⟩, 8) := ⟨⟨by decide +kernel, by decide +kernel⟩, List.mem_of_getElem? (i := 20) (by decide +kernel), List.mem_of_getElem? (i := 30) (by decide +kernel), List.mem_of_getElem? (i := 31) (by decide +kernel)⟩
theorem lw_p2 : lw_okq (⟨"ChannelBorrower$Layout", "cellsWithin", "(II)I"⟩, 8) := ⟨⟨by decide +kernel, by decide +kernel⟩, List.mem_of_getElem? (i := 20) (by decide +kernel), List.mem_of_getElem? (i := 34) (by decide +kernel), List.mem_of_getElem? (i := 35) (by decide +kernel)⟩
theorem lw_p3 : lw_okq (⟨"ChannelBorrower$History", "newestState", "()LChannelBorrower$Network;"⟩, 3) := ⟨⟨by decide +kernel, by decide +kernel⟩, List.mem_of_getElem? (i := 153) (by decide +kernel), List.mem_of_getElem? (i := 231) (by decide +kernel), List.mem_of_getElem? (i := 232) (by decide +kernel)⟩
theorem lw_p4 : lw_okq (⟨"ChannelBorrower$Network", "nextToReturn", "()I"⟩, 15) := ⟨⟨by decide +kernel, by decide +kernel⟩, List.mem_of_getElem? (i := 83) (by decide +kernel), List.mem_of_getElem? (i := 263) (by decide +kernel), List.mem_of_getElem? (i := 264) (by decide +kernel)⟩
theorem lw_p5 : lw_okq (⟨"ChannelBorrower$Network", "lowestOf", "(I)I"⟩, 15) := ⟨⟨by decide +kernel, by decide +kernel⟩, List.mem_of_getElem? (i := 83) (by decide +kernel), List.mem_of_getElem? (i := 316) (by decide +kernel), List.mem_of_getElem? (i := 317) (by decide +kernel)⟩
theorem lw_p6 : lw_okq (⟨"ChannelBorrower$Network", "release", "(I)V"⟩, 15) := ⟨⟨by decide +kernel, by decide +kernel⟩, List.mem_of_getElem? (i := 83) (by decide +kernel), List.mem_of_getElem? (i := 320) (by decide +kernel), List.mem_of_getElem? (i := 321) (by decide +kernel)⟩
theorem lw_p7 : lw_okq (⟨"ChannelBorrower$Network", "occupy", "(II)V"⟩, 15) := ⟨⟨by decide +kernel, by decide +kernel⟩, List.mem_of_getElem? (i := 83) (by decide +kernel), List.mem_of_getElem? (i := 325) (by decide +kernel), List.mem_of_getElem? (i := 326) (by decide +kernel)⟩
theorem lw_p8 : lw_okq (⟨"ChannelBorrower", "isCell", "(I)Z"⟩, 4) := ⟨⟨by decide +kernel, by decide +kernel⟩, List.mem_of_getElem? (i := 12) (by decide +kernel), List.mem_of_getElem? (i := 342) (by decide +kernel), List.mem_of_getElem? (i := 343) (by decide +kernel)⟩
theorem lw_p9 : lw_okq (⟨"ChannelBorrower$Network", "lowestFreeNumber", "()I"⟩, 15) := ⟨⟨by decide +kernel, by decide +kernel⟩, List.mem_of_getElem? (i := 83) (by decide +kernel), List.mem_of_getElem? (i := 364) (by decide +kernel), List.mem_of_getElem? (i := 365) (by decide +kernel)⟩
theorem lw_p10 : lw_okq (⟨"ChannelBorrower$Network", "bestDonor", "(II)I"⟩, 15) := ⟨⟨by decide +kernel, by decide +kernel⟩, List.mem_of_getElem? (i := 83) (by decide +kernel), List.mem_of_getElem? (i := 376) (by decide +kernel), List.mem_of_getElem? (i := 377) (by decide +kernel)⟩
theorem lw_p11 : lw_okq (⟨"ChannelBorrower$Network", "rankOf", "(III)I"⟩, 15) := ⟨⟨by decide +kernel, by decide +kernel⟩, List.mem_of_getElem? (i := 83) (by decide +kernel), List.mem_of_getElem? (i := 387) (by decide +kernel), List.mem_of_getElem? (i := 388) (by decide +kernel)⟩
theorem lw_p12 : lw_okq (⟨"ChannelBorrower$Network", "greatestOf", "(I)I"⟩, 15) := ⟨⟨by decide +kernel, by decide +kernel⟩, List.mem_of_getElem? (i := 83) (by decide +kernel), List.mem_of_getElem? (i := 392) (by decide +kernel), List.mem_of_getElem? (i := 393) (by decide +kernel)⟩
theorem lw_p13 : lw_okq (⟨"ChannelBorrower$Network", "fixedAccepts", "(I)Z"⟩, 15) := ⟨⟨by decide +kernel, by decide +kernel⟩, List.mem_of_getElem? (i := 83) (by decide +kernel), List.mem_of_getElem? (i := 396) (by decide +kernel), List.mem_of_getElem? (i := 397) (by decide +kernel)⟩
theorem lw_p14 : lw_okq (⟨"ChannelBorrower$Network", "place", "(III)V"⟩, 15) := ⟨⟨by decide +kernel, by decide +kernel⟩, List.mem_of_getElem? (i := 83) (by decide +kernel), List.mem_of_getElem? (i := 403) (by decide +kernel), List.mem_of_getElem? (i := 404) (by decide +kernel)⟩
theorem lw_p15 : lw_okq (⟨"ChannelBorrower", "isChannel", "(I)Z"⟩, 4) := ⟨⟨by decide +kernel, by decide +kernel⟩, List.mem_of_getElem? (i := 12) (by decide +kernel), List.mem_of_getElem? (i := 457) (by decide +kernel), List.mem_of_getElem? (i := 458) (by decide +kernel)⟩
def lw_privs_1 : List (MethodName × Nat) := [(⟨"ChannelBorrower$Layout", "placeCells", "(II)V"⟩, 8), (⟨"ChannelBorrower$Layout", "channelsOfGroup", "(II)I"⟩, 8), (⟨"ChannelBorrower$Layout", "cellsWithin", "(II)I"⟩, 8), (⟨"ChannelBorrower$History", "newestState", "()LChannelBorrower$Network;"⟩, 3), (⟨"ChannelBorrower$Network", "nextToReturn", "()I"⟩, 15), (⟨"ChannelBorrower$Network", "lowestOf", "(I)I"⟩, 15), (⟨"ChannelBorrower$Network", "release", "(I)V"⟩, 15), (⟨"ChannelBorrower$Network", "occupy", "(II)V"⟩, 15), (⟨"ChannelBorrower", "isCell", "(I)Z"⟩, 4), (⟨"ChannelBorrower$Network", "lowestFreeNumber", "()I"⟩, 15), (⟨"ChannelBorrower$Network", "bestDonor", "(II)I"⟩, 15), (⟨"ChannelBorrower$Network", "rankOf", "(III)I"⟩, 15), (⟨"ChannelBorrower$Network", "greatestOf", "(I)I"⟩, 15), (⟨"ChannelBorrower$Network", "fixedAccepts", "(I)Z"⟩, 15), (⟨"ChannelBorrower$Network", "place", "(III)V"⟩, 15), (⟨"ChannelBorrower", "isChannel", "(I)Z"⟩, 4)]
theorem lw_r1 : ∀ q ∈ lw_privs_1, lw_okq q := List.forall_mem_cons.mpr ⟨lw_p0, List.forall_mem_cons.mpr ⟨lw_p1, List.forall_mem_cons.mpr ⟨lw_p2, List.forall_mem_cons.mpr ⟨lw_p3, List.forall_mem_cons.mpr ⟨lw_p4, List.forall_mem_cons.mpr ⟨lw_p5, List.forall_mem_cons.mpr ⟨lw_p6, List.forall_mem_cons.mpr ⟨lw_p7, List.forall_mem_cons.mpr ⟨lw_p8, List.forall_mem_cons.mpr ⟨lw_p9, List.forall_mem_cons.mpr ⟨lw_p10, List.forall_mem_cons.mpr ⟨lw_p11, List.forall_mem_cons.mpr ⟨lw_p12, List.forall_mem_cons.mpr ⟨lw_p13, List.forall_mem_cons.mpr ⟨lw_p14, List.forall_mem_cons.mpr ⟨lw_p15, fun _ h => absurd h List.not_mem_nil⟩⟩⟩⟩⟩⟩⟩⟩⟩⟩⟩⟩⟩⟩⟩⟩
theorem lw_p16 : lw_okq (⟨"ChannelBorrower$Script", "skipSpaces", "()V"⟩, 7) := ⟨⟨by decide +kernel, by decide +kernel⟩, List.mem_of_getElem? (i := 173) (by decide +kernel), List.mem_of_getElem? (i := 566) (by decide +kernel), List.mem_of_getElem? (i := 567) (by decide +kernel)⟩
theorem lw_p17 : lw_okq (⟨"ChannelBorrower$Script", "character", "()I"⟩, 7) := ⟨⟨by decide +kernel, by decide +kernel⟩, List.mem_of_getElem? (i := 173) (by decide +kernel), List.mem_of_getElem? (i := 570) (by decide +kernel), List.mem_of_getElem? (i := 571) (by decide +kernel)⟩
theorem lw_p18 : lw_okq (⟨"ChannelBorrower$Script", "readCommand", "()Z"⟩, 7) := ⟨⟨by decide +kernel, by decide +kernel⟩, List.mem_of_getElem? (i := 173) (by decide +kernel), List.mem_of_getElem? (i := 574) (by decide +kernel), List.mem_of_getElem? (i := 575) (by decide +kernel)⟩
theorem lw_p19 : lw_okq (⟨"ChannelBorrower$Script", "readNumber", "()I"⟩, 7) := ⟨⟨by decide +kernel, by decide +kernel⟩, List.mem_of_getElem? (i := 173) (by decide +kernel), List.mem_of_getElem? (i := 578) (by decide +kernel), List.mem_of_getElem? (i := 579) (by decide +kernel)⟩
theorem lw_p20 : lw_okq (⟨"ChannelBorrower$Script", "digit", "()I"⟩, 7) := ⟨⟨by decide +kernel, by decide +kernel⟩, List.mem_of_getElem? (i := 173) (by decide +kernel), List.mem_of_getElem? (i := 582) (by decide +kernel), List.mem_of_getElem? (i := 583) (by decide +kernel)⟩
theorem lw_p21 : lw_okq (⟨"ChannelBorrower$Script", "readSign", "(I)Z"⟩, 7) := ⟨⟨by decide +kernel, by decide +kernel⟩, List.mem_of_getElem? (i := 173) (by decide +kernel), List.mem_of_getElem? (i := 586) (by decide +kernel), List.mem_of_getElem? (i := 587) (by decide +kernel)⟩
theorem lw_p22 : lw_okq (⟨"ChannelBorrower$Script", "keep", "(III)Z"⟩, 7) := ⟨⟨by decide +kernel, by decide +kernel⟩, List.mem_of_getElem? (i := 173) (by decide +kernel), List.mem_of_getElem? (i := 590) (by decide +kernel), List.mem_of_getElem? (i := 591) (by decide +kernel)⟩
theorem lw_p23 : lw_okq (⟨"ChannelBorrower", "commandError", "(III)I"⟩, 4) := ⟨⟨by decide +kernel, by decide +kernel⟩, List.mem_of_getElem? (i := 12) (by decide +kernel), List.mem_of_getElem? (i := 594) (by decide +kernel), List.mem_of_getElem? (i := 595) (by decide +kernel)⟩
theorem lw_p24 : lw_okq (⟨"ChannelBorrowerModel", "calls", "()I"⟩, 11) := ⟨⟨by decide +kernel, by decide +kernel⟩, List.mem_of_getElem? (i := 615) (by decide +kernel), List.mem_of_getElem? (i := 668) (by decide +kernel), List.mem_of_getElem? (i := 669) (by decide +kernel)⟩
theorem lw_p25 : lw_okq (⟨"ChannelBorrowerModel", "isError", "(III)Z"⟩, 11) := ⟨⟨by decide +kernel, by decide +kernel⟩, List.mem_of_getElem? (i := 615) (by decide +kernel), List.mem_of_getElem? (i := 680) (by decide +kernel), List.mem_of_getElem? (i := 681) (by decide +kernel)⟩
theorem lw_p26 : lw_okq (⟨"ChannelBorrowerModel", "isCell", "(I)Z"⟩, 11) := ⟨⟨by decide +kernel, by decide +kernel⟩, List.mem_of_getElem? (i := 615) (by decide +kernel), List.mem_of_getElem? (i := 684) (by decide +kernel), List.mem_of_getElem? (i := 685) (by decide +kernel)⟩
theorem lw_p27 : lw_okq (⟨"ChannelBorrowerModel", "cells", "()I"⟩, 11) := ⟨⟨by decide +kernel, by decide +kernel⟩, List.mem_of_getElem? (i := 615) (by decide +kernel), List.mem_of_getElem? (i := 688) (by decide +kernel), List.mem_of_getElem? (i := 689) (by decide +kernel)⟩
theorem lw_p28 : lw_okq (⟨"ChannelBorrowerModel", "isCall", "(I)Z"⟩, 11) := ⟨⟨by decide +kernel, by decide +kernel⟩, List.mem_of_getElem? (i := 615) (by decide +kernel), List.mem_of_getElem? (i := 692) (by decide +kernel), List.mem_of_getElem? (i := 693) (by decide +kernel)⟩
theorem lw_p29 : lw_okq (⟨"ChannelBorrowerModel", "far", "(II)I"⟩, 11) := ⟨⟨by decide +kernel, by decide +kernel⟩, List.mem_of_getElem? (i := 615) (by decide +kernel), List.mem_of_getElem? (i := 696) (by decide +kernel), List.mem_of_getElem? (i := 697) (by decide +kernel)⟩
theorem lw_p30 : lw_okq (⟨"ChannelBorrowerModel", "errorOf", "(III)I"⟩, 11) := ⟨⟨by decide +kernel, by decide +kernel⟩, List.mem_of_getElem? (i := 615) (by decide +kernel), List.mem_of_getElem? (i := 703) (by decide +kernel), List.mem_of_getElem? (i := 704) (by decide +kernel)⟩
theorem lw_p31 : lw_okq (⟨"ChannelBorrowerModel", "does", "(III)I"⟩, 11) := ⟨⟨by decide +kernel, by decide +kernel⟩, List.mem_of_getElem? (i := 615) (by decide +kernel), List.mem_of_getElem? (i := 707) (by decide +kernel), List.mem_of_getElem? (i := 708) (by decide +kernel)⟩
def lw_privs_2 : List (MethodName × Nat) := [(⟨"ChannelBorrower$Script", "skipSpaces", "()V"⟩, 7), (⟨"ChannelBorrower$Script", "character", "()I"⟩, 7), (⟨"ChannelBorrower$Script", "readCommand", "()Z"⟩, 7), (⟨"ChannelBorrower$Script", "readNumber", "()I"⟩, 7), (⟨"ChannelBorrower$Script", "digit", "()I"⟩, 7), (⟨"ChannelBorrower$Script", "readSign", "(I)Z"⟩, 7), (⟨"ChannelBorrower$Script", "keep", "(III)Z"⟩, 7), (⟨"ChannelBorrower", "commandError", "(III)I"⟩, 4), (⟨"ChannelBorrowerModel", "calls", "()I"⟩, 11), (⟨"ChannelBorrowerModel", "isError", "(III)Z"⟩, 11), (⟨"ChannelBorrowerModel", "isCell", "(I)Z"⟩, 11), (⟨"ChannelBorrowerModel", "cells", "()I"⟩, 11), (⟨"ChannelBorrowerModel", "isCall", "(I)Z"⟩, 11), (⟨"ChannelBorrowerModel", "far", "(II)I"⟩, 11), (⟨"ChannelBorrowerModel", "errorOf", "(III)I"⟩, 11), (⟨"ChannelBorrowerModel", "does", "(III)I"⟩, 11)]
theorem lw_r2 : ∀ q ∈ lw_privs_2, lw_okq q := List.forall_mem_cons.mpr ⟨lw_p16, List.forall_mem_cons.mpr ⟨lw_p17, List.forall_mem_cons.mpr ⟨lw_p18, List.forall_mem_cons.mpr ⟨lw_p19, List.forall_mem_cons.mpr ⟨lw_p20, List.forall_mem_cons.mpr ⟨lw_p21, List.forall_mem_cons.mpr ⟨lw_p22, List.forall_mem_cons.mpr ⟨lw_p23, List.forall_mem_cons.mpr ⟨lw_p24, List.forall_mem_cons.mpr ⟨lw_p25, List.forall_mem_cons.mpr ⟨lw_p26, List.forall_mem_cons.mpr ⟨lw_p27, List.forall_mem_cons.mpr ⟨lw_p28, List.forall_mem_cons.mpr ⟨lw_p29, List.forall_mem_cons.mpr ⟨lw_p30, List.forall_mem_cons.mpr ⟨lw_p31, fun _ h => absurd h List.not_mem_nil⟩⟩⟩⟩⟩⟩⟩⟩⟩⟩⟩⟩⟩⟩⟩⟩
theorem lw_p32 : lw_okq (⟨"ChannelBorrowerModel", "note", "()V"⟩, 11) := ⟨⟨by decide +kernel, by decide +kernel⟩, List.mem_of_getElem? (i := 615) (by decide +kernel), List.mem_of_getElem? (i := 711) (by decide +kernel), List.mem_of_getElem? (i := 712) (by decide +kernel)⟩
theorem lw_p33 : lw_okq (⟨"ChannelBorrowerModel", "start", "(I)I"⟩, 11) := ⟨⟨by decide +kernel, by decide +kernel⟩, List.mem_of_getElem? (i := 615) (by decide +kernel), List.mem_of_getElem? (i := 715) (by decide +kernel), List.mem_of_getElem? (i := 716) (by decide +kernel)⟩
theorem lw_p34 : lw_okq (⟨"ChannelBorrowerModel", "choose", "(I)I"⟩, 11) := ⟨⟨by decide +kernel, by decide +kernel⟩, List.mem_of_getElem? (i := 615) (by decide +kernel), List.mem_of_getElem? (i := 719) (by decide +kernel), List.mem_of_getElem? (i := 720) (by decide +kernel)⟩
theorem lw_p35 : lw_okq (⟨"ChannelBorrowerModel", "nominal", "(I)I"⟩, 11) := ⟨⟨by decide +kernel, by decide +kernel⟩, List.mem_of_getElem? (i := 615) (by decide +kernel), List.mem_of_getElem? (i := 723) (by decide +kernel), List.mem_of_getElem? (i := 724) (by decide +kernel)⟩
theorem lw_p36 : lw_okq (⟨"ChannelBorrowerModel", "channels", "()I"⟩, 11) := ⟨⟨by decide +kernel, by decide +kernel⟩, List.mem_of_getElem? (i := 615) (by decide +kernel), List.mem_of_getElem? (i := 727) (by decide +kernel), List.mem_of_getElem? (i := 728) (by decide +kernel)⟩
theorem lw_p37 : lw_okq (⟨"ChannelBorrowerModel", "groups", "()I"⟩, 11) := ⟨⟨by decide +kernel, by decide +kernel⟩, List.mem_of_getElem? (i := 615) (by decide +kernel), List.mem_of_getElem? (i := 731) (by decide +kernel), List.mem_of_getElem? (i := 732) (by decide +kernel)⟩
theorem lw_p38 : lw_okq (⟨"ChannelBorrowerModel", "isNominal", "(II)Z"⟩, 11) := ⟨⟨by decide +kernel, by decide +kernel⟩, List.mem_of_getElem? (i := 615) (by decide +kernel), List.mem_of_getElem? (i := 735) (by decide +kernel), List.mem_of_getElem? (i := 736) (by decide +kernel)⟩
theorem lw_p39 : lw_okq (⟨"ChannelBorrowerModel", "group", "(I)I"⟩, 11) := ⟨⟨by decide +kernel, by decide +kernel⟩, List.mem_of_getElem? (i := 615) (by decide +kernel), List.mem_of_getElem? (i := 739) (by decide +kernel), List.mem_of_getElem? (i := 740) (by decide +kernel)⟩
theorem lw_p40 : lw_okq (⟨"ChannelBorrowerModel", "available", "(II)Z"⟩, 11) := ⟨⟨by decide +kernel, by decide +kernel⟩, List.mem_of_getElem? (i := 615) (by decide +kernel), List.mem_of_getElem? (i := 743) (by decide +kernel), List.mem_of_getElem? (i := 744) (by decide +kernel)⟩
theorem lw_p41 : lw_okq (⟨"ChannelBorrowerModel", "uses", "(II)Z"⟩, 11) := ⟨⟨by decide +kernel, by decide +kernel⟩, List.mem_of_getElem? (i := 615) (by decide +kernel), List.mem_of_getElem? (i := 747) (by decide +kernel), List.mem_of_getElem? (i := 748) (by decide +kernel)⟩
theorem lw_p42 : lw_okq (⟨"ChannelBorrowerModel", "locks", "(II)I"⟩, 11) := ⟨⟨by decide +kernel, by decide +kernel⟩, List.mem_of_getElem? (i := 615) (by decide +kernel), List.mem_of_getElem? (i := 751) (by decide +kernel), List.mem_of_getElem? (i := 752) (by decide +kernel)⟩
theorem lw_p43 : lw_okq (⟨"ChannelBorrowerModel", "availables", "(I)I"⟩, 11) := ⟨⟨by decide +kernel, by decide +kernel⟩, List.mem_of_getElem? (i := 615) (by decide +kernel), List.mem_of_getElem? (i := 755) (by decide +kernel), List.mem_of_getElem? (i := 756) (by decide +kernel)⟩
theorem lw_p44 : lw_okq (⟨"ChannelBorrowerModel", "burdenOf", "(II)I"⟩, 11) := ⟨⟨by decide +kernel, by decide +kernel⟩, List.mem_of_getElem? (i := 615) (by decide +kernel), List.mem_of_getElem? (i := 759) (by decide +kernel), List.mem_of_getElem? (i := 760) (by decide +kernel)⟩
theorem lw_p45 : lw_okq (⟨"ChannelBorrowerModel", "fixedIn", "(I)I"⟩, 11) := ⟨⟨by decide +kernel, by decide +kernel⟩, List.mem_of_getElem? (i := 615) (by decide +kernel), List.mem_of_getElem? (i := 763) (by decide +kernel), List.mem_of_getElem? (i := 764) (by decide +kernel)⟩
theorem lw_p46 : lw_okq (⟨"ChannelBorrowerModel", "borrowed", "(I)Z"⟩, 11) := ⟨⟨by decide +kernel, by decide +kernel⟩, List.mem_of_getElem? (i := 615) (by decide +kernel), List.mem_of_getElem? (i := 767) (by decide +kernel), List.mem_of_getElem? (i := 768) (by decide +kernel)⟩
theorem lw_p47 : lw_okq (⟨"ChannelBorrowerModel", "end", "(I)I"⟩, 11) := ⟨⟨by decide +kernel, by decide +kernel⟩, List.mem_of_getElem? (i := 615) (by decide +kernel), List.mem_of_getElem? (i := 771) (by decide +kernel), List.mem_of_getElem? (i := 772) (by decide +kernel)⟩
def lw_privs_3 : List (MethodName × Nat) := [(⟨"ChannelBorrowerModel", "note", "()V"⟩, 11), (⟨"ChannelBorrowerModel", "start", "(I)I"⟩, 11), (⟨"ChannelBorrowerModel", "choose", "(I)I"⟩, 11), (⟨"ChannelBorrowerModel", "nominal", "(I)I"⟩, 11), (⟨"ChannelBorrowerModel", "channels", "()I"⟩, 11), (⟨"ChannelBorrowerModel", "groups", "()I"⟩, 11), (⟨"ChannelBorrowerModel", "isNominal", "(II)Z"⟩, 11), (⟨"ChannelBorrowerModel", "group", "(I)I"⟩, 11), (⟨"ChannelBorrowerModel", "available", "(II)Z"⟩, 11), (⟨"ChannelBorrowerModel", "uses", "(II)Z"⟩, 11), (⟨"ChannelBorrowerModel", "locks", "(II)I"⟩, 11), (⟨"ChannelBorrowerModel", "availables", "(I)I"⟩, 11), (⟨"ChannelBorrowerModel", "burdenOf", "(II)I"⟩, 11), (⟨"ChannelBorrowerModel", "fixedIn", "(I)I"⟩, 11), (⟨"ChannelBorrowerModel", "borrowed", "(I)Z"⟩, 11), (⟨"ChannelBorrowerModel", "end", "(I)I"⟩, 11)]
theorem lw_r3 : ∀ q ∈ lw_privs_3, lw_okq q := List.forall_mem_cons.mpr ⟨lw_p32, List.forall_mem_cons.mpr ⟨lw_p33, List.forall_mem_cons.mpr ⟨lw_p34, List.forall_mem_cons.mpr ⟨lw_p35, List.forall_mem_cons.mpr ⟨lw_p36, List.forall_mem_cons.mpr ⟨lw_p37, List.forall_mem_cons.mpr ⟨lw_p38, List.forall_mem_cons.mpr ⟨lw_p39, List.forall_mem_cons.mpr ⟨lw_p40, List.forall_mem_cons.mpr ⟨lw_p41, List.forall_mem_cons.mpr ⟨lw_p42, List.forall_mem_cons.mpr ⟨lw_p43, List.forall_mem_cons.mpr ⟨lw_p44, List.forall_mem_cons.mpr ⟨lw_p45, List.forall_mem_cons.mpr ⟨lw_p46, List.forall_mem_cons.mpr ⟨lw_p47, fun _ h => absurd h List.not_mem_nil⟩⟩⟩⟩⟩⟩⟩⟩⟩⟩⟩⟩⟩⟩⟩⟩
theorem lw_p48 : lw_okq (⟨"ChannelBorrowerModel", "channelNow", "(I)I"⟩, 11) := ⟨⟨by decide +kernel, by decide +kernel⟩, List.mem_of_getElem? (i := 615) (by decide +kernel), List.mem_of_getElem? (i := 775) (by decide +kernel), List.mem_of_getElem? (i := 776) (by decide +kernel)⟩
theorem lw_p49 : lw_okq (⟨"ChannelBorrowerModel", "forget", "(I)V"⟩, 11) := ⟨⟨by decide +kernel, by decide +kernel⟩, List.mem_of_getElem? (i := 615) (by decide +kernel), List.mem_of_getElem? (i := 779) (by decide +kernel), List.mem_of_getElem? (i := 780) (by decide +kernel)⟩
theorem lw_p50 : lw_okq (⟨"ChannelBorrowerModel", "pass", "()I"⟩, 11) := ⟨⟨by decide +kernel, by decide +kernel⟩, List.mem_of_getElem? (i := 615) (by decide +kernel), List.mem_of_getElem? (i := 783) (by decide +kernel), List.mem_of_getElem? (i := 784) (by decide +kernel)⟩
theorem lw_p51 : lw_okq (⟨"ChannelBorrowerModel", "hand", "(II)I"⟩, 11) := ⟨⟨by decide +kernel, by decide +kernel⟩, List.mem_of_getElem? (i := 615) (by decide +kernel), List.mem_of_getElem? (i := 787) (by decide +kernel), List.mem_of_getElem? (i := 788) (by decide +kernel)⟩
theorem lw_p52 : lw_okq (⟨"ChannelBorrowerModel", "change", "(II)I"⟩, 11) := ⟨⟨by decide +kernel, by decide +kernel⟩, List.mem_of_getElem? (i := 615) (by decide +kernel), List.mem_of_getElem? (i := 807) (by decide +kernel), List.mem_of_getElem? (i := 808) (by decide +kernel)⟩
theorem lw_p53 : lw_okq (⟨"ChannelBorrowerModel", "isChannel", "(I)Z"⟩, 11) := ⟨⟨by decide +kernel, by decide +kernel⟩, List.mem_of_getElem? (i := 615) (by decide +kernel), List.mem_of_getElem? (i := 855) (by decide +kernel), List.mem_of_getElem? (i := 856) (by decide +kernel)⟩
theorem lw_p54 : lw_okq (⟨"ChannelBorrowerModel", "script", "(Z)I"⟩, 11) := ⟨⟨by decide +kernel, by decide +kernel⟩, List.mem_of_getElem? (i := 615) (by decide +kernel), List.mem_of_getElem? (i := 935) (by decide +kernel), List.mem_of_getElem? (i := 936) (by decide +kernel)⟩
theorem lw_p55 : lw_okq (⟨"ChannelBorrowerModel", "skip", "()V"⟩, 11) := ⟨⟨by decide +kernel, by decide +kernel⟩, List.mem_of_getElem? (i := 615) (by decide +kernel), List.mem_of_getElem? (i := 939) (by decide +kernel), List.mem_of_getElem? (i := 940) (by decide +kernel)⟩
theorem lw_p56 : lw_okq (⟨"ChannelBorrowerModel", "here", "()I"⟩, 11) := ⟨⟨by decide +kernel, by decide +kernel⟩, List.mem_of_getElem? (i := 615) (by decide +kernel), List.mem_of_getElem? (i := 943) (by decide +kernel), List.mem_of_getElem? (i := 944) (by decide +kernel)⟩
theorem lw_p57 : lw_okq (⟨"ChannelBorrowerModel", "number", "()I"⟩, 11) := ⟨⟨by decide +kernel, by decide +kernel⟩, List.mem_of_getElem? (i := 615) (by decide +kernel), List.mem_of_getElem? (i := 947) (by decide +kernel), List.mem_of_getElem? (i := 948) (by decide +kernel)⟩
theorem lw_p58 : lw_okq (⟨"ChannelBorrowerModel", "expect", "(I)V"⟩, 11) := ⟨⟨by decide +kernel, by decide +kernel⟩, List.mem_of_getElem? (i := 615) (by decide +kernel), List.mem_of_getElem? (i := 951) (by decide +kernel), List.mem_of_getElem? (i := 952) (by decide +kernel)⟩
def lw_privs_4 : List (MethodName × Nat) := [(⟨"ChannelBorrowerModel", "channelNow", "(I)I"⟩, 11), (⟨"ChannelBorrowerModel", "forget", "(I)V"⟩, 11), (⟨"ChannelBorrowerModel", "pass", "()I"⟩, 11), (⟨"ChannelBorrowerModel", "hand", "(II)I"⟩, 11), (⟨"ChannelBorrowerModel", "change", "(II)I"⟩, 11), (⟨"ChannelBorrowerModel", "isChannel", "(I)Z"⟩, 11), (⟨"ChannelBorrowerModel", "script", "(Z)I"⟩, 11), (⟨"ChannelBorrowerModel", "skip", "()V"⟩, 11), (⟨"ChannelBorrowerModel", "here", "()I"⟩, 11), (⟨"ChannelBorrowerModel", "number", "()I"⟩, 11), (⟨"ChannelBorrowerModel", "expect", "(I)V"⟩, 11)]
theorem lw_r4 : ∀ q ∈ lw_privs_4, lw_okq q := List.forall_mem_cons.mpr ⟨lw_p48, List.forall_mem_cons.mpr ⟨lw_p49, List.forall_mem_cons.mpr ⟨lw_p50, List.forall_mem_cons.mpr ⟨lw_p51, List.forall_mem_cons.mpr ⟨lw_p52, List.forall_mem_cons.mpr ⟨lw_p53, List.forall_mem_cons.mpr ⟨lw_p54, List.forall_mem_cons.mpr ⟨lw_p55, List.forall_mem_cons.mpr ⟨lw_p56, List.forall_mem_cons.mpr ⟨lw_p57, List.forall_mem_cons.mpr ⟨lw_p58, fun _ h => absurd h List.not_mem_nil⟩⟩⟩⟩⟩⟩⟩⟩⟩⟩⟩
def lw_privs : List (MethodName × Nat) := lw_privs_1 ++ (lw_privs_2 ++ (lw_privs_3 ++ (lw_privs_4)))
def lw_tbl : List Cond := k2_sels lw_privs ++ tables_1
theorem lw_privs_ok : ∀ q ∈ lw_privs, lw_okq q := by
  show ∀ q ∈ lw_privs_1 ++ (lw_privs_2 ++ (lw_privs_3 ++ (lw_privs_4))), lw_okq q
  exact List.forall_mem_append.mpr ⟨lw_r1, List.forall_mem_append.mpr ⟨lw_r2, List.forall_mem_append.mpr ⟨lw_r3, lw_r4⟩⟩⟩
end
section
/-! ===== BEGIN words of one list among another's, by their places ===== -/
theorem goodIn_r {big : List Cond} (ws : List Cond) (ps : List Nat) (hp : ws = ps.filterMap (fun i => big[i]?)) (h : ws.all goodWord = true) : GoodIn big ws := by
  intro w hw
  have h1 := List.all_eq_true.mp h w hw
  rw [hp] at hw
  obtain ⟨i, -, hi⟩ := List.mem_filterMap.mp hw
  have hm : w ∈ big := by first | exact List.mem_of_getElem? hi | exact List.getElem?_mem hi
  exact ⟨hm, good_of_word h1⟩
theorem goodIn_app {big a b : List Cond} (ha : GoodIn big a) (hb : GoodIn big b) : GoodIn big (a ++ b) := fun w h => (List.mem_append.mp h).elim (ha w) (hb w)
theorem goodIn_ca {big a b : List Cond} {c : Cond} (ha : GoodIn big (c :: a)) (hb : GoodIn big b) : GoodIn big (c :: (a ++ b)) := fun w h => (List.mem_cons.mp h).elim (fun e => ha w (List.mem_cons.mpr (Or.inl e))) (fun h => (List.mem_append.mp h).elim (fun h => ha w (List.mem_cons.mpr (Or.inr h))) (hb w))
theorem goodIn_sub {big ws : List Cond} (hm : ∀ w ∈ ws, w ∈ big) (h : ws.all goodWord = true) : GoodIn big ws := fun w hw => ⟨hm w hw, good_of_word (List.all_eq_true.mp h w hw)⟩
/-! ===== END ===== -/

/-! ===== BEGIN printed: names, fields, word lists, decode rows ===== -/
def RX0 : String := "ChannelBorrower$History"
def TX0 : u_T := fun k => match k with
  | 0 => ("ChannelBorrower$History", "count", "I", false)
  | 1 => ("ChannelBorrower$History", "newest", "I", false)
  | _ => ("ChannelBorrower$History", "states", "[LChannelBorrower$Network;", true)
def tyX0 : Nat → FieldType := fun k => match k with
  | 0 => .int
  | 1 => .int
  | _ => .array (.object "ChannelBorrower$Network")
abbrev wsX00 : List Cond := u_ws RX0 TX0 3
theorem nmX0 : ∀ a, a < 3 → ∀ b, b < 3 → a ≠ b → (TX0 a).2.1 ≠ (TX0 b).2.1 := by decide +kernel
theorem tyX0_ok : ∀ k, k < 3 → parseFieldDescriptor (TX0 k).2.2.1 = some (tyX0 k) := by decide +kernel
abbrev cX0_init : ByteArray := prog_2_method_1_code
def yX0_init : MethodName := ⟨RX0, "<init>", "(LChannelBorrower$Layout;)V"⟩
abbrev cX0_push : ByteArray := prog_2_method_2_code
def yX0_push : MethodName := ⟨RX0, "push", "(LChannelBorrower$Network;)V"⟩
abbrev cX0_pop : ByteArray := prog_2_method_3_code
def yX0_pop : MethodName := ⟨RX0, "pop", "(LChannelBorrower$Network;)Z"⟩
abbrev cX0_newestState : ByteArray := prog_2_method_4_code
def yX0_newestState : MethodName := ⟨RX0, "newestState", "()LChannelBorrower$Network;"⟩
def RX1 : String := "ChannelBorrower$Layout"
def TX1 : u_T := fun k => match k with
  | 0 => ("ChannelBorrower$Layout", "cells", "I", true)
  | 1 => ("ChannelBorrower$Layout", "channels", "I", true)
  | 2 => ("ChannelBorrower$Layout", "groupSize", "I", true)
  | 3 => ("ChannelBorrower$Layout", "row", "[I", true)
  | 4 => ("ChannelBorrower$Layout", "column", "[I", true)
  | 5 => ("ChannelBorrower$Layout", "group", "[I", true)
  | 6 => ("ChannelBorrower$Layout", "nominals", "[I", true)
  | _ => ("ChannelBorrower$Layout", "nearCells", "[I", true)
def tyX1 : Nat → FieldType := fun k => match k with
  | 0 => .int
  | 1 => .int
  | 2 => .int
  | 3 => .array .int
  | 4 => .array .int
  | 5 => .array .int
  | 6 => .array .int
  | _ => .array .int
abbrev wsX10 : List Cond := u_ws RX1 TX1 8
theorem nmX1 : ∀ a, a < 8 → ∀ b, b < 8 → a ≠ b → (TX1 a).2.1 ≠ (TX1 b).2.1 := by decide +kernel
theorem tyX1_ok : ∀ k, k < 8 → parseFieldDescriptor (TX1 k).2.2.1 = some (tyX1 k) := by decide +kernel
abbrev cX1_init : ByteArray := prog_3_method_1_code
def yX1_init : MethodName := ⟨RX1, "<init>", "(IIII)V"⟩
abbrev cX1_placeCells : ByteArray := prog_3_method_2_code
def yX1_placeCells : MethodName := ⟨RX1, "placeCells", "(II)V"⟩
abbrev cX1_channelsOfGroup : ByteArray := prog_3_method_3_code
def yX1_channelsOfGroup : MethodName := ⟨RX1, "channelsOfGroup", "(II)I"⟩
abbrev cX1_cellsWithin : ByteArray := prog_3_method_4_code
def yX1_cellsWithin : MethodName := ⟨RX1, "cellsWithin", "(II)I"⟩
abbrev cX1_hasCell : ByteArray := prog_3_method_5_code
def yX1_hasCell : MethodName := ⟨RX1, "hasCell", "(I)Z"⟩
abbrev cX1_groupAt : ByteArray := prog_3_method_6_code
def yX1_groupAt : MethodName := ⟨RX1, "groupAt", "(I)I"⟩
abbrev cX1_nominalsOf : ByteArray := prog_3_method_7_code
def yX1_nominalsOf : MethodName := ⟨RX1, "nominalsOf", "(I)I"⟩
abbrev cX1_near : ByteArray := prog_3_method_8_code
def yX1_near : MethodName := ⟨RX1, "near", "(I)I"⟩
abbrev cX1_separation : ByteArray := prog_3_method_9_code
def yX1_separation : MethodName := ⟨RX1, "separation", "(II)I"⟩
abbrev cX1_burdenIn : ByteArray := prog_3_method_10_code
def yX1_burdenIn : MethodName := ⟨RX1, "burdenIn", "(II)I"⟩
def RX2 : String := "ChannelBorrower$Network"
def TX2 : u_T := fun k => match k with
  | 0 => ("ChannelBorrower$Network", "layout", "LChannelBorrower$Layout;", false)
  | 1 => ("ChannelBorrower$Network", "strategy", "I", false)
  | 2 => ("ChannelBorrower$Network", "reserve", "I", false)
  | 3 => ("ChannelBorrower$Network", "returning", "Z", false)
  | 4 => ("ChannelBorrower$Network", "attempts", "I", false)
  | 5 => ("ChannelBorrower$Network", "blocked", "I", false)
  | 6 => ("ChannelBorrower$Network", "blockedInFixed", "I", false)
  | 7 => ("ChannelBorrower$Network", "dropped", "I", false)
  | 8 => ("ChannelBorrower$Network", "droppedInFixed", "I", false)
  | 9 => ("ChannelBorrower$Network", "borrowings", "I", false)
  | 10 => ("ChannelBorrower$Network", "returnSteps", "I", false)
  | 11 => ("ChannelBorrower$Network", "callCell", "[I", true)
  | 12 => ("ChannelBorrower$Network", "callChannel", "[I", true)
  | 13 => ("ChannelBorrower$Network", "callFixed", "[I", true)
  | _ => ("ChannelBorrower$Network", "used", "[I", true)
def tyX2 : Nat → FieldType := fun k => match k with
  | 0 => .object "ChannelBorrower$Layout"
  | 1 => .int
  | 2 => .int
  | 3 => .boolean
  | 4 => .int
  | 5 => .int
  | 6 => .int
  | 7 => .int
  | 8 => .int
  | 9 => .int
  | 10 => .int
  | 11 => .array .int
  | 12 => .array .int
  | 13 => .array .int
  | _ => .array .int
abbrev wsX20 : List Cond := u_ws RX2 TX2 15
theorem nmX2 : ∀ a, a < 15 → ∀ b, b < 15 → a ≠ b → (TX2 a).2.1 ≠ (TX2 b).2.1 := by decide +kernel
theorem tyX2_ok : ∀ k, k < 15 → parseFieldDescriptor (TX2 k).2.2.1 = some (tyX2 k) := by decide +kernel
abbrev cX2_init : ByteArray := prog_4_method_1_code
def yX2_init : MethodName := ⟨RX2, "<init>", "(LChannelBorrower$Layout;)V"⟩
abbrev cX2_begin : ByteArray := prog_4_method_2_code
def yX2_begin : MethodName := ⟨RX2, "begin", "(LChannelBorrower$Layout;)V"⟩
abbrev cX2_copyFrom : ByteArray := prog_4_method_3_code
def yX2_copyFrom : MethodName := ⟨RX2, "copyFrom", "(LChannelBorrower$Network;)V"⟩
abbrev cX2_isPresent : ByteArray := prog_4_method_4_code
def yX2_isPresent : MethodName := ⟨RX2, "isPresent", "(I)Z"⟩
abbrev cX2_cellAt : ByteArray := prog_4_method_5_code
def yX2_cellAt : MethodName := ⟨RX2, "cellAt", "(I)I"⟩
abbrev cX2_channelAt : ByteArray := prog_4_method_6_code
def yX2_channelAt : MethodName := ⟨RX2, "channelAt", "(I)I"⟩
abbrev cX2_isFixed : ByteArray := prog_4_method_7_code
def yX2_isFixed : MethodName := ⟨RX2, "isFixed", "(I)Z"⟩
abbrev cX2_borrows : ByteArray := prog_4_method_8_code
def yX2_borrows : MethodName := ⟨RX2, "borrows", "(I)Z"⟩
abbrev cX2_presentCalls : ByteArray := prog_4_method_9_code
def yX2_presentCalls : MethodName := ⟨RX2, "presentCalls", "()I"⟩
abbrev cX2_lowestFreeNumber : ByteArray := prog_4_method_10_code
def yX2_lowestFreeNumber : MethodName := ⟨RX2, "lowestFreeNumber", "()I"⟩
abbrev cX2_startError : ByteArray := prog_4_method_11_code
def yX2_startError : MethodName := ⟨RX2, "startError", "(I)I"⟩
abbrev cX2_start : ByteArray := prog_4_method_12_code
def yX2_start : MethodName := ⟨RX2, "start", "(I)I"⟩
abbrev cX2_end : ByteArray := prog_4_method_13_code
def yX2_end : MethodName := ⟨RX2, "end", "(I)I"⟩
abbrev cX2_moveError : ByteArray := prog_4_method_14_code
def yX2_moveError : MethodName := ⟨RX2, "moveError", "(II)I"⟩
abbrev cX2_move : ByteArray := prog_4_method_15_code
def yX2_move : MethodName := ⟨RX2, "move", "(II)I"⟩
abbrev cX2_place : ByteArray := prog_4_method_16_code
def yX2_place : MethodName := ⟨RX2, "place", "(III)V"⟩
abbrev cX2_occupy : ByteArray := prog_4_method_17_code
def yX2_occupy : MethodName := ⟨RX2, "occupy", "(II)V"⟩
abbrev cX2_release : ByteArray := prog_4_method_18_code
def yX2_release : MethodName := ⟨RX2, "release", "(I)V"⟩
abbrev cX2_fixedAccepts : ByteArray := prog_4_method_19_code
def yX2_fixedAccepts : MethodName := ⟨RX2, "fixedAccepts", "(I)Z"⟩
abbrev cX2_returnCalls : ByteArray := prog_4_method_20_code
def yX2_returnCalls : MethodName := ⟨RX2, "returnCalls", "()I"⟩
abbrev cX2_nextToReturn : ByteArray := prog_4_method_21_code
def yX2_nextToReturn : MethodName := ⟨RX2, "nextToReturn", "()I"⟩
abbrev cX2_isNominal : ByteArray := prog_4_method_22_code
def yX2_isNominal : MethodName := ⟨RX2, "isNominal", "(II)Z"⟩
abbrev cX2_usedIn : ByteArray := prog_4_method_23_code
def yX2_usedIn : MethodName := ⟨RX2, "usedIn", "(I)I"⟩
abbrev cX2_availableIn : ByteArray := prog_4_method_24_code
def yX2_availableIn : MethodName := ⟨RX2, "availableIn", "(I)I"⟩
abbrev cX2_availableNominals : ByteArray := prog_4_method_25_code
def yX2_availableNominals : MethodName := ⟨RX2, "availableNominals", "(I)I"⟩
abbrev cX2_lockers : ByteArray := prog_4_method_26_code
def yX2_lockers : MethodName := ⟨RX2, "lockers", "(II)I"⟩
abbrev cX2_chooseChannel : ByteArray := prog_4_method_27_code
def yX2_chooseChannel : MethodName := ⟨RX2, "chooseChannel", "(I)I"⟩
abbrev cX2_chooseDonor : ByteArray := prog_4_method_28_code
def yX2_chooseDonor : MethodName := ⟨RX2, "chooseDonor", "(I)I"⟩
abbrev cX2_bestDonor : ByteArray := prog_4_method_29_code
def yX2_bestDonor : MethodName := ⟨RX2, "bestDonor", "(II)I"⟩
abbrev cX2_rankOf : ByteArray := prog_4_method_30_code
def yX2_rankOf : MethodName := ⟨RX2, "rankOf", "(III)I"⟩
abbrev cX2_lowestOf : ByteArray := prog_4_method_31_code
def yX2_lowestOf : MethodName := ⟨RX2, "lowestOf", "(I)I"⟩
abbrev cX2_greatestOf : ByteArray := prog_4_method_32_code
def yX2_greatestOf : MethodName := ⟨RX2, "greatestOf", "(I)I"⟩
def RX3 : String := "ChannelBorrower$Script"
def TX3 : u_T := fun k => match k with
  | 0 => ("ChannelBorrower$Script", "length", "I", false)
  | 1 => ("ChannelBorrower$Script", "position", "I", false)
  | 2 => ("ChannelBorrower$Script", "commands", "I", false)
  | 3 => ("ChannelBorrower$Script", "letters", "[I", true)
  | 4 => ("ChannelBorrower$Script", "firsts", "[I", true)
  | 5 => ("ChannelBorrower$Script", "seconds", "[I", true)
  | _ => ("ChannelBorrower$Script", "text", "[I", true)
def tyX3 : Nat → FieldType := fun k => match k with
  | 0 => .int
  | 1 => .int
  | 2 => .int
  | 3 => .array .int
  | 4 => .array .int
  | 5 => .array .int
  | _ => .array .int
abbrev wsX30 : List Cond := u_ws RX3 TX3 7
theorem nmX3 : ∀ a, a < 7 → ∀ b, b < 7 → a ≠ b → (TX3 a).2.1 ≠ (TX3 b).2.1 := by decide +kernel
theorem tyX3_ok : ∀ k, k < 7 → parseFieldDescriptor (TX3 k).2.2.1 = some (tyX3 k) := by decide +kernel
abbrev cX3_init : ByteArray := prog_5_method_1_code
def yX3_init : MethodName := ⟨RX3, "<init>", "()V"⟩
abbrev cX3_append : ByteArray := prog_5_method_2_code
def yX3_append : MethodName := ⟨RX3, "append", "(I)Z"⟩
abbrev cX3_read : ByteArray := prog_5_method_3_code
def yX3_read : MethodName := ⟨RX3, "read", "()Z"⟩
abbrev cX3_readCommand : ByteArray := prog_5_method_4_code
def yX3_readCommand : MethodName := ⟨RX3, "readCommand", "()Z"⟩
abbrev cX3_readNumber : ByteArray := prog_5_method_5_code
def yX3_readNumber : MethodName := ⟨RX3, "readNumber", "()I"⟩
abbrev cX3_readSign : ByteArray := prog_5_method_6_code
def yX3_readSign : MethodName := ⟨RX3, "readSign", "(I)Z"⟩
abbrev cX3_keep : ByteArray := prog_5_method_7_code
def yX3_keep : MethodName := ⟨RX3, "keep", "(III)Z"⟩
abbrev cX3_skipSpaces : ByteArray := prog_5_method_8_code
def yX3_skipSpaces : MethodName := ⟨RX3, "skipSpaces", "()V"⟩
abbrev cX3_digit : ByteArray := prog_5_method_9_code
def yX3_digit : MethodName := ⟨RX3, "digit", "()I"⟩
abbrev cX3_character : ByteArray := prog_5_method_10_code
def yX3_character : MethodName := ⟨RX3, "character", "()I"⟩
def RX4 : String := "ChannelBorrower"
def TX4 : u_T := fun k => match k with
  | 0 => ("ChannelBorrower", "network", "LChannelBorrower$Network;", true)
  | 1 => ("ChannelBorrower", "history", "LChannelBorrower$History;", true)
  | 2 => ("ChannelBorrower", "snapshots", "[LChannelBorrower$Network;", true)
  | _ => ("ChannelBorrower", "script", "LChannelBorrower$Script;", true)
def tyX4 : Nat → FieldType := fun k => match k with
  | 0 => .object "ChannelBorrower$Network"
  | 1 => .object "ChannelBorrower$History"
  | 2 => .array (.object "ChannelBorrower$Network")
  | _ => .object "ChannelBorrower$Script"
abbrev wsX40 : List Cond := u_ws RX4 TX4 4
theorem nmX4 : ∀ a, a < 4 → ∀ b, b < 4 → a ≠ b → (TX4 a).2.1 ≠ (TX4 b).2.1 := by decide +kernel
theorem tyX4_ok : ∀ k, k < 4 → parseFieldDescriptor (TX4 k).2.2.1 = some (tyX4 k) := by decide +kernel
abbrev cX4_init : ByteArray := prog_1_method_1_code
def yX4_init : MethodName := ⟨RX4, "<init>", "()V"⟩
abbrev cX4_configure : ByteArray := prog_1_method_2_code
def yX4_configure : MethodName := ⟨RX4, "configure", "(IIII)I"⟩
abbrev cX4_setStrategy : ByteArray := prog_1_method_3_code
def yX4_setStrategy : MethodName := ⟨RX4, "setStrategy", "(I)I"⟩
abbrev cX4_setReserve : ByteArray := prog_1_method_4_code
def yX4_setReserve : MethodName := ⟨RX4, "setReserve", "(I)I"⟩
abbrev cX4_setReturning : ByteArray := prog_1_method_5_code
def yX4_setReturning : MethodName := ⟨RX4, "setReturning", "(I)I"⟩
abbrev cX4_cellCount : ByteArray := prog_1_method_6_code
def yX4_cellCount : MethodName := ⟨RX4, "cellCount", "()I"⟩
abbrev cX4_channelCount : ByteArray := prog_1_method_7_code
def yX4_channelCount : MethodName := ⟨RX4, "channelCount", "()I"⟩
abbrev cX4_groupOf : ByteArray := prog_1_method_8_code
def yX4_groupOf : MethodName := ⟨RX4, "groupOf", "(I)I"⟩
abbrev cX4_distance : ByteArray := prog_1_method_9_code
def yX4_distance : MethodName := ⟨RX4, "distance", "(II)I"⟩
abbrev cX4_startCall : ByteArray := prog_1_method_10_code
def yX4_startCall : MethodName := ⟨RX4, "startCall", "(I)I"⟩
abbrev cX4_endCall : ByteArray := prog_1_method_11_code
def yX4_endCall : MethodName := ⟨RX4, "endCall", "(I)I"⟩
abbrev cX4_handOver : ByteArray := prog_1_method_12_code
def yX4_handOver : MethodName := ⟨RX4, "handOver", "(II)I"⟩
abbrev cX4_cellOf : ByteArray := prog_1_method_13_code
def yX4_cellOf : MethodName := ⟨RX4, "cellOf", "(I)I"⟩
abbrev cX4_channelOf : ByteArray := prog_1_method_14_code
def yX4_channelOf : MethodName := ⟨RX4, "channelOf", "(I)I"⟩
abbrev cX4_isBorrowed : ByteArray := prog_1_method_15_code
def yX4_isBorrowed : MethodName := ⟨RX4, "isBorrowed", "(I)I"⟩
abbrev cX4_isInFixedScheme : ByteArray := prog_1_method_16_code
def yX4_isInFixedScheme : MethodName := ⟨RX4, "isInFixedScheme", "(I)I"⟩
abbrev cX4_isAvailable : ByteArray := prog_1_method_17_code
def yX4_isAvailable : MethodName := ⟨RX4, "isAvailable", "(II)I"⟩
abbrev cX4_lockCount : ByteArray := prog_1_method_18_code
def yX4_lockCount : MethodName := ⟨RX4, "lockCount", "(II)I"⟩
abbrev cX4_burden : ByteArray := prog_1_method_19_code
def yX4_burden : MethodName := ⟨RX4, "burden", "(II)I"⟩
abbrev cX4_availableCount : ByteArray := prog_1_method_20_code
def yX4_availableCount : MethodName := ⟨RX4, "availableCount", "(I)I"⟩
abbrev cX4_usedCount : ByteArray := prog_1_method_21_code
def yX4_usedCount : MethodName := ⟨RX4, "usedCount", "(I)I"⟩
abbrev cX4_lockedCount : ByteArray := prog_1_method_22_code
def yX4_lockedCount : MethodName := ⟨RX4, "lockedCount", "(I)I"⟩
abbrev cX4_nextChannel : ByteArray := prog_1_method_23_code
def yX4_nextChannel : MethodName := ⟨RX4, "nextChannel", "(I)I"⟩
abbrev cX4_nextDonor : ByteArray := prog_1_method_24_code
def yX4_nextDonor : MethodName := ⟨RX4, "nextDonor", "(I)I"⟩
abbrev cX4_blockingCells : ByteArray := prog_1_method_25_code
def yX4_blockingCells : MethodName := ⟨RX4, "blockingCells", "()I"⟩
abbrev cX4_callCount : ByteArray := prog_1_method_26_code
def yX4_callCount : MethodName := ⟨RX4, "callCount", "()I"⟩
abbrev cX4_attempts : ByteArray := prog_1_method_27_code
def yX4_attempts : MethodName := ⟨RX4, "attempts", "()I"⟩
abbrev cX4_blocked : ByteArray := prog_1_method_28_code
def yX4_blocked : MethodName := ⟨RX4, "blocked", "()I"⟩
abbrev cX4_blockedInFixedScheme : ByteArray := prog_1_method_29_code
def yX4_blockedInFixedScheme : MethodName := ⟨RX4, "blockedInFixedScheme", "()I"⟩
abbrev cX4_dropped : ByteArray := prog_1_method_30_code
def yX4_dropped : MethodName := ⟨RX4, "dropped", "()I"⟩
abbrev cX4_droppedInFixedScheme : ByteArray := prog_1_method_31_code
def yX4_droppedInFixedScheme : MethodName := ⟨RX4, "droppedInFixedScheme", "()I"⟩
abbrev cX4_borrowings : ByteArray := prog_1_method_32_code
def yX4_borrowings : MethodName := ⟨RX4, "borrowings", "()I"⟩
abbrev cX4_returns : ByteArray := prog_1_method_33_code
def yX4_returns : MethodName := ⟨RX4, "returns", "()I"⟩
abbrev cX4_appendCharacter : ByteArray := prog_1_method_34_code
def yX4_appendCharacter : MethodName := ⟨RX4, "appendCharacter", "(I)I"⟩
abbrev cX4_clearText : ByteArray := prog_1_method_35_code
def yX4_clearText : MethodName := ⟨RX4, "clearText", "()I"⟩
abbrev cX4_runScript : ByteArray := prog_1_method_36_code
def yX4_runScript : MethodName := ⟨RX4, "runScript", "()I"⟩
abbrev cX4_undo : ByteArray := prog_1_method_37_code
def yX4_undo : MethodName := ⟨RX4, "undo", "()I"⟩
abbrev cX4_save : ByteArray := prog_1_method_38_code
def yX4_save : MethodName := ⟨RX4, "save", "(I)I"⟩
abbrev cX4_restore : ByteArray := prog_1_method_39_code
def yX4_restore : MethodName := ⟨RX4, "restore", "(I)I"⟩
abbrev cX4_isCell : ByteArray := prog_1_method_40_code
def yX4_isCell : MethodName := ⟨RX4, "isCell", "(I)Z"⟩
abbrev cX4_isChannel : ByteArray := prog_1_method_41_code
def yX4_isChannel : MethodName := ⟨RX4, "isChannel", "(I)Z"⟩
abbrev cX4_commandError : ByteArray := prog_1_method_42_code
def yX4_commandError : MethodName := ⟨RX4, "commandError", "(III)I"⟩
abbrev cX4_isBetween : ByteArray := prog_1_method_43_code
def yX4_isBetween : MethodName := ⟨RX4, "isBetween", "(III)Z"⟩
abbrev cX4_asNumber : ByteArray := prog_1_method_44_code
def yX4_asNumber : MethodName := ⟨RX4, "asNumber", "(Z)I"⟩
abbrev cX4_contains : ByteArray := prog_1_method_45_code
def yX4_contains : MethodName := ⟨RX4, "contains", "(II)Z"⟩
def RX5 : String := "ChannelBorrowerModel"
def TX5 : u_T := fun k => match k with
  | 0 => ("ChannelBorrowerModel", "s", "[I", true)
  | 1 => ("ChannelBorrowerModel", "past", "[I", true)
  | 2 => ("ChannelBorrowerModel", "pasts", "I", false)
  | 3 => ("ChannelBorrowerModel", "slots", "[I", true)
  | 4 => ("ChannelBorrowerModel", "isSaved", "[Z", true)
  | 5 => ("ChannelBorrowerModel", "text", "[B", true)
  | 6 => ("ChannelBorrowerModel", "typed", "I", false)
  | 7 => ("ChannelBorrowerModel", "donor", "I", false)
  | 8 => ("ChannelBorrowerModel", "isOpen", "[Z", true)
  | 9 => ("ChannelBorrowerModel", "at", "I", false)
  | _ => ("ChannelBorrowerModel", "isWrong", "Z", false)
def tyX5 : Nat → FieldType := fun k => match k with
  | 0 => .array .int
  | 1 => .array .int
  | 2 => .int
  | 3 => .array .int
  | 4 => .array .boolean
  | 5 => .array .byte
  | 6 => .int
  | 7 => .int
  | 8 => .array .boolean
  | 9 => .int
  | _ => .boolean
abbrev wsX50 : List Cond := u_ws RX5 TX5 11
theorem nmX5 : ∀ a, a < 11 → ∀ b, b < 11 → a ≠ b → (TX5 a).2.1 ≠ (TX5 b).2.1 := by decide +kernel
theorem tyX5_ok : ∀ k, k < 11 → parseFieldDescriptor (TX5 k).2.2.1 = some (tyX5 k) := by decide +kernel
abbrev cX5_init : ByteArray := prog_7_method_1_code
def yX5_init : MethodName := ⟨RX5, "<init>", "()V"⟩
abbrev cX5_in : ByteArray := prog_7_method_3_code
def yX5_in : MethodName := ⟨RX5, "in", "(III)Z"⟩
abbrev cX5_note : ByteArray := prog_7_method_4_code
def yX5_note : MethodName := ⟨RX5, "note", "()V"⟩
abbrev cX5_undo : ByteArray := prog_7_method_5_code
def yX5_undo : MethodName := ⟨RX5, "undo", "()I"⟩
abbrev cX5_save : ByteArray := prog_7_method_6_code
def yX5_save : MethodName := ⟨RX5, "save", "(I)I"⟩
abbrev cX5_restore : ByteArray := prog_7_method_7_code
def yX5_restore : MethodName := ⟨RX5, "restore", "(I)I"⟩
abbrev cX5_cells : ByteArray := prog_7_method_8_code
def yX5_cells : MethodName := ⟨RX5, "cells", "()I"⟩
abbrev cX5_isCell : ByteArray := prog_7_method_9_code
def yX5_isCell : MethodName := ⟨RX5, "isCell", "(I)Z"⟩
abbrev cX5_groups : ByteArray := prog_7_method_10_code
def yX5_groups : MethodName := ⟨RX5, "groups", "()I"⟩
abbrev cX5_channels : ByteArray := prog_7_method_11_code
def yX5_channels : MethodName := ⟨RX5, "channels", "()I"⟩
abbrev cX5_isChannel : ByteArray := prog_7_method_12_code
def yX5_isChannel : MethodName := ⟨RX5, "isChannel", "(I)Z"⟩
abbrev cX5_group : ByteArray := prog_7_method_13_code
def yX5_group : MethodName := ⟨RX5, "group", "(I)I"⟩
abbrev cX5_size : ByteArray := prog_7_method_14_code
def yX5_size : MethodName := ⟨RX5, "size", "(I)I"⟩
abbrev cX5_far : ByteArray := prog_7_method_15_code
def yX5_far : MethodName := ⟨RX5, "far", "(II)I"⟩
abbrev cX5_isNominal : ByteArray := prog_7_method_16_code
def yX5_isNominal : MethodName := ⟨RX5, "isNominal", "(II)Z"⟩
abbrev cX5_uses : ByteArray := prog_7_method_17_code
def yX5_uses : MethodName := ⟨RX5, "uses", "(II)Z"⟩
abbrev cX5_locks : ByteArray := prog_7_method_18_code
def yX5_locks : MethodName := ⟨RX5, "locks", "(II)I"⟩
abbrev cX5_available : ByteArray := prog_7_method_19_code
def yX5_available : MethodName := ⟨RX5, "available", "(II)Z"⟩
abbrev cX5_burdenOf : ByteArray := prog_7_method_20_code
def yX5_burdenOf : MethodName := ⟨RX5, "burdenOf", "(II)I"⟩
abbrev cX5_availables : ByteArray := prog_7_method_21_code
def yX5_availables : MethodName := ⟨RX5, "availables", "(I)I"⟩
abbrev cX5_nominal : ByteArray := prog_7_method_22_code
def yX5_nominal : MethodName := ⟨RX5, "nominal", "(I)I"⟩
abbrev cX5_choose : ByteArray := prog_7_method_23_code
def yX5_choose : MethodName := ⟨RX5, "choose", "(I)I"⟩
abbrev cX5_isCall : ByteArray := prog_7_method_24_code
def yX5_isCall : MethodName := ⟨RX5, "isCall", "(I)Z"⟩
abbrev cX5_calls : ByteArray := prog_7_method_25_code
def yX5_calls : MethodName := ⟨RX5, "calls", "()I"⟩
abbrev cX5_borrowed : ByteArray := prog_7_method_26_code
def yX5_borrowed : MethodName := ⟨RX5, "borrowed", "(I)Z"⟩
abbrev cX5_fixedIn : ByteArray := prog_7_method_27_code
def yX5_fixedIn : MethodName := ⟨RX5, "fixedIn", "(I)I"⟩
abbrev cX5_forget : ByteArray := prog_7_method_28_code
def yX5_forget : MethodName := ⟨RX5, "forget", "(I)V"⟩
abbrev cX5_pass : ByteArray := prog_7_method_29_code
def yX5_pass : MethodName := ⟨RX5, "pass", "()I"⟩
abbrev cX5_start : ByteArray := prog_7_method_30_code
def yX5_start : MethodName := ⟨RX5, "start", "(I)I"⟩
abbrev cX5_channelNow : ByteArray := prog_7_method_31_code
def yX5_channelNow : MethodName := ⟨RX5, "channelNow", "(I)I"⟩
abbrev cX5_end : ByteArray := prog_7_method_32_code
def yX5_end : MethodName := ⟨RX5, "end", "(I)I"⟩
abbrev cX5_hand : ByteArray := prog_7_method_33_code
def yX5_hand : MethodName := ⟨RX5, "hand", "(II)I"⟩
abbrev cX5_does : ByteArray := prog_7_method_34_code
def yX5_does : MethodName := ⟨RX5, "does", "(III)I"⟩
abbrev cX5_isError : ByteArray := prog_7_method_35_code
def yX5_isError : MethodName := ⟨RX5, "isError", "(III)Z"⟩
abbrev cX5_errorOf : ByteArray := prog_7_method_36_code
def yX5_errorOf : MethodName := ⟨RX5, "errorOf", "(III)I"⟩
abbrev cX5_startCall : ByteArray := prog_7_method_37_code
def yX5_startCall : MethodName := ⟨RX5, "startCall", "(I)I"⟩
abbrev cX5_endCall : ByteArray := prog_7_method_38_code
def yX5_endCall : MethodName := ⟨RX5, "endCall", "(I)I"⟩
abbrev cX5_handOver : ByteArray := prog_7_method_39_code
def yX5_handOver : MethodName := ⟨RX5, "handOver", "(II)I"⟩
abbrev cX5_configure : ByteArray := prog_7_method_40_code
def yX5_configure : MethodName := ⟨RX5, "configure", "(IIII)I"⟩
abbrev cX5_change : ByteArray := prog_7_method_41_code
def yX5_change : MethodName := ⟨RX5, "change", "(II)I"⟩
abbrev cX5_setStrategy : ByteArray := prog_7_method_42_code
def yX5_setStrategy : MethodName := ⟨RX5, "setStrategy", "(I)I"⟩
abbrev cX5_setReserve : ByteArray := prog_7_method_43_code
def yX5_setReserve : MethodName := ⟨RX5, "setReserve", "(I)I"⟩
abbrev cX5_setReturning : ByteArray := prog_7_method_44_code
def yX5_setReturning : MethodName := ⟨RX5, "setReturning", "(I)I"⟩
abbrev cX5_cellCount : ByteArray := prog_7_method_45_code
def yX5_cellCount : MethodName := ⟨RX5, "cellCount", "()I"⟩
abbrev cX5_channelCount : ByteArray := prog_7_method_46_code
def yX5_channelCount : MethodName := ⟨RX5, "channelCount", "()I"⟩
abbrev cX5_groupOf : ByteArray := prog_7_method_47_code
def yX5_groupOf : MethodName := ⟨RX5, "groupOf", "(I)I"⟩
abbrev cX5_distance : ByteArray := prog_7_method_48_code
def yX5_distance : MethodName := ⟨RX5, "distance", "(II)I"⟩
abbrev cX5_cellOf : ByteArray := prog_7_method_49_code
def yX5_cellOf : MethodName := ⟨RX5, "cellOf", "(I)I"⟩
abbrev cX5_channelOf : ByteArray := prog_7_method_50_code
def yX5_channelOf : MethodName := ⟨RX5, "channelOf", "(I)I"⟩
abbrev cX5_isBorrowed : ByteArray := prog_7_method_51_code
def yX5_isBorrowed : MethodName := ⟨RX5, "isBorrowed", "(I)I"⟩
abbrev cX5_isInFixedScheme : ByteArray := prog_7_method_52_code
def yX5_isInFixedScheme : MethodName := ⟨RX5, "isInFixedScheme", "(I)I"⟩
abbrev cX5_isAvailable : ByteArray := prog_7_method_53_code
def yX5_isAvailable : MethodName := ⟨RX5, "isAvailable", "(II)I"⟩
abbrev cX5_lockCount : ByteArray := prog_7_method_54_code
def yX5_lockCount : MethodName := ⟨RX5, "lockCount", "(II)I"⟩
abbrev cX5_burden : ByteArray := prog_7_method_55_code
def yX5_burden : MethodName := ⟨RX5, "burden", "(II)I"⟩
abbrev cX5_availableCount : ByteArray := prog_7_method_56_code
def yX5_availableCount : MethodName := ⟨RX5, "availableCount", "(I)I"⟩
abbrev cX5_usedCount : ByteArray := prog_7_method_57_code
def yX5_usedCount : MethodName := ⟨RX5, "usedCount", "(I)I"⟩
abbrev cX5_lockedCount : ByteArray := prog_7_method_58_code
def yX5_lockedCount : MethodName := ⟨RX5, "lockedCount", "(I)I"⟩
abbrev cX5_nextChannel : ByteArray := prog_7_method_59_code
def yX5_nextChannel : MethodName := ⟨RX5, "nextChannel", "(I)I"⟩
abbrev cX5_nextDonor : ByteArray := prog_7_method_60_code
def yX5_nextDonor : MethodName := ⟨RX5, "nextDonor", "(I)I"⟩
abbrev cX5_blockingCells : ByteArray := prog_7_method_61_code
def yX5_blockingCells : MethodName := ⟨RX5, "blockingCells", "()I"⟩
abbrev cX5_callCount : ByteArray := prog_7_method_62_code
def yX5_callCount : MethodName := ⟨RX5, "callCount", "()I"⟩
abbrev cX5_attempts : ByteArray := prog_7_method_63_code
def yX5_attempts : MethodName := ⟨RX5, "attempts", "()I"⟩
abbrev cX5_blocked : ByteArray := prog_7_method_64_code
def yX5_blocked : MethodName := ⟨RX5, "blocked", "()I"⟩
abbrev cX5_blockedInFixedScheme : ByteArray := prog_7_method_65_code
def yX5_blockedInFixedScheme : MethodName := ⟨RX5, "blockedInFixedScheme", "()I"⟩
abbrev cX5_dropped : ByteArray := prog_7_method_66_code
def yX5_dropped : MethodName := ⟨RX5, "dropped", "()I"⟩
abbrev cX5_droppedInFixedScheme : ByteArray := prog_7_method_67_code
def yX5_droppedInFixedScheme : MethodName := ⟨RX5, "droppedInFixedScheme", "()I"⟩
abbrev cX5_borrowings : ByteArray := prog_7_method_68_code
def yX5_borrowings : MethodName := ⟨RX5, "borrowings", "()I"⟩
abbrev cX5_returns : ByteArray := prog_7_method_69_code
def yX5_returns : MethodName := ⟨RX5, "returns", "()I"⟩
abbrev cX5_appendCharacter : ByteArray := prog_7_method_70_code
def yX5_appendCharacter : MethodName := ⟨RX5, "appendCharacter", "(I)I"⟩
abbrev cX5_clearText : ByteArray := prog_7_method_71_code
def yX5_clearText : MethodName := ⟨RX5, "clearText", "()I"⟩
abbrev cX5_here : ByteArray := prog_7_method_72_code
def yX5_here : MethodName := ⟨RX5, "here", "()I"⟩
abbrev cX5_skip : ByteArray := prog_7_method_73_code
def yX5_skip : MethodName := ⟨RX5, "skip", "()V"⟩
abbrev cX5_expect : ByteArray := prog_7_method_74_code
def yX5_expect : MethodName := ⟨RX5, "expect", "(I)V"⟩
abbrev cX5_number : ByteArray := prog_7_method_75_code
def yX5_number : MethodName := ⟨RX5, "number", "()I"⟩
abbrev cX5_script : ByteArray := prog_7_method_76_code
def yX5_script : MethodName := ⟨RX5, "script", "(Z)I"⟩
abbrev cX5_runScript : ByteArray := prog_7_method_77_code
def yX5_runScript : MethodName := ⟨RX5, "runScript", "()I"⟩
def RJ6 : String := "java/lang/Integer"
def TJ6 : u_T := fun k => match k with
  | _ => ("", "", "", false)
def tyJ6 : Nat → FieldType := fun k => match k with
  | _ => .int
abbrev wsJ60 : List Cond := u_ws RJ6 TJ6 0
theorem nmJ6 : ∀ a, a < 0 → ∀ b, b < 0 → a ≠ b → (TJ6 a).2.1 ≠ (TJ6 b).2.1 := by decide +kernel
theorem tyJ6_ok : ∀ k, k < 0 → parseFieldDescriptor (TJ6 k).2.2.1 = some (tyJ6 k) := by decide +kernel
abbrev cJ6_bitCount_0f7a4 : ByteArray := prog_8_method_49_code
def yJ6_bitCount_0f7a4 : MethodName := ⟨RJ6, "bitCount", "(I)I"⟩
def RJ9 : String := "java/lang/Math"
def TJ9 : u_T := fun k => match k with
  | _ => ("", "", "", false)
def tyJ9 : Nat → FieldType := fun k => match k with
  | _ => .int
abbrev wsJ90 : List Cond := u_ws RJ9 TJ9 0
theorem nmJ9 : ∀ a, a < 0 → ∀ b, b < 0 → a ≠ b → (TJ9 a).2.1 ≠ (TJ9 b).2.1 := by decide +kernel
theorem tyJ9_ok : ∀ k, k < 0 → parseFieldDescriptor (TJ9 k).2.2.1 = some (tyJ9 k) := by decide +kernel
abbrev cJ9_abs_0f7a4 : ByteArray := prog_9_method_59_code
def yJ9_abs_0f7a4 : MethodName := ⟨RJ9, "abs", "(I)I"⟩
abbrev cJ9_max_7cf53 : ByteArray := prog_9_method_65_code
def yJ9_max_7cf53 : MethodName := ⟨RJ9, "max", "(II)I"⟩
abbrev cJ9_min_7cf53 : ByteArray := prog_9_method_69_code
def yJ9_min_7cf53 : MethodName := ⟨RJ9, "min", "(II)I"⟩
def RJ10 : String := "java/lang/System"
def TJ10 : u_T := fun k => match k with
  | _ => ("", "", "", false)
def tyJ10 : Nat → FieldType := fun k => match k with
  | _ => .int
abbrev wsJ100 : List Cond := u_ws RJ10 TJ10 0
theorem nmJ10 : ∀ a, a < 0 → ∀ b, b < 0 → a ≠ b → (TJ10 a).2.1 ≠ (TJ10 b).2.1 := by decide +kernel
theorem tyJ10_ok : ∀ k, k < 0 → parseFieldDescriptor (TJ10 k).2.2.1 = some (tyJ10 k) := by decide +kernel
def RJ7 : String := "java/util/Arrays"
def TJ7 : u_T := fun k => match k with
  | _ => ("", "", "", false)
def tyJ7 : Nat → FieldType := fun k => match k with
  | _ => .int
abbrev wsJ70 : List Cond := u_ws RJ7 TJ7 0
theorem nmJ7 : ∀ a, a < 0 → ∀ b, b < 0 → a ≠ b → (TJ7 a).2.1 ≠ (TJ7 b).2.1 := by decide +kernel
theorem tyJ7_ok : ∀ k, k < 0 → parseFieldDescriptor (TJ7 k).2.2.1 = some (tyJ7 k) := by decide +kernel
abbrev cJ7_fill_53178 : ByteArray := prog_11_method_103_code
def yJ7_fill_53178 : MethodName := ⟨RJ7, "fill", "([II)V"⟩
def RL : String := "ChannelBorrowerLaw"
abbrev cL_law : ByteArray := code
def yL_law : MethodName := ⟨RL, "law", "([I)Z"⟩
def wsL_law_r1 : List Cond := [Cond.classLink RL 7 RX4, Cond.instantiable RX4 4, Cond.initialized RX4, Cond.classLink RL 10 RX5, Cond.instantiable RX5 11, Cond.initialized RX5, Cond.methodLink RL 9 yX4_init, Cond.instanceMethod yX4_init, Cond.code yX4_init cX4_init 2 none, Cond.methodLink RX4 3 objectInit, Cond.instanceMethod objectInit, Cond.code objectInit ⟨#[0xb1]⟩ 1 none, Cond.classLink RX4 9 RX1, Cond.instantiable RX1 8, Cond.initialized RX1, Cond.classLink RX4 14 RX2, Cond.instantiable RX2 15, Cond.initialized RX2, Cond.fieldLink RX4 19 "ChannelBorrower" "network" "LChannelBorrower$Network;", Cond.classLink RX4 23 RX0, Cond.instantiable RX0 3, Cond.initialized RX0, Cond.fieldLink RX4 26 "ChannelBorrower" "history" "LChannelBorrower$History;", Cond.fieldLink RX4 30 "ChannelBorrower" "snapshots" "[LChannelBorrower$Network;"]
def wsL_law_r2 : List Cond := [Cond.classLink RX4 34 RX3, Cond.instantiable RX3 7, Cond.initialized RX3, Cond.fieldLink RX4 37 "ChannelBorrower" "script" "LChannelBorrower$Script;", Cond.methodLink RX4 11 yX1_init, Cond.instanceMethod yX1_init, Cond.code yX1_init cX1_init 7 none, Cond.methodLink RX1 3 objectInit, Cond.arrayClass .int, Cond.fieldLink RX1 9 "ChannelBorrower$Layout" "row" "[I", Cond.fieldLink RX1 15 "ChannelBorrower$Layout" "column" "[I", Cond.fieldLink RX1 18 "ChannelBorrower$Layout" "group" "[I", Cond.fieldLink RX1 21 "ChannelBorrower$Layout" "nominals" "[I", Cond.fieldLink RX1 24 "ChannelBorrower$Layout" "nearCells" "[I", Cond.fieldLink RX1 27 "ChannelBorrower$Layout" "cells" "I", Cond.fieldLink RX1 31 "ChannelBorrower$Layout" "channels" "I", Cond.fieldLink RX1 34 "ChannelBorrower$Layout" "groupSize" "I", Cond.methodLink RX1 37 yX1_placeCells, Cond.instanceMethod yX1_placeCells, Cond.selects RX1 yX1_placeCells yX1_placeCells, Cond.code yX1_placeCells cX1_placeCells 6 none, Cond.methodLink RX1 41 yX1_channelsOfGroup, Cond.instanceMethod yX1_channelsOfGroup, Cond.selects RX1 yX1_channelsOfGroup yX1_channelsOfGroup]
def wsL_law_r3 : List Cond := [Cond.code yX1_channelsOfGroup cX1_channelsOfGroup 5 (some .int), Cond.methodLink RX1 45 yX1_cellsWithin, Cond.instanceMethod yX1_cellsWithin, Cond.selects RX1 yX1_cellsWithin yX1_cellsWithin, Cond.code yX1_cellsWithin cX1_cellsWithin 5 (some .int), Cond.methodLink RX1 48 yX1_separation, Cond.instanceMethod yX1_separation, Cond.selects RX1 yX1_separation yX1_separation, Cond.code yX1_separation cX1_separation 5 (some .int), Cond.methodLink RX1 55 Lib.Math.abs.name, Cond.static Lib.Math.abs.name, Cond.initialized "java/lang/Math", Cond.code Lib.Math.abs.name Lib.Math.abs.code 1 (some .int), Cond.methodLink RX1 61 Lib.Math.max.name, Cond.static Lib.Math.max.name, Cond.code Lib.Math.max.name Lib.Math.max.code 2 (some .int), Cond.methodLink RX1 51 yX1_hasCell, Cond.instanceMethod yX1_hasCell, Cond.selects RX1 yX1_hasCell yX1_hasCell, Cond.code yX1_hasCell cX1_hasCell 2 (some .boolean), Cond.methodLink RX4 16 yX2_init, Cond.instanceMethod yX2_init, Cond.code yX2_init cX2_init 2 none, Cond.methodLink RX2 3 objectInit]
def wsL_law_r4 : List Cond := [Cond.fieldLink RX2 9 "ChannelBorrower$Network" "returning" "Z", Cond.fieldLink RX2 15 "ChannelBorrower$Network" "callCell" "[I", Cond.fieldLink RX2 19 "ChannelBorrower$Network" "callChannel" "[I", Cond.fieldLink RX2 22 "ChannelBorrower$Network" "callFixed" "[I", Cond.fieldLink RX2 25 "ChannelBorrower$Network" "used" "[I", Cond.methodLink RX2 28 yX2_begin, Cond.instanceMethod yX2_begin, Cond.selects RX2 yX2_begin yX2_begin, Cond.code yX2_begin cX2_begin 2 none, Cond.fieldLink RX2 32 "ChannelBorrower$Network" "layout" "LChannelBorrower$Layout;", Cond.fieldLink RX2 36 "ChannelBorrower$Network" "attempts" "I", Cond.fieldLink RX2 40 "ChannelBorrower$Network" "blocked" "I", Cond.fieldLink RX2 43 "ChannelBorrower$Network" "blockedInFixed" "I", Cond.fieldLink RX2 46 "ChannelBorrower$Network" "dropped" "I", Cond.fieldLink RX2 49 "ChannelBorrower$Network" "droppedInFixed" "I", Cond.fieldLink RX2 52 "ChannelBorrower$Network" "borrowings" "I", Cond.fieldLink RX2 55 "ChannelBorrower$Network" "returnSteps" "I", Cond.methodLink RX2 58 yJ7_fill_53178, Cond.static yJ7_fill_53178, Cond.initialized RJ7, Cond.code yJ7_fill_53178 cJ7_fill_53178 4 none, Cond.methodLink RX4 25 yX0_init, Cond.instanceMethod yX0_init, Cond.code yX0_init cX0_init 3 none]
def wsL_law_r5 : List Cond := [Cond.methodLink RX0 3 objectInit, Cond.classLink RX0 9 RX2, Cond.fieldLink RX0 11 "ChannelBorrower$History" "states" "[LChannelBorrower$Network;", Cond.methodLink RX0 17 yX2_init, Cond.instanceMethod yX3_init, Cond.code yX3_init cX3_init 1 none, Cond.methodLink RX3 3 objectInit, Cond.fieldLink RX3 9 "ChannelBorrower$Script" "letters" "[I", Cond.fieldLink RX3 15 "ChannelBorrower$Script" "firsts" "[I", Cond.fieldLink RX3 18 "ChannelBorrower$Script" "seconds" "[I", Cond.fieldLink RX3 21 "ChannelBorrower$Script" "text" "[I", Cond.methodLink RL 12 yX5_init, Cond.instanceMethod yX5_init, Cond.code yX5_init cX5_init 1 none, Cond.methodLink RX5 1 objectInit, Cond.fieldLink RX5 7 "ChannelBorrowerModel" "s" "[I", Cond.fieldLink RX5 13 "ChannelBorrowerModel" "past" "[I", Cond.fieldLink RX5 16 "ChannelBorrowerModel" "slots" "[I", Cond.arrayClass .boolean, Cond.fieldLink RX5 19 "ChannelBorrowerModel" "isSaved" "[Z", Cond.arrayClass .byte, Cond.fieldLink RX5 23 "ChannelBorrowerModel" "text" "[B", Cond.fieldLink RX5 27 "ChannelBorrowerModel" "isOpen" "[Z", Cond.methodLink RL 13 yX4_configure]
def wsL_law_r6 : List Cond := [Cond.instanceMethod yX4_configure, Cond.selects RX4 yX4_configure yX4_configure, Cond.code yX4_configure cX4_configure 6 (some .int), Cond.fieldLink RX4 52 "ChannelBorrower$Network" "layout" "LChannelBorrower$Layout;", Cond.fieldLink RX4 56 "ChannelBorrower$Layout" "channels" "I", Cond.methodLink RX4 41 yX4_isBetween, Cond.static yX4_isBetween, Cond.code yX4_isBetween cX4_isBetween 3 (some .boolean), Cond.methodLink RX4 45 yX0_push, Cond.instanceMethod yX0_push, Cond.selects RX0 yX0_push yX0_push, Cond.code yX0_push cX0_push 3 none, Cond.fieldLink RX0 20 "ChannelBorrower$History" "newest" "I", Cond.fieldLink RX0 32 "ChannelBorrower$History" "count" "I", Cond.methodLink RX0 35 Lib.Math.min.name, Cond.static Lib.Math.min.name, Cond.code Lib.Math.min.name Lib.Math.min.code 2 (some .int), Cond.methodLink RX0 24 yX0_newestState, Cond.instanceMethod yX0_newestState, Cond.selects RX0 yX0_newestState yX0_newestState, Cond.code yX0_newestState cX0_newestState 1 (some (.object "ChannelBorrower$Network")), Cond.methodLink RX0 28 yX2_copyFrom, Cond.instanceMethod yX2_copyFrom, Cond.selects RX2 yX2_copyFrom yX2_copyFrom]
def wsL_law_r7 : List Cond := [Cond.code yX2_copyFrom cX2_copyFrom 2 none, Cond.fieldLink RX2 64 "ChannelBorrower$Network" "strategy" "I", Cond.fieldLink RX2 67 "ChannelBorrower$Network" "reserve" "I", Cond.methodLink RX2 70 arraycopyName, Cond.native arraycopyName, Cond.static arraycopyName, Cond.initialized "java/lang/System", Cond.methodLink RX4 49 yX2_begin, Cond.methodLink RL 17 yX5_configure, Cond.instanceMethod yX5_configure, Cond.selects RX5 yX5_configure yX5_configure, Cond.code yX5_configure cX5_configure 6 (some .int), Cond.methodLink RX5 34 yX5_in, Cond.static yX5_in, Cond.code yX5_in cX5_in 3 (some .boolean), Cond.methodLink RX5 107 yX5_note, Cond.instanceMethod yX5_note, Cond.selects RX5 yX5_note yX5_note, Cond.code yX5_note cX5_note 2 none, Cond.fieldLink RX5 30 "ChannelBorrowerModel" "pasts" "I", Cond.methodLink RX5 48 yX5_channels, Cond.instanceMethod yX5_channels, Cond.selects RX5 yX5_channels yX5_channels, Cond.code yX5_channels cX5_channels 1 (some .int)]
def wsL_law_r8 : List Cond := [Cond.methodLink RX5 45 yX5_groups, Cond.instanceMethod yX5_groups, Cond.selects RX5 yX5_groups yX5_groups, Cond.code yX5_groups cX5_groups 1 (some .int), Cond.methodLink RL 18 yX4_setStrategy, Cond.instanceMethod yX4_setStrategy, Cond.selects RX4 yX4_setStrategy yX4_setStrategy, Cond.code yX4_setStrategy cX4_setStrategy 3 (some .int), Cond.fieldLink RX4 60 "ChannelBorrower$Network" "strategy" "I", Cond.methodLink RL 22 yX5_setStrategy, Cond.instanceMethod yX5_setStrategy, Cond.selects RX5 yX5_setStrategy yX5_setStrategy, Cond.code yX5_setStrategy cX5_setStrategy 2 (some .int), Cond.methodLink RX5 135 yX5_change, Cond.instanceMethod yX5_change, Cond.selects RX5 yX5_change yX5_change, Cond.code yX5_change cX5_change 4 (some .int), Cond.methodLink RL 23 yX4_setReserve, Cond.instanceMethod yX4_setReserve, Cond.selects RX4 yX4_setReserve yX4_setReserve, Cond.code yX4_setReserve cX4_setReserve 3 (some .int), Cond.fieldLink RX4 63 "ChannelBorrower$Network" "reserve" "I", Cond.methodLink RL 26 yX5_setReserve, Cond.instanceMethod yX5_setReserve]
def wsL_law_r9 : List Cond := [Cond.selects RX5 yX5_setReserve yX5_setReserve, Cond.code yX5_setReserve cX5_setReserve 2 (some .int), Cond.methodLink RL 27 yX4_setReturning, Cond.instanceMethod yX4_setReturning, Cond.selects RX4 yX4_setReturning yX4_setReturning, Cond.code yX4_setReturning cX4_setReturning 2 (some .int), Cond.fieldLink RX4 66 "ChannelBorrower$Network" "returning" "Z", Cond.methodLink RX4 70 yX2_returnCalls, Cond.instanceMethod yX2_returnCalls, Cond.selects RX2 yX2_returnCalls yX2_returnCalls, Cond.code yX2_returnCalls cX2_returnCalls 5 (some .int), Cond.methodLink RX2 139 yX2_nextToReturn, Cond.instanceMethod yX2_nextToReturn, Cond.selects RX2 yX2_nextToReturn yX2_nextToReturn, Cond.code yX2_nextToReturn cX2_nextToReturn 5 (some .int), Cond.methodLink RX2 133 yX2_borrows, Cond.instanceMethod yX2_borrows, Cond.selects RX2 yX2_borrows yX2_borrows, Cond.code yX2_borrows cX2_borrows 3 (some .boolean), Cond.methodLink RX2 80 yX2_channelAt, Cond.instanceMethod yX2_channelAt, Cond.selects RX2 yX2_channelAt yX2_channelAt, Cond.code yX2_channelAt cX2_channelAt 2 (some .int), Cond.methodLink RX2 76 yX2_isPresent]
def wsL_law_r10 : List Cond := [Cond.instanceMethod yX2_isPresent, Cond.selects RX2 yX2_isPresent yX2_isPresent, Cond.code yX2_isPresent cX2_isPresent 2 (some .boolean), Cond.methodLink RX2 84 yX2_cellAt, Cond.instanceMethod yX2_cellAt, Cond.selects RX2 yX2_cellAt yX2_cellAt, Cond.code yX2_cellAt cX2_cellAt 2 (some .int), Cond.methodLink RX2 87 yX2_isNominal, Cond.instanceMethod yX2_isNominal, Cond.selects RX2 yX2_isNominal yX2_isNominal, Cond.code yX2_isNominal cX2_isNominal 3 (some .boolean), Cond.methodLink RX2 151 yX1_nominalsOf, Cond.instanceMethod yX1_nominalsOf, Cond.selects RX1 yX1_nominalsOf yX1_nominalsOf, Cond.code yX1_nominalsOf cX1_nominalsOf 2 (some .int), Cond.static yX4_contains, Cond.code yX4_contains cX4_contains 2 (some .boolean), Cond.methodLink RX2 142 yX2_availableNominals, Cond.instanceMethod yX2_availableNominals, Cond.selects RX2 yX2_availableNominals yX2_availableNominals, Cond.code yX2_availableNominals cX2_availableNominals 2 (some .int), Cond.methodLink RX2 166 yX2_availableIn, Cond.instanceMethod yX2_availableIn, Cond.selects RX2 yX2_availableIn yX2_availableIn]
def wsL_law_r11 : List Cond := [Cond.code yX2_availableIn cX2_availableIn 5 (some .int), Cond.fieldLink RX2 163 "ChannelBorrower$Layout" "channels" "I", Cond.methodLink RX2 157 yX2_usedIn, Cond.instanceMethod yX2_usedIn, Cond.selects RX2 yX2_usedIn yX2_usedIn, Cond.code yX2_usedIn cX2_usedIn 2 (some .int), Cond.methodLink RX2 160 yX1_near, Cond.instanceMethod yX1_near, Cond.selects RX1 yX1_near yX1_near, Cond.code yX1_near cX1_near 2 (some .int), Cond.methodLink RX2 148 yX1_burdenIn, Cond.instanceMethod yX1_burdenIn, Cond.selects RX1 yX1_burdenIn yX1_burdenIn, Cond.code yX1_burdenIn cX1_burdenIn 6 (some .int), Cond.methodLink RX1 64 yX1_near, Cond.methodLink RX2 145 yX2_lowestOf, Cond.instanceMethod yX2_lowestOf, Cond.selects RX2 yX2_lowestOf yX2_lowestOf, Cond.code yX2_lowestOf cX2_lowestOf 3 (some .int), Cond.methodLink RX2 114 yX2_release, Cond.instanceMethod yX2_release, Cond.selects RX2 yX2_release yX2_release, Cond.code yX2_release cX2_release 4 none, Cond.methodLink RX2 91 yX1_hasCell]
def wsL_law_r12 : List Cond := [Cond.methodLink RX2 129 yX2_occupy, Cond.instanceMethod yX2_occupy, Cond.selects RX2 yX2_occupy yX2_occupy, Cond.code yX2_occupy cX2_occupy 4 none, Cond.methodLink RL 30 yX5_setReturning, Cond.instanceMethod yX5_setReturning, Cond.selects RX5 yX5_setReturning yX5_setReturning, Cond.code yX5_setReturning cX5_setReturning 2 (some .int), Cond.methodLink RX5 104 yX5_pass, Cond.instanceMethod yX5_pass, Cond.selects RX5 yX5_pass yX5_pass, Cond.code yX5_pass cX5_pass 7 (some .int), Cond.methodLink RX5 87 yX5_borrowed, Cond.instanceMethod yX5_borrowed, Cond.selects RX5 yX5_borrowed yX5_borrowed, Cond.code yX5_borrowed cX5_borrowed 2 (some .boolean), Cond.methodLink RX5 69 yX5_isNominal, Cond.instanceMethod yX5_isNominal, Cond.selects RX5 yX5_isNominal yX5_isNominal, Cond.code yX5_isNominal cX5_isNominal 3 (some .boolean), Cond.methodLink RX5 55 yX5_group, Cond.instanceMethod yX5_group, Cond.selects RX5 yX5_group yX5_group, Cond.code yX5_group cX5_group 4 (some .int)]
def wsL_law_r13 : List Cond := [Cond.methodLink RX5 78 yX5_nominal, Cond.instanceMethod yX5_nominal, Cond.selects RX5 yX5_nominal yX5_nominal, Cond.code yX5_nominal cX5_nominal 3 (some .int), Cond.methodLink RX5 72 yX5_available, Cond.instanceMethod yX5_available, Cond.selects RX5 yX5_available yX5_available, Cond.code yX5_available cX5_available 3 (some .boolean), Cond.methodLink RX5 62 yX5_uses, Cond.instanceMethod yX5_uses, Cond.selects RX5 yX5_uses yX5_uses, Cond.code yX5_uses cX5_uses 5 (some .boolean), Cond.methodLink RX5 66 yX5_locks, Cond.instanceMethod yX5_locks, Cond.selects RX5 yX5_locks yX5_locks, Cond.code yX5_locks cX5_locks 5 (some .int), Cond.methodLink RX5 42 yX5_cells, Cond.instanceMethod yX5_cells, Cond.selects RX5 yX5_cells yX5_cells, Cond.code yX5_cells cX5_cells 1 (some .int), Cond.methodLink RX5 58 yX5_far, Cond.instanceMethod yX5_far, Cond.selects RX5 yX5_far yX5_far, Cond.code yX5_far cX5_far 6 (some .int)]
def wsL_law_r14 : List Cond := [Cond.methodLink RX5 51 yX5_size, Cond.static yX5_size, Cond.code yX5_size cX5_size 1 (some .int), Cond.methodLink RX5 84 yX5_burdenOf, Cond.instanceMethod yX5_burdenOf, Cond.selects RX5 yX5_burdenOf yX5_burdenOf, Cond.code yX5_burdenOf cX5_burdenOf 5 (some .int), Cond.methodLink RL 31 yX4_cellCount, Cond.instanceMethod yX4_cellCount, Cond.selects RX4 yX4_cellCount yX4_cellCount, Cond.code yX4_cellCount cX4_cellCount 1 (some .int), Cond.fieldLink RX4 74 "ChannelBorrower$Layout" "cells" "I", Cond.methodLink RL 35 yX5_cellCount, Cond.instanceMethod yX5_cellCount, Cond.selects RX5 yX5_cellCount yX5_cellCount, Cond.code yX5_cellCount cX5_cellCount 1 (some .int), Cond.methodLink RL 36 yX4_channelCount, Cond.instanceMethod yX4_channelCount, Cond.selects RX4 yX4_channelCount yX4_channelCount, Cond.code yX4_channelCount cX4_channelCount 1 (some .int), Cond.methodLink RL 39 yX5_channelCount, Cond.instanceMethod yX5_channelCount, Cond.selects RX5 yX5_channelCount yX5_channelCount, Cond.code yX5_channelCount cX5_channelCount 1 (some .int)]
def wsL_law_r15 : List Cond := [Cond.methodLink RL 40 yX4_groupOf, Cond.instanceMethod yX4_groupOf, Cond.selects RX4 yX4_groupOf yX4_groupOf, Cond.code yX4_groupOf cX4_groupOf 2 (some .int), Cond.methodLink RX4 77 yX4_isCell, Cond.instanceMethod yX4_isCell, Cond.selects RX4 yX4_isCell yX4_isCell, Cond.code yX4_isCell cX4_isCell 2 (some .boolean), Cond.methodLink RX4 223 yX1_hasCell, Cond.methodLink RX4 81 yX1_groupAt, Cond.instanceMethod yX1_groupAt, Cond.selects RX1 yX1_groupAt yX1_groupAt, Cond.code yX1_groupAt cX1_groupAt 2 (some .int), Cond.methodLink RL 43 yX5_groupOf, Cond.instanceMethod yX5_groupOf, Cond.selects RX5 yX5_groupOf yX5_groupOf, Cond.code yX5_groupOf cX5_groupOf 2 (some .int), Cond.methodLink RX5 119 yX5_isCell, Cond.instanceMethod yX5_isCell, Cond.selects RX5 yX5_isCell yX5_isCell, Cond.code yX5_isCell cX5_isCell 2 (some .boolean), Cond.methodLink RL 44 yX4_distance, Cond.instanceMethod yX4_distance, Cond.selects RX4 yX4_distance yX4_distance]
def wsL_law_r16 : List Cond := [Cond.code yX4_distance cX4_distance 3 (some .int), Cond.methodLink RX4 85 yX1_separation, Cond.methodLink RL 48 yX5_distance, Cond.instanceMethod yX5_distance, Cond.selects RX5 yX5_distance yX5_distance, Cond.code yX5_distance cX5_distance 3 (some .int), Cond.methodLink RL 49 yX4_startCall, Cond.instanceMethod yX4_startCall, Cond.selects RX4 yX4_startCall yX4_startCall, Cond.code yX4_startCall cX4_startCall 3 (some .int), Cond.methodLink RX4 89 yX2_startError, Cond.instanceMethod yX2_startError, Cond.selects RX2 yX2_startError yX2_startError, Cond.code yX2_startError cX2_startError 2 (some .int), Cond.methodLink RX2 96 yX2_lowestFreeNumber, Cond.instanceMethod yX2_lowestFreeNumber, Cond.selects RX2 yX2_lowestFreeNumber yX2_lowestFreeNumber, Cond.code yX2_lowestFreeNumber cX2_lowestFreeNumber 2 (some .int), Cond.methodLink RX4 92 yX2_start, Cond.instanceMethod yX2_start, Cond.selects RX2 yX2_start yX2_start, Cond.code yX2_start cX2_start 5 (some .int), Cond.methodLink RX2 100 yX2_chooseChannel, Cond.instanceMethod yX2_chooseChannel]
def wsL_law_r17 : List Cond := [Cond.selects RX2 yX2_chooseChannel yX2_chooseChannel, Cond.code yX2_chooseChannel cX2_chooseChannel 5 (some .int), Cond.methodLink RX2 169 yX2_bestDonor, Cond.instanceMethod yX2_bestDonor, Cond.selects RX2 yX2_bestDonor yX2_bestDonor, Cond.code yX2_bestDonor cX2_bestDonor 9 (some .int), Cond.fieldLink RX2 175 "ChannelBorrower$Layout" "cells" "I", Cond.methodLink RX2 121 yX1_separation, Cond.methodLink RX2 178 yJ6_bitCount_0f7a4, Cond.static yJ6_bitCount_0f7a4, Cond.initialized RJ6, Cond.code yJ6_bitCount_0f7a4 cJ6_bitCount_0f7a4 1 (some .int), Cond.constant RJ6 265 (1431655765), Cond.constant RJ6 266 (858993459), Cond.constant RJ6 267 (252645135), Cond.methodLink RX2 183 yX2_rankOf, Cond.instanceMethod yX2_rankOf, Cond.selects RX2 yX2_rankOf yX2_rankOf, Cond.code yX2_rankOf cX2_rankOf 4 (some .int), Cond.methodLink RX2 187 yX1_groupAt, Cond.methodLink RX2 172 yX2_greatestOf, Cond.instanceMethod yX2_greatestOf, Cond.selects RX2 yX2_greatestOf yX2_greatestOf, Cond.code yX2_greatestOf cX2_greatestOf 3 (some .int)]
def wsL_law_r18 : List Cond := [Cond.methodLink RX2 103 yX2_fixedAccepts, Cond.instanceMethod yX2_fixedAccepts, Cond.selects RX2 yX2_fixedAccepts yX2_fixedAccepts, Cond.code yX2_fixedAccepts cX2_fixedAccepts 4 (some .boolean), Cond.fieldLink RX2 136 "ChannelBorrower$Layout" "groupSize" "I", Cond.static yX4_asNumber, Cond.code yX4_asNumber cX4_asNumber 1 (some .int), Cond.methodLink RX2 110 yX2_place, Cond.instanceMethod yX2_place, Cond.selects RX2 yX2_place yX2_place, Cond.code yX2_place cX2_place 4 none, Cond.methodLink RL 52 yX5_startCall, Cond.instanceMethod yX5_startCall, Cond.selects RX5 yX5_startCall yX5_startCall, Cond.code yX5_startCall cX5_startCall 2 (some .int), Cond.methodLink RX5 125 yX5_isError, Cond.instanceMethod yX5_isError, Cond.selects RX5 yX5_isError yX5_isError, Cond.code yX5_isError cX5_isError 4 (some .boolean), Cond.methodLink RX5 38 yX5_calls, Cond.instanceMethod yX5_calls, Cond.selects RX5 yX5_calls yX5_calls, Cond.code yX5_calls cX5_calls 3 (some .int), Cond.methodLink RX5 122 yX5_isCall]
def wsL_law_r19 : List Cond := [Cond.instanceMethod yX5_isCall, Cond.selects RX5 yX5_isCall yX5_isCall, Cond.code yX5_isCall cX5_isCall 2 (some .boolean), Cond.methodLink RX5 128 yX5_errorOf, Cond.instanceMethod yX5_errorOf, Cond.selects RX5 yX5_errorOf yX5_errorOf, Cond.code yX5_errorOf cX5_errorOf 4 (some .int), Cond.methodLink RX5 132 yX5_does, Cond.instanceMethod yX5_does, Cond.selects RX5 yX5_does yX5_does, Cond.code yX5_does cX5_does 4 (some .int), Cond.methodLink RX5 110 yX5_start, Cond.instanceMethod yX5_start, Cond.selects RX5 yX5_start yX5_start, Cond.code yX5_start cX5_start 5 (some .int), Cond.methodLink RX5 91 yX5_choose, Cond.instanceMethod yX5_choose, Cond.selects RX5 yX5_choose yX5_choose, Cond.code yX5_choose cX5_choose 9 (some .int), Cond.fieldLink RX5 75 "ChannelBorrowerModel" "donor" "I", Cond.methodLink RX5 81 yX5_availables, Cond.instanceMethod yX5_availables, Cond.selects RX5 yX5_availables yX5_availables, Cond.code yX5_availables cX5_availables 4 (some .int)]
def wsL_law_r20 : List Cond := [Cond.methodLink RX5 94 yX5_fixedIn, Cond.instanceMethod yX5_fixedIn, Cond.selects RX5 yX5_fixedIn yX5_fixedIn, Cond.code yX5_fixedIn cX5_fixedIn 4 (some .int), Cond.methodLink RX5 113 yX5_end, Cond.instanceMethod yX5_end, Cond.selects RX5 yX5_end yX5_end, Cond.code yX5_end cX5_end 4 (some .int), Cond.methodLink RX5 97 yX5_channelNow, Cond.instanceMethod yX5_channelNow, Cond.selects RX5 yX5_channelNow yX5_channelNow, Cond.code yX5_channelNow cX5_channelNow 2 (some .int), Cond.methodLink RX5 100 yX5_forget, Cond.instanceMethod yX5_forget, Cond.selects RX5 yX5_forget yX5_forget, Cond.code yX5_forget cX5_forget 2 none, Cond.methodLink RX5 116 yX5_hand, Cond.instanceMethod yX5_hand, Cond.selects RX5 yX5_hand yX5_hand, Cond.code yX5_hand cX5_hand 6 (some .int), Cond.methodLink RL 53 yX4_endCall, Cond.instanceMethod yX4_endCall, Cond.selects RX4 yX4_endCall yX4_endCall, Cond.code yX4_endCall cX4_endCall 2 (some .int)]
def wsL_law_r21 : List Cond := [Cond.methodLink RX4 95 yX2_isPresent, Cond.methodLink RX4 98 yX2_end, Cond.instanceMethod yX2_end, Cond.selects RX2 yX2_end yX2_end, Cond.code yX2_end cX2_end 3 (some .int), Cond.methodLink RX2 118 yX2_returnCalls, Cond.methodLink RL 56 yX5_endCall, Cond.instanceMethod yX5_endCall, Cond.selects RX5 yX5_endCall yX5_endCall, Cond.code yX5_endCall cX5_endCall 2 (some .int), Cond.methodLink RL 57 yX4_handOver, Cond.instanceMethod yX4_handOver, Cond.selects RX4 yX4_handOver yX4_handOver, Cond.code yX4_handOver cX4_handOver 4 (some .int), Cond.methodLink RX4 101 yX2_moveError, Cond.instanceMethod yX2_moveError, Cond.selects RX2 yX2_moveError yX2_moveError, Cond.code yX2_moveError cX2_moveError 4 (some .int), Cond.methodLink RX4 104 yX2_move, Cond.instanceMethod yX2_move, Cond.selects RX2 yX2_move yX2_move, Cond.code yX2_move cX2_move 4 (some .int), Cond.methodLink RL 60 yX5_handOver, Cond.instanceMethod yX5_handOver]
def wsL_law_r22 : List Cond := [Cond.selects RX5 yX5_handOver yX5_handOver, Cond.code yX5_handOver cX5_handOver 3 (some .int), Cond.methodLink RL 61 yX4_cellOf, Cond.instanceMethod yX4_cellOf, Cond.selects RX4 yX4_cellOf yX4_cellOf, Cond.code yX4_cellOf cX4_cellOf 2 (some .int), Cond.methodLink RX4 107 yX2_cellAt, Cond.methodLink RL 64 yX5_cellOf, Cond.instanceMethod yX5_cellOf, Cond.selects RX5 yX5_cellOf yX5_cellOf, Cond.code yX5_cellOf cX5_cellOf 2 (some .int), Cond.methodLink RL 65 yX4_channelOf, Cond.instanceMethod yX4_channelOf, Cond.selects RX4 yX4_channelOf yX4_channelOf, Cond.code yX4_channelOf cX4_channelOf 2 (some .int), Cond.methodLink RX4 110 yX2_channelAt, Cond.methodLink RL 68 yX5_channelOf, Cond.instanceMethod yX5_channelOf, Cond.selects RX5 yX5_channelOf yX5_channelOf, Cond.code yX5_channelOf cX5_channelOf 2 (some .int), Cond.methodLink RL 69 yX4_isBorrowed, Cond.instanceMethod yX4_isBorrowed, Cond.selects RX4 yX4_isBorrowed yX4_isBorrowed, Cond.code yX4_isBorrowed cX4_isBorrowed 2 (some .int)]
def wsL_law_r23 : List Cond := [Cond.methodLink RX4 113 yX2_borrows, Cond.methodLink RX4 116 yX4_asNumber, Cond.methodLink RL 72 yX5_isBorrowed, Cond.instanceMethod yX5_isBorrowed, Cond.selects RX5 yX5_isBorrowed yX5_isBorrowed, Cond.code yX5_isBorrowed cX5_isBorrowed 2 (some .int), Cond.methodLink RL 73 yX4_isInFixedScheme, Cond.instanceMethod yX4_isInFixedScheme, Cond.selects RX4 yX4_isInFixedScheme yX4_isInFixedScheme, Cond.code yX4_isInFixedScheme cX4_isInFixedScheme 2 (some .int), Cond.methodLink RX4 120 yX2_isFixed, Cond.instanceMethod yX2_isFixed, Cond.selects RX2 yX2_isFixed yX2_isFixed, Cond.code yX2_isFixed cX2_isFixed 2 (some .boolean), Cond.methodLink RL 76 yX5_isInFixedScheme, Cond.instanceMethod yX5_isInFixedScheme, Cond.selects RX5 yX5_isInFixedScheme yX5_isInFixedScheme, Cond.code yX5_isInFixedScheme cX5_isInFixedScheme 2 (some .int), Cond.methodLink RL 77 yX4_isAvailable, Cond.instanceMethod yX4_isAvailable, Cond.selects RX4 yX4_isAvailable yX4_isAvailable, Cond.code yX4_isAvailable cX4_isAvailable 3 (some .int), Cond.methodLink RX4 123 yX4_isChannel, Cond.instanceMethod yX4_isChannel]
def wsL_law_r24 : List Cond := [Cond.selects RX4 yX4_isChannel yX4_isChannel, Cond.code yX4_isChannel cX4_isChannel 2 (some .boolean), Cond.methodLink RX4 126 yX2_availableIn, Cond.methodLink RX4 129 yX4_contains, Cond.methodLink RL 80 yX5_isAvailable, Cond.instanceMethod yX5_isAvailable, Cond.selects RX5 yX5_isAvailable yX5_isAvailable, Cond.code yX5_isAvailable cX5_isAvailable 3 (some .int), Cond.methodLink RX5 138 yX5_isChannel, Cond.instanceMethod yX5_isChannel, Cond.selects RX5 yX5_isChannel yX5_isChannel, Cond.code yX5_isChannel cX5_isChannel 2 (some .boolean), Cond.methodLink RL 81 yX4_lockCount, Cond.instanceMethod yX4_lockCount, Cond.selects RX4 yX4_lockCount yX4_lockCount, Cond.code yX4_lockCount cX4_lockCount 3 (some .int), Cond.methodLink RX4 133 yX2_lockers, Cond.instanceMethod yX2_lockers, Cond.selects RX2 yX2_lockers yX2_lockers, Cond.code yX2_lockers cX2_lockers 6 (some .int), Cond.methodLink RL 84 yX5_lockCount, Cond.instanceMethod yX5_lockCount, Cond.selects RX5 yX5_lockCount yX5_lockCount, Cond.code yX5_lockCount cX5_lockCount 3 (some .int)]
def wsL_law_r25 : List Cond := [Cond.methodLink RL 85 yX4_burden, Cond.instanceMethod yX4_burden, Cond.selects RX4 yX4_burden yX4_burden, Cond.code yX4_burden cX4_burden 3 (some .int), Cond.methodLink RX4 136 yX1_burdenIn, Cond.methodLink RL 88 yX5_burden, Cond.instanceMethod yX5_burden, Cond.selects RX5 yX5_burden yX5_burden, Cond.code yX5_burden cX5_burden 3 (some .int), Cond.methodLink RL 89 yX4_availableCount, Cond.instanceMethod yX4_availableCount, Cond.selects RX4 yX4_availableCount yX4_availableCount, Cond.code yX4_availableCount cX4_availableCount 2 (some .int), Cond.methodLink RX4 139 yX2_availableNominals, Cond.methodLink RX4 142 yJ6_bitCount_0f7a4, Cond.methodLink RL 92 yX5_availableCount, Cond.instanceMethod yX5_availableCount, Cond.selects RX5 yX5_availableCount yX5_availableCount, Cond.code yX5_availableCount cX5_availableCount 2 (some .int), Cond.methodLink RL 93 yX4_usedCount, Cond.instanceMethod yX4_usedCount, Cond.selects RX4 yX4_usedCount yX4_usedCount, Cond.code yX4_usedCount cX4_usedCount 2 (some .int), Cond.methodLink RX4 147 yX2_usedIn]
def wsL_law_r26 : List Cond := [Cond.methodLink RL 96 yX5_usedCount, Cond.instanceMethod yX5_usedCount, Cond.selects RX5 yX5_usedCount yX5_usedCount, Cond.code yX5_usedCount cX5_usedCount 4 (some .int), Cond.methodLink RL 97 yX4_lockedCount, Cond.instanceMethod yX4_lockedCount, Cond.selects RX4 yX4_lockedCount yX4_lockedCount, Cond.code yX4_lockedCount cX4_lockedCount 3 (some .int), Cond.methodLink RX4 150 yX1_nominalsOf, Cond.methodLink RL 100 yX5_lockedCount, Cond.instanceMethod yX5_lockedCount, Cond.selects RX5 yX5_lockedCount yX5_lockedCount, Cond.code yX5_lockedCount cX5_lockedCount 4 (some .int), Cond.methodLink RL 101 yX4_nextChannel, Cond.instanceMethod yX4_nextChannel, Cond.selects RX4 yX4_nextChannel yX4_nextChannel, Cond.code yX4_nextChannel cX4_nextChannel 2 (some .int), Cond.methodLink RX4 153 yX2_chooseChannel, Cond.methodLink RL 104 yX5_nextChannel, Cond.instanceMethod yX5_nextChannel, Cond.selects RX5 yX5_nextChannel yX5_nextChannel, Cond.code yX5_nextChannel cX5_nextChannel 2 (some .int), Cond.methodLink RL 105 yX4_nextDonor, Cond.instanceMethod yX4_nextDonor]
def wsL_law_r27 : List Cond := [Cond.selects RX4 yX4_nextDonor yX4_nextDonor, Cond.code yX4_nextDonor cX4_nextDonor 2 (some .int), Cond.methodLink RX4 156 yX2_chooseDonor, Cond.instanceMethod yX2_chooseDonor, Cond.selects RX2 yX2_chooseDonor yX2_chooseDonor, Cond.code yX2_chooseDonor cX2_chooseDonor 4 (some .int), Cond.methodLink RL 108 yX5_nextDonor, Cond.instanceMethod yX5_nextDonor, Cond.selects RX5 yX5_nextDonor yX5_nextDonor, Cond.code yX5_nextDonor cX5_nextDonor 3 (some .int), Cond.methodLink RL 109 yX4_blockingCells, Cond.instanceMethod yX4_blockingCells, Cond.selects RX4 yX4_blockingCells yX4_blockingCells, Cond.code yX4_blockingCells cX4_blockingCells 3 (some .int), Cond.methodLink RL 112 yX5_blockingCells, Cond.instanceMethod yX5_blockingCells, Cond.selects RX5 yX5_blockingCells yX5_blockingCells, Cond.code yX5_blockingCells cX5_blockingCells 3 (some .int), Cond.methodLink RL 113 yX4_callCount, Cond.instanceMethod yX4_callCount, Cond.selects RX4 yX4_callCount yX4_callCount, Cond.code yX4_callCount cX4_callCount 1 (some .int), Cond.methodLink RX4 159 yX2_presentCalls, Cond.instanceMethod yX2_presentCalls]
def wsL_law_r28 : List Cond := [Cond.selects RX2 yX2_presentCalls yX2_presentCalls, Cond.code yX2_presentCalls cX2_presentCalls 3 (some .int), Cond.methodLink RL 116 yX5_callCount, Cond.instanceMethod yX5_callCount, Cond.selects RX5 yX5_callCount yX5_callCount, Cond.code yX5_callCount cX5_callCount 1 (some .int), Cond.methodLink RL 117 yX4_attempts, Cond.instanceMethod yX4_attempts, Cond.selects RX4 yX4_attempts yX4_attempts, Cond.code yX4_attempts cX4_attempts 1 (some .int), Cond.fieldLink RX4 162 "ChannelBorrower$Network" "attempts" "I", Cond.methodLink RL 120 yX5_attempts, Cond.instanceMethod yX5_attempts, Cond.selects RX5 yX5_attempts yX5_attempts, Cond.code yX5_attempts cX5_attempts 1 (some .int), Cond.methodLink RL 121 yX4_blocked, Cond.instanceMethod yX4_blocked, Cond.selects RX4 yX4_blocked yX4_blocked, Cond.code yX4_blocked cX4_blocked 1 (some .int), Cond.fieldLink RX4 165 "ChannelBorrower$Network" "blocked" "I", Cond.methodLink RL 124 yX5_blocked, Cond.instanceMethod yX5_blocked, Cond.selects RX5 yX5_blocked yX5_blocked, Cond.code yX5_blocked cX5_blocked 1 (some .int)]
def wsL_law_r29 : List Cond := [Cond.methodLink RL 125 yX4_blockedInFixedScheme, Cond.instanceMethod yX4_blockedInFixedScheme, Cond.selects RX4 yX4_blockedInFixedScheme yX4_blockedInFixedScheme, Cond.code yX4_blockedInFixedScheme cX4_blockedInFixedScheme 1 (some .int), Cond.fieldLink RX4 168 "ChannelBorrower$Network" "blockedInFixed" "I", Cond.methodLink RL 128 yX5_blockedInFixedScheme, Cond.instanceMethod yX5_blockedInFixedScheme, Cond.selects RX5 yX5_blockedInFixedScheme yX5_blockedInFixedScheme, Cond.code yX5_blockedInFixedScheme cX5_blockedInFixedScheme 1 (some .int), Cond.methodLink RL 129 yX4_dropped, Cond.instanceMethod yX4_dropped, Cond.selects RX4 yX4_dropped yX4_dropped, Cond.code yX4_dropped cX4_dropped 1 (some .int), Cond.fieldLink RX4 171 "ChannelBorrower$Network" "dropped" "I", Cond.methodLink RL 132 yX5_dropped, Cond.instanceMethod yX5_dropped, Cond.selects RX5 yX5_dropped yX5_dropped, Cond.code yX5_dropped cX5_dropped 1 (some .int), Cond.methodLink RL 133 yX4_droppedInFixedScheme, Cond.instanceMethod yX4_droppedInFixedScheme, Cond.selects RX4 yX4_droppedInFixedScheme yX4_droppedInFixedScheme, Cond.code yX4_droppedInFixedScheme cX4_droppedInFixedScheme 1 (some .int), Cond.fieldLink RX4 174 "ChannelBorrower$Network" "droppedInFixed" "I", Cond.methodLink RL 136 yX5_droppedInFixedScheme]
def wsL_law_r30 : List Cond := [Cond.instanceMethod yX5_droppedInFixedScheme, Cond.selects RX5 yX5_droppedInFixedScheme yX5_droppedInFixedScheme, Cond.code yX5_droppedInFixedScheme cX5_droppedInFixedScheme 1 (some .int), Cond.methodLink RL 137 yX4_borrowings, Cond.instanceMethod yX4_borrowings, Cond.selects RX4 yX4_borrowings yX4_borrowings, Cond.code yX4_borrowings cX4_borrowings 1 (some .int), Cond.fieldLink RX4 177 "ChannelBorrower$Network" "borrowings" "I", Cond.methodLink RL 140 yX5_borrowings, Cond.instanceMethod yX5_borrowings, Cond.selects RX5 yX5_borrowings yX5_borrowings, Cond.code yX5_borrowings cX5_borrowings 1 (some .int), Cond.methodLink RL 141 yX4_returns, Cond.instanceMethod yX4_returns, Cond.selects RX4 yX4_returns yX4_returns, Cond.code yX4_returns cX4_returns 1 (some .int), Cond.fieldLink RX4 180 "ChannelBorrower$Network" "returnSteps" "I", Cond.methodLink RL 144 yX5_returns, Cond.instanceMethod yX5_returns, Cond.selects RX5 yX5_returns yX5_returns, Cond.code yX5_returns cX5_returns 1 (some .int), Cond.methodLink RL 145 yX4_appendCharacter, Cond.instanceMethod yX4_appendCharacter, Cond.selects RX4 yX4_appendCharacter yX4_appendCharacter]
def wsL_law_r31 : List Cond := [Cond.code yX4_appendCharacter cX4_appendCharacter 2 (some .int), Cond.fieldLink RX4 186 "ChannelBorrower$Script" "length" "I", Cond.methodLink RX4 183 yX3_append, Cond.instanceMethod yX3_append, Cond.selects RX3 yX3_append yX3_append, Cond.code yX3_append cX3_append 2 (some .boolean), Cond.fieldLink RX3 24 "ChannelBorrower$Script" "length" "I", Cond.methodLink RL 148 yX5_appendCharacter, Cond.instanceMethod yX5_appendCharacter, Cond.selects RX5 yX5_appendCharacter yX5_appendCharacter, Cond.code yX5_appendCharacter cX5_appendCharacter 2 (some .int), Cond.fieldLink RX5 141 "ChannelBorrowerModel" "typed" "I", Cond.methodLink RL 149 yX4_clearText, Cond.instanceMethod yX4_clearText, Cond.selects RX4 yX4_clearText yX4_clearText, Cond.code yX4_clearText cX4_clearText 2 (some .int), Cond.methodLink RL 152 yX5_clearText, Cond.instanceMethod yX5_clearText, Cond.selects RX5 yX5_clearText yX5_clearText, Cond.code yX5_clearText cX5_clearText 2 (some .int), Cond.methodLink RL 153 yX4_runScript, Cond.instanceMethod yX4_runScript, Cond.selects RX4 yX4_runScript yX4_runScript, Cond.code yX4_runScript cX4_runScript 6 (some .int)]
def wsL_law_r32 : List Cond := [Cond.fieldLink RX4 193 "ChannelBorrower$Script" "position" "I", Cond.fieldLink RX4 196 "ChannelBorrower$Script" "commands" "I", Cond.fieldLink RX4 199 "ChannelBorrower$Script" "letters" "[I", Cond.fieldLink RX4 203 "ChannelBorrower$Script" "firsts" "[I", Cond.fieldLink RX4 206 "ChannelBorrower$Script" "seconds" "[I", Cond.methodLink RX4 189 yX3_read, Cond.instanceMethod yX3_read, Cond.selects RX3 yX3_read yX3_read, Cond.code yX3_read cX3_read 2 (some .boolean), Cond.fieldLink RX3 32 "ChannelBorrower$Script" "position" "I", Cond.fieldLink RX3 35 "ChannelBorrower$Script" "commands" "I", Cond.methodLink RX3 38 yX3_skipSpaces, Cond.instanceMethod yX3_skipSpaces, Cond.selects RX3 yX3_skipSpaces yX3_skipSpaces, Cond.code yX3_skipSpaces cX3_skipSpaces 2 none, Cond.methodLink RX3 45 yX3_character, Cond.instanceMethod yX3_character, Cond.selects RX3 yX3_character yX3_character, Cond.code yX3_character cX3_character 2 (some .int), Cond.methodLink RX3 41 yX3_readCommand, Cond.instanceMethod yX3_readCommand, Cond.selects RX3 yX3_readCommand yX3_readCommand, Cond.code yX3_readCommand cX3_readCommand 4 (some .boolean), Cond.methodLink RX3 49 yX3_readNumber]
def wsL_law_r33 : List Cond := [Cond.instanceMethod yX3_readNumber, Cond.selects RX3 yX3_readNumber yX3_readNumber, Cond.code yX3_readNumber cX3_readNumber 3 (some .int), Cond.methodLink RX3 59 yX3_digit, Cond.instanceMethod yX3_digit, Cond.selects RX3 yX3_digit yX3_digit, Cond.code yX3_digit cX3_digit 2 (some .int), Cond.methodLink RX3 52 yX3_readSign, Cond.instanceMethod yX3_readSign, Cond.selects RX3 yX3_readSign yX3_readSign, Cond.code yX3_readSign cX3_readSign 2 (some .boolean), Cond.methodLink RX3 56 yX3_keep, Cond.instanceMethod yX3_keep, Cond.selects RX3 yX3_keep yX3_keep, Cond.code yX3_keep cX3_keep 4 (some .boolean), Cond.methodLink RX4 209 yX4_commandError, Cond.instanceMethod yX4_commandError, Cond.selects RX4 yX4_commandError yX4_commandError, Cond.code yX4_commandError cX4_commandError 4 (some .int), Cond.methodLink RL 156 yX5_runScript, Cond.instanceMethod yX5_runScript, Cond.selects RX5 yX5_runScript yX5_runScript, Cond.code yX5_runScript cX5_runScript 2 (some .int), Cond.fieldLink RX5 153 "ChannelBorrowerModel" "isWrong" "Z"]
def wsL_law_r34 : List Cond := [Cond.fieldLink RX5 144 "ChannelBorrowerModel" "at" "I", Cond.methodLink RX5 163 yX5_script, Cond.instanceMethod yX5_script, Cond.selects RX5 yX5_script yX5_script, Cond.code yX5_script cX5_script 9 (some .int), Cond.methodLink RX5 150 yX5_skip, Cond.instanceMethod yX5_skip, Cond.selects RX5 yX5_skip yX5_skip, Cond.code yX5_skip cX5_skip 1 none, Cond.methodLink RX5 147 yX5_here, Cond.instanceMethod yX5_here, Cond.selects RX5 yX5_here yX5_here, Cond.code yX5_here cX5_here 1 (some .int), Cond.methodLink RX5 157 yX5_number, Cond.instanceMethod yX5_number, Cond.selects RX5 yX5_number yX5_number, Cond.code yX5_number cX5_number 2 (some .int), Cond.methodLink RX5 160 yX5_expect, Cond.instanceMethod yX5_expect, Cond.selects RX5 yX5_expect yX5_expect, Cond.code yX5_expect cX5_expect 2 none, Cond.methodLink RL 157 yX4_undo, Cond.instanceMethod yX4_undo, Cond.selects RX4 yX4_undo yX4_undo]
def wsL_law_r35 : List Cond := [Cond.code yX4_undo cX4_undo 1 (some .int), Cond.fieldLink RX4 217 "ChannelBorrower$History" "count" "I", Cond.methodLink RX4 213 yX0_pop, Cond.instanceMethod yX0_pop, Cond.selects RX0 yX0_pop yX0_pop, Cond.code yX0_pop cX0_pop 3 (some .boolean), Cond.methodLink RL 160 yX5_undo, Cond.instanceMethod yX5_undo, Cond.selects RX5 yX5_undo yX5_undo, Cond.code yX5_undo cX5_undo 2 (some .int), Cond.methodLink RL 161 yX4_save, Cond.instanceMethod yX4_save, Cond.selects RX4 yX4_save yX4_save, Cond.code yX4_save cX4_save 3 (some .int), Cond.methodLink RX4 220 yX2_copyFrom, Cond.methodLink RL 164 yX5_save, Cond.instanceMethod yX5_save, Cond.selects RX5 yX5_save yX5_save, Cond.code yX5_save cX5_save 3 (some .int), Cond.methodLink RL 165 yX4_restore, Cond.instanceMethod yX4_restore, Cond.selects RX4 yX4_restore yX4_restore, Cond.code yX4_restore cX4_restore 3 (some .int), Cond.methodLink RL 168 yX5_restore]
def wsL_law_r36 : List Cond := [Cond.instanceMethod yX5_restore, Cond.selects RX5 yX5_restore yX5_restore, Cond.code yX5_restore cX5_restore 3 (some .int)]
def wsL_law : List Cond := (wsL_law_r1 ++ (wsL_law_r2 ++ (wsL_law_r3 ++ (wsL_law_r4 ++ (wsL_law_r5 ++ (wsL_law_r6 ++ (wsL_law_r7 ++ (wsL_law_r8 ++ (wsL_law_r9 ++ (wsL_law_r10 ++ (wsL_law_r11 ++ (wsL_law_r12 ++ (wsL_law_r13 ++ (wsL_law_r14 ++ (wsL_law_r15 ++ (wsL_law_r16 ++ (wsL_law_r17 ++ (wsL_law_r18 ++ (wsL_law_r19 ++ (wsL_law_r20 ++ (wsL_law_r21 ++ (wsL_law_r22 ++ (wsL_law_r23 ++ (wsL_law_r24 ++ (wsL_law_r25 ++ (wsL_law_r26 ++ (wsL_law_r27 ++ (wsL_law_r28 ++ (wsL_law_r29 ++ (wsL_law_r30 ++ (wsL_law_r31 ++ (wsL_law_r32 ++ (wsL_law_r33 ++ (wsL_law_r34 ++ (wsL_law_r35 ++ wsL_law_r36))))))))))))))))))))))))))))))))))) ++ wsX40 ++ wsX50 ++ wsX10 ++ wsX20 ++ wsX00 ++ wsX30 ++ ([] : List Cond)
theorem inlX0 : ∀ w ∈ wsX00, w ∈ wsL_law := fun _ h => List.mem_append_left _ (List.mem_append_left _ (List.mem_append_right _ h))
theorem inlX1 : ∀ w ∈ wsX10, w ∈ wsL_law := fun _ h => List.mem_append_left _ (List.mem_append_left _ (List.mem_append_left _ (List.mem_append_left _ (List.mem_append_right _ h))))
theorem inlX2 : ∀ w ∈ wsX20, w ∈ wsL_law := fun _ h => List.mem_append_left _ (List.mem_append_left _ (List.mem_append_left _ (List.mem_append_right _ h)))
theorem inlX3 : ∀ w ∈ wsX30, w ∈ wsL_law := fun _ h => List.mem_append_left _ (List.mem_append_right _ h)
theorem inlX4 : ∀ w ∈ wsX40, w ∈ wsL_law := fun _ h => List.mem_append_left _ (List.mem_append_left _ (List.mem_append_left _ (List.mem_append_left _ (List.mem_append_left _ (List.mem_append_left _ (List.mem_append_right _ h))))))
theorem inlX5 : ∀ w ∈ wsX50, w ∈ wsL_law := fun _ h => List.mem_append_left _ (List.mem_append_left _ (List.mem_append_left _ (List.mem_append_left _ (List.mem_append_left _ (List.mem_append_right _ h)))))
abbrev vwCl : List vw_C := [(RX0, TX0, 3), (RX1, TX1, 8), (RX2, TX2, 15), (RX3, TX3, 7), (RX4, TX4, 4), (RX5, TX5, 11)]
end
section
theorem dX0_init_0 : decode cX0_init 0 = .ok (.aload_n 0, 1) := by decide +kernel
theorem dX0_init_1 : decode cX0_init 1 = .ok (.invokespecial 3, 3) := by decide +kernel
theorem dX0_init_4 : decode cX0_init 4 = .ok (.aload_n 0, 1) := by decide +kernel
theorem dX0_init_5 : decode cX0_init 5 = .ok (.bipush 6, 2) := by decide +kernel
theorem dX0_init_7 : decode cX0_init 7 = .ok (.anewarray 9, 3) := by decide +kernel
theorem dX0_init_10 : decode cX0_init 10 = .ok (.putfield 11, 3) := by decide +kernel
theorem dX0_init_13 : decode cX0_init 13 = .ok (.iconst 0, 1) := by decide +kernel
theorem dX0_init_14 : decode cX0_init 14 = .ok (.istore_n 2, 1) := by decide +kernel
theorem dX0_init_15 : decode cX0_init 15 = .ok (.iload_n 2, 1) := by decide +kernel
theorem dX0_init_16 : decode cX0_init 16 = .ok (.bipush 6, 2) := by decide +kernel
theorem dX0_init_18 : decode cX0_init 18 = .ok (.if_icmp .ge 23, 3) := by decide +kernel
theorem dX0_init_21 : decode cX0_init 21 = .ok (.aload_n 0, 1) := by decide +kernel
theorem dX0_init_22 : decode cX0_init 22 = .ok (.getfield 11, 3) := by decide +kernel
theorem dX0_init_25 : decode cX0_init 25 = .ok (.iload_n 2, 1) := by decide +kernel
theorem dX0_init_26 : decode cX0_init 26 = .ok (.new 9, 3) := by decide +kernel
theorem dX0_init_29 : decode cX0_init 29 = .ok (.dup, 1) := by decide +kernel
theorem dX0_init_30 : decode cX0_init 30 = .ok (.aload_n 1, 1) := by decide +kernel
theorem dX0_init_31 : decode cX0_init 31 = .ok (.invokespecial 17, 3) := by decide +kernel
theorem dX0_init_34 : decode cX0_init 34 = .ok (.aastore, 1) := by decide +kernel
theorem dX0_init_35 : decode cX0_init 35 = .ok (.iinc 2 1, 3) := by decide +kernel
theorem dX0_init_38 : decode cX0_init 38 = .ok (.goto (-23), 3) := by decide +kernel
theorem dX0_init_41 : decode cX0_init 41 = .ok (.return_, 1) := by decide +kernel
theorem dX0_push_0 : decode cX0_push 0 = .ok (.aload_n 0, 1) := by decide +kernel
theorem dX0_push_1 : decode cX0_push 1 = .ok (.aload_n 0, 1) := by decide +kernel
theorem dX0_push_2 : decode cX0_push 2 = .ok (.getfield 20, 3) := by decide +kernel
theorem dX0_push_5 : decode cX0_push 5 = .ok (.iconst 1, 1) := by decide +kernel
theorem dX0_push_6 : decode cX0_push 6 = .ok (.iadd, 1) := by decide +kernel
theorem dX0_push_7 : decode cX0_push 7 = .ok (.bipush 6, 2) := by decide +kernel
theorem dX0_push_9 : decode cX0_push 9 = .ok (.if_icmp .ge 12, 3) := by decide +kernel
theorem dX0_push_12 : decode cX0_push 12 = .ok (.aload_n 0, 1) := by decide +kernel
theorem dX0_push_13 : decode cX0_push 13 = .ok (.getfield 20, 3) := by decide +kernel
theorem dX0_push_16 : decode cX0_push 16 = .ok (.iconst 1, 1) := by decide +kernel
theorem dX0_push_17 : decode cX0_push 17 = .ok (.iadd, 1) := by decide +kernel
theorem dX0_push_18 : decode cX0_push 18 = .ok (.goto 4, 3) := by decide +kernel
theorem dX0_push_21 : decode cX0_push 21 = .ok (.iconst 0, 1) := by decide +kernel
theorem dX0_push_22 : decode cX0_push 22 = .ok (.putfield 20, 3) := by decide +kernel
theorem dX0_push_25 : decode cX0_push 25 = .ok (.aload_n 0, 1) := by decide +kernel
theorem dX0_push_26 : decode cX0_push 26 = .ok (.invokevirtual 24, 3) := by decide +kernel
theorem dX0_push_29 : decode cX0_push 29 = .ok (.astore_n 2, 1) := by decide +kernel
theorem dX0_push_30 : decode cX0_push 30 = .ok (.aload_n 2, 1) := by decide +kernel
theorem dX0_push_31 : decode cX0_push 31 = .ok (.ifnull 23, 3) := by decide +kernel
theorem dX0_push_34 : decode cX0_push 34 = .ok (.aload_n 2, 1) := by decide +kernel
theorem dX0_push_35 : decode cX0_push 35 = .ok (.aload_n 1, 1) := by decide +kernel
theorem dX0_push_36 : decode cX0_push 36 = .ok (.invokevirtual 28, 3) := by decide +kernel
theorem dX0_push_39 : decode cX0_push 39 = .ok (.aload_n 0, 1) := by decide +kernel
theorem dX0_push_40 : decode cX0_push 40 = .ok (.aload_n 0, 1) := by decide +kernel
theorem dX0_push_41 : decode cX0_push 41 = .ok (.getfield 32, 3) := by decide +kernel
theorem dX0_push_44 : decode cX0_push 44 = .ok (.iconst 1, 1) := by decide +kernel
theorem dX0_push_45 : decode cX0_push 45 = .ok (.iadd, 1) := by decide +kernel
theorem dX0_push_46 : decode cX0_push 46 = .ok (.bipush 6, 2) := by decide +kernel
theorem dX0_push_48 : decode cX0_push 48 = .ok (.invokestatic 35, 3) := by decide +kernel
theorem dX0_push_51 : decode cX0_push 51 = .ok (.putfield 32, 3) := by decide +kernel
theorem dX0_push_54 : decode cX0_push 54 = .ok (.return_, 1) := by decide +kernel
theorem dX0_pop_0 : decode cX0_pop 0 = .ok (.aload_n 0, 1) := by decide +kernel
theorem dX0_pop_1 : decode cX0_pop 1 = .ok (.invokevirtual 24, 3) := by decide +kernel
theorem dX0_pop_4 : decode cX0_pop 4 = .ok (.astore_n 2, 1) := by decide +kernel
theorem dX0_pop_5 : decode cX0_pop 5 = .ok (.aload_n 0, 1) := by decide +kernel
theorem dX0_pop_6 : decode cX0_pop 6 = .ok (.getfield 32, 3) := by decide +kernel
theorem dX0_pop_9 : decode cX0_pop 9 = .ok (.ifCond .le 7, 3) := by decide +kernel
theorem dX0_pop_12 : decode cX0_pop 12 = .ok (.aload_n 2, 1) := by decide +kernel
theorem dX0_pop_13 : decode cX0_pop 13 = .ok (.ifnonnull 5, 3) := by decide +kernel
theorem dX0_pop_16 : decode cX0_pop 16 = .ok (.iconst 0, 1) := by decide +kernel
theorem dX0_pop_17 : decode cX0_pop 17 = .ok (.ireturn, 1) := by decide +kernel
theorem dX0_pop_18 : decode cX0_pop 18 = .ok (.aload_n 1, 1) := by decide +kernel
theorem dX0_pop_19 : decode cX0_pop 19 = .ok (.aload_n 2, 1) := by decide +kernel
theorem dX0_pop_20 : decode cX0_pop 20 = .ok (.invokevirtual 28, 3) := by decide +kernel
theorem dX0_pop_23 : decode cX0_pop 23 = .ok (.aload_n 0, 1) := by decide +kernel
theorem dX0_pop_24 : decode cX0_pop 24 = .ok (.dup, 1) := by decide +kernel
theorem dX0_pop_25 : decode cX0_pop 25 = .ok (.getfield 32, 3) := by decide +kernel
theorem dX0_pop_28 : decode cX0_pop 28 = .ok (.iconst 1, 1) := by decide +kernel
theorem dX0_pop_29 : decode cX0_pop 29 = .ok (.isub, 1) := by decide +kernel
theorem dX0_pop_30 : decode cX0_pop 30 = .ok (.putfield 32, 3) := by decide +kernel
theorem dX0_pop_33 : decode cX0_pop 33 = .ok (.aload_n 0, 1) := by decide +kernel
theorem dX0_pop_34 : decode cX0_pop 34 = .ok (.aload_n 0, 1) := by decide +kernel
theorem dX0_pop_35 : decode cX0_pop 35 = .ok (.getfield 20, 3) := by decide +kernel
theorem dX0_pop_38 : decode cX0_pop 38 = .ok (.ifCond .le 12, 3) := by decide +kernel
theorem dX0_pop_41 : decode cX0_pop 41 = .ok (.aload_n 0, 1) := by decide +kernel
theorem dX0_pop_42 : decode cX0_pop 42 = .ok (.getfield 20, 3) := by decide +kernel
theorem dX0_pop_45 : decode cX0_pop 45 = .ok (.iconst 1, 1) := by decide +kernel
theorem dX0_pop_46 : decode cX0_pop 46 = .ok (.isub, 1) := by decide +kernel
theorem dX0_pop_47 : decode cX0_pop 47 = .ok (.goto 4, 3) := by decide +kernel
theorem dX0_pop_50 : decode cX0_pop 50 = .ok (.iconst 5, 1) := by decide +kernel
theorem dX0_pop_51 : decode cX0_pop 51 = .ok (.putfield 20, 3) := by decide +kernel
theorem dX0_pop_54 : decode cX0_pop 54 = .ok (.iconst 1, 1) := by decide +kernel
theorem dX0_pop_55 : decode cX0_pop 55 = .ok (.ireturn, 1) := by decide +kernel
theorem dX0_newestState_0 : decode cX0_newestState 0 = .ok (.aload_n 0, 1) := by decide +kernel
theorem dX0_newestState_1 : decode cX0_newestState 1 = .ok (.getfield 20, 3) := by decide +kernel
theorem dX0_newestState_4 : decode cX0_newestState 4 = .ok (.iconst 0, 1) := by decide +kernel
theorem dX0_newestState_5 : decode cX0_newestState 5 = .ok (.iconst 5, 1) := by decide +kernel
theorem dX0_newestState_6 : decode cX0_newestState 6 = .ok (.invokestatic 41, 3) := by decide +kernel
theorem dX0_newestState_9 : decode cX0_newestState 9 = .ok (.ifCond .eq 15, 3) := by decide +kernel
theorem dX0_newestState_12 : decode cX0_newestState 12 = .ok (.aload_n 0, 1) := by decide +kernel
theorem dX0_newestState_13 : decode cX0_newestState 13 = .ok (.getfield 11, 3) := by decide +kernel
theorem dX0_newestState_16 : decode cX0_newestState 16 = .ok (.aload_n 0, 1) := by decide +kernel
theorem dX0_newestState_17 : decode cX0_newestState 17 = .ok (.getfield 20, 3) := by decide +kernel
theorem dX0_newestState_20 : decode cX0_newestState 20 = .ok (.aaload, 1) := by decide +kernel
theorem dX0_newestState_21 : decode cX0_newestState 21 = .ok (.goto 4, 3) := by decide +kernel
theorem dX0_newestState_24 : decode cX0_newestState 24 = .ok (.aconst_null, 1) := by decide +kernel
theorem dX0_newestState_25 : decode cX0_newestState 25 = .ok (.areturn, 1) := by decide +kernel
theorem dX1_init_0 : decode cX1_init 0 = .ok (.aload_n 0, 1) := by decide +kernel
theorem dX1_init_1 : decode cX1_init 1 = .ok (.invokespecial 3, 3) := by decide +kernel
theorem dX1_init_4 : decode cX1_init 4 = .ok (.aload_n 0, 1) := by decide +kernel
theorem dX1_init_5 : decode cX1_init 5 = .ok (.bipush 25, 2) := by decide +kernel
theorem dX1_init_7 : decode cX1_init 7 = .ok (.newarray .int, 2) := by decide +kernel
theorem dX1_init_9 : decode cX1_init 9 = .ok (.putfield 9, 3) := by decide +kernel
theorem dX1_init_12 : decode cX1_init 12 = .ok (.aload_n 0, 1) := by decide +kernel
theorem dX1_init_13 : decode cX1_init 13 = .ok (.bipush 25, 2) := by decide +kernel
theorem dX1_init_15 : decode cX1_init 15 = .ok (.newarray .int, 2) := by decide +kernel
theorem dX1_init_17 : decode cX1_init 17 = .ok (.putfield 15, 3) := by decide +kernel
theorem dX1_init_20 : decode cX1_init 20 = .ok (.aload_n 0, 1) := by decide +kernel
theorem dX1_init_21 : decode cX1_init 21 = .ok (.bipush 25, 2) := by decide +kernel
theorem dX1_init_23 : decode cX1_init 23 = .ok (.newarray .int, 2) := by decide +kernel
theorem dX1_init_25 : decode cX1_init 25 = .ok (.putfield 18, 3) := by decide +kernel
theorem dX1_init_28 : decode cX1_init 28 = .ok (.aload_n 0, 1) := by decide +kernel
theorem dX1_init_29 : decode cX1_init 29 = .ok (.bipush 25, 2) := by decide +kernel
theorem dX1_init_31 : decode cX1_init 31 = .ok (.newarray .int, 2) := by decide +kernel
theorem dX1_init_33 : decode cX1_init 33 = .ok (.putfield 21, 3) := by decide +kernel
theorem dX1_init_36 : decode cX1_init 36 = .ok (.aload_n 0, 1) := by decide +kernel
theorem dX1_init_37 : decode cX1_init 37 = .ok (.bipush 25, 2) := by decide +kernel
theorem dX1_init_39 : decode cX1_init 39 = .ok (.newarray .int, 2) := by decide +kernel
theorem dX1_init_41 : decode cX1_init 41 = .ok (.putfield 24, 3) := by decide +kernel
theorem dX1_init_44 : decode cX1_init 44 = .ok (.iload_n 3, 1) := by decide +kernel
theorem dX1_init_45 : decode cX1_init 45 = .ok (.iconst 2, 1) := by decide +kernel
theorem dX1_init_46 : decode cX1_init 46 = .ok (.if_icmp .ne 7, 3) := by decide +kernel
theorem dX1_init_49 : decode cX1_init 49 = .ok (.iconst 3, 1) := by decide +kernel
theorem dX1_init_50 : decode cX1_init 50 = .ok (.goto 5, 3) := by decide +kernel
theorem dX1_init_53 : decode cX1_init 53 = .ok (.bipush 7, 2) := by decide +kernel
theorem dX1_init_55 : decode cX1_init 55 = .ok (.istore 5, 2) := by decide +kernel
theorem dX1_init_57 : decode cX1_init 57 = .ok (.aload_n 0, 1) := by decide +kernel
theorem dX1_init_58 : decode cX1_init 58 = .ok (.iload_n 1, 1) := by decide +kernel
theorem dX1_init_59 : decode cX1_init 59 = .ok (.iload_n 2, 1) := by decide +kernel
theorem dX1_init_60 : decode cX1_init 60 = .ok (.imul, 1) := by decide +kernel
theorem dX1_init_61 : decode cX1_init 61 = .ok (.putfield 27, 3) := by decide +kernel
theorem dX1_init_64 : decode cX1_init 64 = .ok (.aload_n 0, 1) := by decide +kernel
theorem dX1_init_65 : decode cX1_init 65 = .ok (.iload 5, 2) := by decide +kernel
theorem dX1_init_67 : decode cX1_init 67 = .ok (.iload 4, 2) := by decide +kernel
theorem dX1_init_69 : decode cX1_init 69 = .ok (.imul, 1) := by decide +kernel
theorem dX1_init_70 : decode cX1_init 70 = .ok (.putfield 31, 3) := by decide +kernel
theorem dX1_init_73 : decode cX1_init 73 = .ok (.aload_n 0, 1) := by decide +kernel
theorem dX1_init_74 : decode cX1_init 74 = .ok (.iload 4, 2) := by decide +kernel
theorem dX1_init_76 : decode cX1_init 76 = .ok (.putfield 34, 3) := by decide +kernel
theorem dX1_init_79 : decode cX1_init 79 = .ok (.aload_n 0, 1) := by decide +kernel
theorem dX1_init_80 : decode cX1_init 80 = .ok (.iload_n 2, 1) := by decide +kernel
theorem dX1_init_81 : decode cX1_init 81 = .ok (.iload_n 3, 1) := by decide +kernel
theorem dX1_init_82 : decode cX1_init 82 = .ok (.invokevirtual 37, 3) := by decide +kernel
theorem dX1_init_85 : decode cX1_init 85 = .ok (.iconst 0, 1) := by decide +kernel
theorem dX1_init_86 : decode cX1_init 86 = .ok (.istore 6, 2) := by decide +kernel
theorem dX1_init_88 : decode cX1_init 88 = .ok (.iload 6, 2) := by decide +kernel
theorem dX1_init_90 : decode cX1_init 90 = .ok (.aload_n 0, 1) := by decide +kernel
theorem dX1_init_91 : decode cX1_init 91 = .ok (.getfield 27, 3) := by decide +kernel
theorem dX1_init_94 : decode cX1_init 94 = .ok (.if_icmp .ge 50, 3) := by decide +kernel
theorem dX1_init_97 : decode cX1_init 97 = .ok (.iload 6, 2) := by decide +kernel
theorem dX1_init_99 : decode cX1_init 99 = .ok (.bipush 25, 2) := by decide +kernel
theorem dX1_init_101 : decode cX1_init 101 = .ok (.if_icmp .ge 43, 3) := by decide +kernel
theorem dX1_init_104 : decode cX1_init 104 = .ok (.aload_n 0, 1) := by decide +kernel
theorem dX1_init_105 : decode cX1_init 105 = .ok (.getfield 21, 3) := by decide +kernel
theorem dX1_init_108 : decode cX1_init 108 = .ok (.iload 6, 2) := by decide +kernel
theorem dX1_init_110 : decode cX1_init 110 = .ok (.aload_n 0, 1) := by decide +kernel
theorem dX1_init_111 : decode cX1_init 111 = .ok (.aload_n 0, 1) := by decide +kernel
theorem dX1_init_112 : decode cX1_init 112 = .ok (.getfield 18, 3) := by decide +kernel
theorem dX1_init_115 : decode cX1_init 115 = .ok (.iload 6, 2) := by decide +kernel
theorem dX1_init_117 : decode cX1_init 117 = .ok (.iaload, 1) := by decide +kernel
theorem dX1_init_118 : decode cX1_init 118 = .ok (.iload 5, 2) := by decide +kernel
theorem dX1_init_120 : decode cX1_init 120 = .ok (.invokevirtual 41, 3) := by decide +kernel
theorem dX1_init_123 : decode cX1_init 123 = .ok (.iastore, 1) := by decide +kernel
theorem dX1_init_124 : decode cX1_init 124 = .ok (.aload_n 0, 1) := by decide +kernel
theorem dX1_init_125 : decode cX1_init 125 = .ok (.getfield 24, 3) := by decide +kernel
theorem dX1_init_128 : decode cX1_init 128 = .ok (.iload 6, 2) := by decide +kernel
theorem dX1_init_130 : decode cX1_init 130 = .ok (.aload_n 0, 1) := by decide +kernel
theorem dX1_init_131 : decode cX1_init 131 = .ok (.iload 6, 2) := by decide +kernel
theorem dX1_init_133 : decode cX1_init 133 = .ok (.iload_n 3, 1) := by decide +kernel
theorem dX1_init_134 : decode cX1_init 134 = .ok (.invokevirtual 45, 3) := by decide +kernel
theorem dX1_init_137 : decode cX1_init 137 = .ok (.iastore, 1) := by decide +kernel
theorem dX1_init_138 : decode cX1_init 138 = .ok (.iinc 6 1, 3) := by decide +kernel
theorem dX1_init_141 : decode cX1_init 141 = .ok (.goto (-53), 3) := by decide +kernel
theorem dX1_init_144 : decode cX1_init 144 = .ok (.return_, 1) := by decide +kernel
theorem dX1_placeCells_0 : decode cX1_placeCells 0 = .ok (.iconst 0, 1) := by decide +kernel
theorem dX1_placeCells_1 : decode cX1_placeCells 1 = .ok (.istore_n 3, 1) := by decide +kernel
theorem dX1_placeCells_2 : decode cX1_placeCells 2 = .ok (.iconst 0, 1) := by decide +kernel
theorem dX1_placeCells_3 : decode cX1_placeCells 3 = .ok (.istore 4, 2) := by decide +kernel
theorem dX1_placeCells_5 : decode cX1_placeCells 5 = .ok (.iconst 0, 1) := by decide +kernel
theorem dX1_placeCells_6 : decode cX1_placeCells 6 = .ok (.istore 5, 2) := by decide +kernel
theorem dX1_placeCells_8 : decode cX1_placeCells 8 = .ok (.iload 5, 2) := by decide +kernel
theorem dX1_placeCells_10 : decode cX1_placeCells 10 = .ok (.aload_n 0, 1) := by decide +kernel
theorem dX1_placeCells_11 : decode cX1_placeCells 11 = .ok (.getfield 27, 3) := by decide +kernel
theorem dX1_placeCells_14 : decode cX1_placeCells 14 = .ok (.if_icmp .ge 80, 3) := by decide +kernel
theorem dX1_placeCells_17 : decode cX1_placeCells 17 = .ok (.iload 5, 2) := by decide +kernel
theorem dX1_placeCells_19 : decode cX1_placeCells 19 = .ok (.bipush 25, 2) := by decide +kernel
theorem dX1_placeCells_21 : decode cX1_placeCells 21 = .ok (.if_icmp .ge 73, 3) := by decide +kernel
theorem dX1_placeCells_24 : decode cX1_placeCells 24 = .ok (.aload_n 0, 1) := by decide +kernel
theorem dX1_placeCells_25 : decode cX1_placeCells 25 = .ok (.getfield 9, 3) := by decide +kernel
theorem dX1_placeCells_28 : decode cX1_placeCells 28 = .ok (.iload 5, 2) := by decide +kernel
theorem dX1_placeCells_30 : decode cX1_placeCells 30 = .ok (.iload_n 3, 1) := by decide +kernel
theorem dX1_placeCells_31 : decode cX1_placeCells 31 = .ok (.iastore, 1) := by decide +kernel
theorem dX1_placeCells_32 : decode cX1_placeCells 32 = .ok (.aload_n 0, 1) := by decide +kernel
theorem dX1_placeCells_33 : decode cX1_placeCells 33 = .ok (.getfield 15, 3) := by decide +kernel
theorem dX1_placeCells_36 : decode cX1_placeCells 36 = .ok (.iload 5, 2) := by decide +kernel
theorem dX1_placeCells_38 : decode cX1_placeCells 38 = .ok (.iload 4, 2) := by decide +kernel
theorem dX1_placeCells_40 : decode cX1_placeCells 40 = .ok (.iastore, 1) := by decide +kernel
theorem dX1_placeCells_41 : decode cX1_placeCells 41 = .ok (.aload_n 0, 1) := by decide +kernel
theorem dX1_placeCells_42 : decode cX1_placeCells 42 = .ok (.getfield 18, 3) := by decide +kernel
theorem dX1_placeCells_45 : decode cX1_placeCells 45 = .ok (.iload 5, 2) := by decide +kernel
theorem dX1_placeCells_47 : decode cX1_placeCells 47 = .ok (.iload_n 2, 1) := by decide +kernel
theorem dX1_placeCells_48 : decode cX1_placeCells 48 = .ok (.iconst 2, 1) := by decide +kernel
theorem dX1_placeCells_49 : decode cX1_placeCells 49 = .ok (.if_icmp .ne 14, 3) := by decide +kernel
theorem dX1_placeCells_52 : decode cX1_placeCells 52 = .ok (.iload_n 3, 1) := by decide +kernel
theorem dX1_placeCells_53 : decode cX1_placeCells 53 = .ok (.iconst 2, 1) := by decide +kernel
theorem dX1_placeCells_54 : decode cX1_placeCells 54 = .ok (.iload 4, 2) := by decide +kernel
theorem dX1_placeCells_56 : decode cX1_placeCells 56 = .ok (.imul, 1) := by decide +kernel
theorem dX1_placeCells_57 : decode cX1_placeCells 57 = .ok (.iadd, 1) := by decide +kernel
theorem dX1_placeCells_58 : decode cX1_placeCells 58 = .ok (.iconst 3, 1) := by decide +kernel
theorem dX1_placeCells_59 : decode cX1_placeCells 59 = .ok (.irem, 1) := by decide +kernel
theorem dX1_placeCells_60 : decode cX1_placeCells 60 = .ok (.goto 12, 3) := by decide +kernel
theorem dX1_placeCells_63 : decode cX1_placeCells 63 = .ok (.iload_n 3, 1) := by decide +kernel
theorem dX1_placeCells_64 : decode cX1_placeCells 64 = .ok (.iconst 3, 1) := by decide +kernel
theorem dX1_placeCells_65 : decode cX1_placeCells 65 = .ok (.iload 4, 2) := by decide +kernel
theorem dX1_placeCells_67 : decode cX1_placeCells 67 = .ok (.imul, 1) := by decide +kernel
theorem dX1_placeCells_68 : decode cX1_placeCells 68 = .ok (.iadd, 1) := by decide +kernel
theorem dX1_placeCells_69 : decode cX1_placeCells 69 = .ok (.bipush 7, 2) := by decide +kernel
theorem dX1_placeCells_71 : decode cX1_placeCells 71 = .ok (.irem, 1) := by decide +kernel
theorem dX1_placeCells_72 : decode cX1_placeCells 72 = .ok (.iastore, 1) := by decide +kernel
theorem dX1_placeCells_73 : decode cX1_placeCells 73 = .ok (.iinc 4 1, 3) := by decide +kernel
theorem dX1_placeCells_76 : decode cX1_placeCells 76 = .ok (.iload 4, 2) := by decide +kernel
theorem dX1_placeCells_78 : decode cX1_placeCells 78 = .ok (.iload_n 1, 1) := by decide +kernel
theorem dX1_placeCells_79 : decode cX1_placeCells 79 = .ok (.if_icmp .ne 9, 3) := by decide +kernel
theorem dX1_placeCells_82 : decode cX1_placeCells 82 = .ok (.iconst 0, 1) := by decide +kernel
theorem dX1_placeCells_83 : decode cX1_placeCells 83 = .ok (.istore 4, 2) := by decide +kernel
theorem dX1_placeCells_85 : decode cX1_placeCells 85 = .ok (.iinc 3 1, 3) := by decide +kernel
theorem dX1_placeCells_88 : decode cX1_placeCells 88 = .ok (.iinc 5 1, 3) := by decide +kernel
theorem dX1_placeCells_91 : decode cX1_placeCells 91 = .ok (.goto (-83), 3) := by decide +kernel
theorem dX1_placeCells_94 : decode cX1_placeCells 94 = .ok (.return_, 1) := by decide +kernel
theorem dX1_channelsOfGroup_0 : decode cX1_channelsOfGroup 0 = .ok (.iconst 0, 1) := by decide +kernel
theorem dX1_channelsOfGroup_1 : decode cX1_channelsOfGroup 1 = .ok (.istore_n 3, 1) := by decide +kernel
theorem dX1_channelsOfGroup_2 : decode cX1_channelsOfGroup 2 = .ok (.iconst 0, 1) := by decide +kernel
theorem dX1_channelsOfGroup_3 : decode cX1_channelsOfGroup 3 = .ok (.istore 4, 2) := by decide +kernel
theorem dX1_channelsOfGroup_5 : decode cX1_channelsOfGroup 5 = .ok (.iload 4, 2) := by decide +kernel
theorem dX1_channelsOfGroup_7 : decode cX1_channelsOfGroup 7 = .ok (.aload_n 0, 1) := by decide +kernel
theorem dX1_channelsOfGroup_8 : decode cX1_channelsOfGroup 8 = .ok (.getfield 34, 3) := by decide +kernel
theorem dX1_channelsOfGroup_11 : decode cX1_channelsOfGroup 11 = .ok (.if_icmp .ge 20, 3) := by decide +kernel
theorem dX1_channelsOfGroup_14 : decode cX1_channelsOfGroup 14 = .ok (.iload_n 3, 1) := by decide +kernel
theorem dX1_channelsOfGroup_15 : decode cX1_channelsOfGroup 15 = .ok (.iconst 1, 1) := by decide +kernel
theorem dX1_channelsOfGroup_16 : decode cX1_channelsOfGroup 16 = .ok (.iload_n 1, 1) := by decide +kernel
theorem dX1_channelsOfGroup_17 : decode cX1_channelsOfGroup 17 = .ok (.iload 4, 2) := by decide +kernel
theorem dX1_channelsOfGroup_19 : decode cX1_channelsOfGroup 19 = .ok (.iload_n 2, 1) := by decide +kernel
theorem dX1_channelsOfGroup_20 : decode cX1_channelsOfGroup 20 = .ok (.imul, 1) := by decide +kernel
theorem dX1_channelsOfGroup_21 : decode cX1_channelsOfGroup 21 = .ok (.iadd, 1) := by decide +kernel
theorem dX1_channelsOfGroup_22 : decode cX1_channelsOfGroup 22 = .ok (.ishl, 1) := by decide +kernel
theorem dX1_channelsOfGroup_23 : decode cX1_channelsOfGroup 23 = .ok (.ior, 1) := by decide +kernel
theorem dX1_channelsOfGroup_24 : decode cX1_channelsOfGroup 24 = .ok (.istore_n 3, 1) := by decide +kernel
theorem dX1_channelsOfGroup_25 : decode cX1_channelsOfGroup 25 = .ok (.iinc 4 1, 3) := by decide +kernel
theorem dX1_channelsOfGroup_28 : decode cX1_channelsOfGroup 28 = .ok (.goto (-23), 3) := by decide +kernel
theorem dX1_channelsOfGroup_31 : decode cX1_channelsOfGroup 31 = .ok (.iload_n 3, 1) := by decide +kernel
theorem dX1_channelsOfGroup_32 : decode cX1_channelsOfGroup 32 = .ok (.ireturn, 1) := by decide +kernel
theorem dX1_cellsWithin_0 : decode cX1_cellsWithin 0 = .ok (.iconst 0, 1) := by decide +kernel
theorem dX1_cellsWithin_1 : decode cX1_cellsWithin 1 = .ok (.istore_n 3, 1) := by decide +kernel
theorem dX1_cellsWithin_2 : decode cX1_cellsWithin 2 = .ok (.iconst 0, 1) := by decide +kernel
theorem dX1_cellsWithin_3 : decode cX1_cellsWithin 3 = .ok (.istore 4, 2) := by decide +kernel
theorem dX1_cellsWithin_5 : decode cX1_cellsWithin 5 = .ok (.iload 4, 2) := by decide +kernel
theorem dX1_cellsWithin_7 : decode cX1_cellsWithin 7 = .ok (.aload_n 0, 1) := by decide +kernel
theorem dX1_cellsWithin_8 : decode cX1_cellsWithin 8 = .ok (.getfield 27, 3) := by decide +kernel
theorem dX1_cellsWithin_11 : decode cX1_cellsWithin 11 = .ok (.if_icmp .ge 33, 3) := by decide +kernel
theorem dX1_cellsWithin_14 : decode cX1_cellsWithin 14 = .ok (.iload 4, 2) := by decide +kernel
theorem dX1_cellsWithin_16 : decode cX1_cellsWithin 16 = .ok (.iload_n 1, 1) := by decide +kernel
theorem dX1_cellsWithin_17 : decode cX1_cellsWithin 17 = .ok (.if_icmp .eq 21, 3) := by decide +kernel
theorem dX1_cellsWithin_20 : decode cX1_cellsWithin 20 = .ok (.aload_n 0, 1) := by decide +kernel
theorem dX1_cellsWithin_21 : decode cX1_cellsWithin 21 = .ok (.iload_n 1, 1) := by decide +kernel
theorem dX1_cellsWithin_22 : decode cX1_cellsWithin 22 = .ok (.iload 4, 2) := by decide +kernel
theorem dX1_cellsWithin_24 : decode cX1_cellsWithin 24 = .ok (.invokevirtual 48, 3) := by decide +kernel
theorem dX1_cellsWithin_27 : decode cX1_cellsWithin 27 = .ok (.iload_n 2, 1) := by decide +kernel
theorem dX1_cellsWithin_28 : decode cX1_cellsWithin 28 = .ok (.if_icmp .ge 10, 3) := by decide +kernel
theorem dX1_cellsWithin_31 : decode cX1_cellsWithin 31 = .ok (.iload_n 3, 1) := by decide +kernel
theorem dX1_cellsWithin_32 : decode cX1_cellsWithin 32 = .ok (.iconst 1, 1) := by decide +kernel
theorem dX1_cellsWithin_33 : decode cX1_cellsWithin 33 = .ok (.iload 4, 2) := by decide +kernel
theorem dX1_cellsWithin_35 : decode cX1_cellsWithin 35 = .ok (.ishl, 1) := by decide +kernel
theorem dX1_cellsWithin_36 : decode cX1_cellsWithin 36 = .ok (.ior, 1) := by decide +kernel
theorem dX1_cellsWithin_37 : decode cX1_cellsWithin 37 = .ok (.istore_n 3, 1) := by decide +kernel
theorem dX1_cellsWithin_38 : decode cX1_cellsWithin 38 = .ok (.iinc 4 1, 3) := by decide +kernel
theorem dX1_cellsWithin_41 : decode cX1_cellsWithin 41 = .ok (.goto (-36), 3) := by decide +kernel
theorem dX1_cellsWithin_44 : decode cX1_cellsWithin 44 = .ok (.iload_n 3, 1) := by decide +kernel
theorem dX1_cellsWithin_45 : decode cX1_cellsWithin 45 = .ok (.ireturn, 1) := by decide +kernel
theorem dX1_hasCell_0 : decode cX1_hasCell 0 = .ok (.iload_n 1, 1) := by decide +kernel
theorem dX1_hasCell_1 : decode cX1_hasCell 1 = .ok (.ifCond .lt 21, 3) := by decide +kernel
theorem dX1_hasCell_4 : decode cX1_hasCell 4 = .ok (.iload_n 1, 1) := by decide +kernel
theorem dX1_hasCell_5 : decode cX1_hasCell 5 = .ok (.aload_n 0, 1) := by decide +kernel
theorem dX1_hasCell_6 : decode cX1_hasCell 6 = .ok (.getfield 27, 3) := by decide +kernel
theorem dX1_hasCell_9 : decode cX1_hasCell 9 = .ok (.if_icmp .ge 13, 3) := by decide +kernel
theorem dX1_hasCell_12 : decode cX1_hasCell 12 = .ok (.iload_n 1, 1) := by decide +kernel
theorem dX1_hasCell_13 : decode cX1_hasCell 13 = .ok (.bipush 25, 2) := by decide +kernel
theorem dX1_hasCell_15 : decode cX1_hasCell 15 = .ok (.if_icmp .ge 7, 3) := by decide +kernel
theorem dX1_hasCell_18 : decode cX1_hasCell 18 = .ok (.iconst 1, 1) := by decide +kernel
theorem dX1_hasCell_19 : decode cX1_hasCell 19 = .ok (.goto 4, 3) := by decide +kernel
theorem dX1_hasCell_22 : decode cX1_hasCell 22 = .ok (.iconst 0, 1) := by decide +kernel
theorem dX1_hasCell_23 : decode cX1_hasCell 23 = .ok (.ireturn, 1) := by decide +kernel
theorem dX1_groupAt_0 : decode cX1_groupAt 0 = .ok (.iload_n 1, 1) := by decide +kernel
theorem dX1_groupAt_1 : decode cX1_groupAt 1 = .ok (.ifCond .lt 18, 3) := by decide +kernel
theorem dX1_groupAt_4 : decode cX1_groupAt 4 = .ok (.iload_n 1, 1) := by decide +kernel
theorem dX1_groupAt_5 : decode cX1_groupAt 5 = .ok (.bipush 25, 2) := by decide +kernel
theorem dX1_groupAt_7 : decode cX1_groupAt 7 = .ok (.if_icmp .ge 12, 3) := by decide +kernel
theorem dX1_groupAt_10 : decode cX1_groupAt 10 = .ok (.aload_n 0, 1) := by decide +kernel
theorem dX1_groupAt_11 : decode cX1_groupAt 11 = .ok (.getfield 18, 3) := by decide +kernel
theorem dX1_groupAt_14 : decode cX1_groupAt 14 = .ok (.iload_n 1, 1) := by decide +kernel
theorem dX1_groupAt_15 : decode cX1_groupAt 15 = .ok (.iaload, 1) := by decide +kernel
theorem dX1_groupAt_16 : decode cX1_groupAt 16 = .ok (.goto 4, 3) := by decide +kernel
theorem dX1_groupAt_19 : decode cX1_groupAt 19 = .ok (.iconst 0, 1) := by decide +kernel
theorem dX1_groupAt_20 : decode cX1_groupAt 20 = .ok (.ireturn, 1) := by decide +kernel
theorem dX1_nominalsOf_0 : decode cX1_nominalsOf 0 = .ok (.iload_n 1, 1) := by decide +kernel
theorem dX1_nominalsOf_1 : decode cX1_nominalsOf 1 = .ok (.ifCond .lt 18, 3) := by decide +kernel
theorem dX1_nominalsOf_4 : decode cX1_nominalsOf 4 = .ok (.iload_n 1, 1) := by decide +kernel
theorem dX1_nominalsOf_5 : decode cX1_nominalsOf 5 = .ok (.bipush 25, 2) := by decide +kernel
theorem dX1_nominalsOf_7 : decode cX1_nominalsOf 7 = .ok (.if_icmp .ge 12, 3) := by decide +kernel
theorem dX1_nominalsOf_10 : decode cX1_nominalsOf 10 = .ok (.aload_n 0, 1) := by decide +kernel
theorem dX1_nominalsOf_11 : decode cX1_nominalsOf 11 = .ok (.getfield 21, 3) := by decide +kernel
theorem dX1_nominalsOf_14 : decode cX1_nominalsOf 14 = .ok (.iload_n 1, 1) := by decide +kernel
theorem dX1_nominalsOf_15 : decode cX1_nominalsOf 15 = .ok (.iaload, 1) := by decide +kernel
theorem dX1_nominalsOf_16 : decode cX1_nominalsOf 16 = .ok (.goto 4, 3) := by decide +kernel
theorem dX1_nominalsOf_19 : decode cX1_nominalsOf 19 = .ok (.iconst 0, 1) := by decide +kernel
theorem dX1_nominalsOf_20 : decode cX1_nominalsOf 20 = .ok (.ireturn, 1) := by decide +kernel
theorem dX1_near_0 : decode cX1_near 0 = .ok (.iload_n 1, 1) := by decide +kernel
theorem dX1_near_1 : decode cX1_near 1 = .ok (.ifCond .lt 18, 3) := by decide +kernel
theorem dX1_near_4 : decode cX1_near 4 = .ok (.iload_n 1, 1) := by decide +kernel
theorem dX1_near_5 : decode cX1_near 5 = .ok (.bipush 25, 2) := by decide +kernel
theorem dX1_near_7 : decode cX1_near 7 = .ok (.if_icmp .ge 12, 3) := by decide +kernel
theorem dX1_near_10 : decode cX1_near 10 = .ok (.aload_n 0, 1) := by decide +kernel
theorem dX1_near_11 : decode cX1_near 11 = .ok (.getfield 24, 3) := by decide +kernel
theorem dX1_near_14 : decode cX1_near 14 = .ok (.iload_n 1, 1) := by decide +kernel
theorem dX1_near_15 : decode cX1_near 15 = .ok (.iaload, 1) := by decide +kernel
theorem dX1_near_16 : decode cX1_near 16 = .ok (.goto 4, 3) := by decide +kernel
theorem dX1_near_19 : decode cX1_near 19 = .ok (.iconst 0, 1) := by decide +kernel
theorem dX1_near_20 : decode cX1_near 20 = .ok (.ireturn, 1) := by decide +kernel
theorem dX1_separation_0 : decode cX1_separation 0 = .ok (.aload_n 0, 1) := by decide +kernel
theorem dX1_separation_1 : decode cX1_separation 1 = .ok (.iload_n 1, 1) := by decide +kernel
theorem dX1_separation_2 : decode cX1_separation 2 = .ok (.invokevirtual 51, 3) := by decide +kernel
theorem dX1_separation_5 : decode cX1_separation 5 = .ok (.ifCond .eq 11, 3) := by decide +kernel
theorem dX1_separation_8 : decode cX1_separation 8 = .ok (.aload_n 0, 1) := by decide +kernel
theorem dX1_separation_9 : decode cX1_separation 9 = .ok (.iload_n 2, 1) := by decide +kernel
theorem dX1_separation_10 : decode cX1_separation 10 = .ok (.invokevirtual 51, 3) := by decide +kernel
theorem dX1_separation_13 : decode cX1_separation 13 = .ok (.ifCond .ne 5, 3) := by decide +kernel
theorem dX1_separation_16 : decode cX1_separation 16 = .ok (.iconst 0, 1) := by decide +kernel
theorem dX1_separation_17 : decode cX1_separation 17 = .ok (.ireturn, 1) := by decide +kernel
theorem dX1_separation_18 : decode cX1_separation 18 = .ok (.aload_n 0, 1) := by decide +kernel
theorem dX1_separation_19 : decode cX1_separation 19 = .ok (.getfield 9, 3) := by decide +kernel
theorem dX1_separation_22 : decode cX1_separation 22 = .ok (.iload_n 1, 1) := by decide +kernel
theorem dX1_separation_23 : decode cX1_separation 23 = .ok (.iaload, 1) := by decide +kernel
theorem dX1_separation_24 : decode cX1_separation 24 = .ok (.aload_n 0, 1) := by decide +kernel
theorem dX1_separation_25 : decode cX1_separation 25 = .ok (.getfield 9, 3) := by decide +kernel
theorem dX1_separation_28 : decode cX1_separation 28 = .ok (.iload_n 2, 1) := by decide +kernel
theorem dX1_separation_29 : decode cX1_separation 29 = .ok (.iaload, 1) := by decide +kernel
theorem dX1_separation_30 : decode cX1_separation 30 = .ok (.isub, 1) := by decide +kernel
theorem dX1_separation_31 : decode cX1_separation 31 = .ok (.istore_n 3, 1) := by decide +kernel
theorem dX1_separation_32 : decode cX1_separation 32 = .ok (.aload_n 0, 1) := by decide +kernel
theorem dX1_separation_33 : decode cX1_separation 33 = .ok (.getfield 15, 3) := by decide +kernel
theorem dX1_separation_36 : decode cX1_separation 36 = .ok (.iload_n 1, 1) := by decide +kernel
theorem dX1_separation_37 : decode cX1_separation 37 = .ok (.iaload, 1) := by decide +kernel
theorem dX1_separation_38 : decode cX1_separation 38 = .ok (.aload_n 0, 1) := by decide +kernel
theorem dX1_separation_39 : decode cX1_separation 39 = .ok (.getfield 15, 3) := by decide +kernel
theorem dX1_separation_42 : decode cX1_separation 42 = .ok (.iload_n 2, 1) := by decide +kernel
theorem dX1_separation_43 : decode cX1_separation 43 = .ok (.iaload, 1) := by decide +kernel
theorem dX1_separation_44 : decode cX1_separation 44 = .ok (.isub, 1) := by decide +kernel
theorem dX1_separation_45 : decode cX1_separation 45 = .ok (.istore 4, 2) := by decide +kernel
theorem dX1_separation_47 : decode cX1_separation 47 = .ok (.iload_n 3, 1) := by decide +kernel
theorem dX1_separation_48 : decode cX1_separation 48 = .ok (.iload 4, 2) := by decide +kernel
theorem dX1_separation_50 : decode cX1_separation 50 = .ok (.iadd, 1) := by decide +kernel
theorem dX1_separation_51 : decode cX1_separation 51 = .ok (.invokestatic 55, 3) := by decide +kernel
theorem dX1_separation_54 : decode cX1_separation 54 = .ok (.iload_n 3, 1) := by decide +kernel
theorem dX1_separation_55 : decode cX1_separation 55 = .ok (.invokestatic 55, 3) := by decide +kernel
theorem dX1_separation_58 : decode cX1_separation 58 = .ok (.iload 4, 2) := by decide +kernel
theorem dX1_separation_60 : decode cX1_separation 60 = .ok (.invokestatic 55, 3) := by decide +kernel
theorem dX1_separation_63 : decode cX1_separation 63 = .ok (.invokestatic 61, 3) := by decide +kernel
theorem dX1_separation_66 : decode cX1_separation 66 = .ok (.invokestatic 61, 3) := by decide +kernel
theorem dX1_separation_69 : decode cX1_separation 69 = .ok (.ireturn, 1) := by decide +kernel
theorem dX1_burdenIn_0 : decode cX1_burdenIn 0 = .ok (.aload_n 0, 1) := by decide +kernel
theorem dX1_burdenIn_1 : decode cX1_burdenIn 1 = .ok (.iload_n 1, 1) := by decide +kernel
theorem dX1_burdenIn_2 : decode cX1_burdenIn 2 = .ok (.invokevirtual 64, 3) := by decide +kernel
theorem dX1_burdenIn_5 : decode cX1_burdenIn 5 = .ok (.istore_n 3, 1) := by decide +kernel
theorem dX1_burdenIn_6 : decode cX1_burdenIn 6 = .ok (.iconst 0, 1) := by decide +kernel
theorem dX1_burdenIn_7 : decode cX1_burdenIn 7 = .ok (.istore 4, 2) := by decide +kernel
theorem dX1_burdenIn_9 : decode cX1_burdenIn 9 = .ok (.iconst 0, 1) := by decide +kernel
theorem dX1_burdenIn_10 : decode cX1_burdenIn 10 = .ok (.istore 5, 2) := by decide +kernel
theorem dX1_burdenIn_12 : decode cX1_burdenIn 12 = .ok (.iload 5, 2) := by decide +kernel
theorem dX1_burdenIn_14 : decode cX1_burdenIn 14 = .ok (.bipush 25, 2) := by decide +kernel
theorem dX1_burdenIn_16 : decode cX1_burdenIn 16 = .ok (.if_icmp .ge 35, 3) := by decide +kernel
theorem dX1_burdenIn_19 : decode cX1_burdenIn 19 = .ok (.iload_n 3, 1) := by decide +kernel
theorem dX1_burdenIn_20 : decode cX1_burdenIn 20 = .ok (.iload 5, 2) := by decide +kernel
theorem dX1_burdenIn_22 : decode cX1_burdenIn 22 = .ok (.invokestatic 67, 3) := by decide +kernel
theorem dX1_burdenIn_25 : decode cX1_burdenIn 25 = .ok (.ifCond .eq 20, 3) := by decide +kernel
theorem dX1_burdenIn_28 : decode cX1_burdenIn 28 = .ok (.aload_n 0, 1) := by decide +kernel
theorem dX1_burdenIn_29 : decode cX1_burdenIn 29 = .ok (.getfield 21, 3) := by decide +kernel
theorem dX1_burdenIn_32 : decode cX1_burdenIn 32 = .ok (.iload 5, 2) := by decide +kernel
theorem dX1_burdenIn_34 : decode cX1_burdenIn 34 = .ok (.iaload, 1) := by decide +kernel
theorem dX1_burdenIn_35 : decode cX1_burdenIn 35 = .ok (.iload_n 2, 1) := by decide +kernel
theorem dX1_burdenIn_36 : decode cX1_burdenIn 36 = .ok (.invokestatic 67, 3) := by decide +kernel
theorem dX1_burdenIn_39 : decode cX1_burdenIn 39 = .ok (.ifCond .eq 6, 3) := by decide +kernel
theorem dX1_burdenIn_42 : decode cX1_burdenIn 42 = .ok (.iinc 4 1, 3) := by decide +kernel
theorem dX1_burdenIn_45 : decode cX1_burdenIn 45 = .ok (.iinc 5 1, 3) := by decide +kernel
theorem dX1_burdenIn_48 : decode cX1_burdenIn 48 = .ok (.goto (-36), 3) := by decide +kernel
theorem dX1_burdenIn_51 : decode cX1_burdenIn 51 = .ok (.iload 4, 2) := by decide +kernel
theorem dX1_burdenIn_53 : decode cX1_burdenIn 53 = .ok (.ireturn, 1) := by decide +kernel
theorem dX2_init_0 : decode cX2_init 0 = .ok (.aload_n 0, 1) := by decide +kernel
theorem dX2_init_1 : decode cX2_init 1 = .ok (.invokespecial 3, 3) := by decide +kernel
theorem dX2_init_4 : decode cX2_init 4 = .ok (.aload_n 0, 1) := by decide +kernel
theorem dX2_init_5 : decode cX2_init 5 = .ok (.iconst 1, 1) := by decide +kernel
theorem dX2_init_6 : decode cX2_init 6 = .ok (.putfield 9, 3) := by decide +kernel
theorem dX2_init_9 : decode cX2_init 9 = .ok (.aload_n 0, 1) := by decide +kernel
theorem dX2_init_10 : decode cX2_init 10 = .ok (.bipush 60, 2) := by decide +kernel
theorem dX2_init_12 : decode cX2_init 12 = .ok (.newarray .int, 2) := by decide +kernel
theorem dX2_init_14 : decode cX2_init 14 = .ok (.putfield 15, 3) := by decide +kernel
theorem dX2_init_17 : decode cX2_init 17 = .ok (.aload_n 0, 1) := by decide +kernel
theorem dX2_init_18 : decode cX2_init 18 = .ok (.bipush 60, 2) := by decide +kernel
theorem dX2_init_20 : decode cX2_init 20 = .ok (.newarray .int, 2) := by decide +kernel
theorem dX2_init_22 : decode cX2_init 22 = .ok (.putfield 19, 3) := by decide +kernel
theorem dX2_init_25 : decode cX2_init 25 = .ok (.aload_n 0, 1) := by decide +kernel
theorem dX2_init_26 : decode cX2_init 26 = .ok (.bipush 60, 2) := by decide +kernel
theorem dX2_init_28 : decode cX2_init 28 = .ok (.newarray .int, 2) := by decide +kernel
theorem dX2_init_30 : decode cX2_init 30 = .ok (.putfield 22, 3) := by decide +kernel
theorem dX2_init_33 : decode cX2_init 33 = .ok (.aload_n 0, 1) := by decide +kernel
theorem dX2_init_34 : decode cX2_init 34 = .ok (.bipush 25, 2) := by decide +kernel
theorem dX2_init_36 : decode cX2_init 36 = .ok (.newarray .int, 2) := by decide +kernel
theorem dX2_init_38 : decode cX2_init 38 = .ok (.putfield 25, 3) := by decide +kernel
theorem dX2_init_41 : decode cX2_init 41 = .ok (.aload_n 0, 1) := by decide +kernel
theorem dX2_init_42 : decode cX2_init 42 = .ok (.aload_n 1, 1) := by decide +kernel
theorem dX2_init_43 : decode cX2_init 43 = .ok (.invokevirtual 28, 3) := by decide +kernel
theorem dX2_init_46 : decode cX2_init 46 = .ok (.return_, 1) := by decide +kernel
theorem dX2_begin_0 : decode cX2_begin 0 = .ok (.aload_n 0, 1) := by decide +kernel
theorem dX2_begin_1 : decode cX2_begin 1 = .ok (.aload_n 1, 1) := by decide +kernel
theorem dX2_begin_2 : decode cX2_begin 2 = .ok (.putfield 32, 3) := by decide +kernel
theorem dX2_begin_5 : decode cX2_begin 5 = .ok (.aload_n 0, 1) := by decide +kernel
theorem dX2_begin_6 : decode cX2_begin 6 = .ok (.iconst 0, 1) := by decide +kernel
theorem dX2_begin_7 : decode cX2_begin 7 = .ok (.putfield 36, 3) := by decide +kernel
theorem dX2_begin_10 : decode cX2_begin 10 = .ok (.aload_n 0, 1) := by decide +kernel
theorem dX2_begin_11 : decode cX2_begin 11 = .ok (.iconst 0, 1) := by decide +kernel
theorem dX2_begin_12 : decode cX2_begin 12 = .ok (.putfield 40, 3) := by decide +kernel
theorem dX2_begin_15 : decode cX2_begin 15 = .ok (.aload_n 0, 1) := by decide +kernel
theorem dX2_begin_16 : decode cX2_begin 16 = .ok (.iconst 0, 1) := by decide +kernel
theorem dX2_begin_17 : decode cX2_begin 17 = .ok (.putfield 43, 3) := by decide +kernel
theorem dX2_begin_20 : decode cX2_begin 20 = .ok (.aload_n 0, 1) := by decide +kernel
theorem dX2_begin_21 : decode cX2_begin 21 = .ok (.iconst 0, 1) := by decide +kernel
theorem dX2_begin_22 : decode cX2_begin 22 = .ok (.putfield 46, 3) := by decide +kernel
theorem dX2_begin_25 : decode cX2_begin 25 = .ok (.aload_n 0, 1) := by decide +kernel
theorem dX2_begin_26 : decode cX2_begin 26 = .ok (.iconst 0, 1) := by decide +kernel
theorem dX2_begin_27 : decode cX2_begin 27 = .ok (.putfield 49, 3) := by decide +kernel
theorem dX2_begin_30 : decode cX2_begin 30 = .ok (.aload_n 0, 1) := by decide +kernel
theorem dX2_begin_31 : decode cX2_begin 31 = .ok (.iconst 0, 1) := by decide +kernel
theorem dX2_begin_32 : decode cX2_begin 32 = .ok (.putfield 52, 3) := by decide +kernel
theorem dX2_begin_35 : decode cX2_begin 35 = .ok (.aload_n 0, 1) := by decide +kernel
theorem dX2_begin_36 : decode cX2_begin 36 = .ok (.iconst 0, 1) := by decide +kernel
theorem dX2_begin_37 : decode cX2_begin 37 = .ok (.putfield 55, 3) := by decide +kernel
theorem dX2_begin_40 : decode cX2_begin 40 = .ok (.aload_n 0, 1) := by decide +kernel
theorem dX2_begin_41 : decode cX2_begin 41 = .ok (.getfield 15, 3) := by decide +kernel
theorem dX2_begin_44 : decode cX2_begin 44 = .ok (.iconst 0, 1) := by decide +kernel
theorem dX2_begin_45 : decode cX2_begin 45 = .ok (.invokestatic 58, 3) := by decide +kernel
theorem dX2_begin_48 : decode cX2_begin 48 = .ok (.aload_n 0, 1) := by decide +kernel
theorem dX2_begin_49 : decode cX2_begin 49 = .ok (.getfield 19, 3) := by decide +kernel
theorem dX2_begin_52 : decode cX2_begin 52 = .ok (.bipush (-9), 2) := by decide +kernel
theorem dX2_begin_54 : decode cX2_begin 54 = .ok (.invokestatic 58, 3) := by decide +kernel
theorem dX2_begin_57 : decode cX2_begin 57 = .ok (.aload_n 0, 1) := by decide +kernel
theorem dX2_begin_58 : decode cX2_begin 58 = .ok (.getfield 22, 3) := by decide +kernel
theorem dX2_begin_61 : decode cX2_begin 61 = .ok (.iconst 0, 1) := by decide +kernel
theorem dX2_begin_62 : decode cX2_begin 62 = .ok (.invokestatic 58, 3) := by decide +kernel
theorem dX2_begin_65 : decode cX2_begin 65 = .ok (.aload_n 0, 1) := by decide +kernel
theorem dX2_begin_66 : decode cX2_begin 66 = .ok (.getfield 25, 3) := by decide +kernel
theorem dX2_begin_69 : decode cX2_begin 69 = .ok (.iconst 0, 1) := by decide +kernel
theorem dX2_begin_70 : decode cX2_begin 70 = .ok (.invokestatic 58, 3) := by decide +kernel
theorem dX2_begin_73 : decode cX2_begin 73 = .ok (.return_, 1) := by decide +kernel
theorem dX2_copyFrom_0 : decode cX2_copyFrom 0 = .ok (.aload_n 0, 1) := by decide +kernel
theorem dX2_copyFrom_1 : decode cX2_copyFrom 1 = .ok (.aload_n 1, 1) := by decide +kernel
theorem dX2_copyFrom_2 : decode cX2_copyFrom 2 = .ok (.getfield 32, 3) := by decide +kernel
theorem dX2_copyFrom_5 : decode cX2_copyFrom 5 = .ok (.putfield 32, 3) := by decide +kernel
theorem dX2_copyFrom_8 : decode cX2_copyFrom 8 = .ok (.aload_n 0, 1) := by decide +kernel
theorem dX2_copyFrom_9 : decode cX2_copyFrom 9 = .ok (.aload_n 1, 1) := by decide +kernel
theorem dX2_copyFrom_10 : decode cX2_copyFrom 10 = .ok (.getfield 64, 3) := by decide +kernel
theorem dX2_copyFrom_13 : decode cX2_copyFrom 13 = .ok (.putfield 64, 3) := by decide +kernel
theorem dX2_copyFrom_16 : decode cX2_copyFrom 16 = .ok (.aload_n 0, 1) := by decide +kernel
theorem dX2_copyFrom_17 : decode cX2_copyFrom 17 = .ok (.aload_n 1, 1) := by decide +kernel
theorem dX2_copyFrom_18 : decode cX2_copyFrom 18 = .ok (.getfield 67, 3) := by decide +kernel
theorem dX2_copyFrom_21 : decode cX2_copyFrom 21 = .ok (.putfield 67, 3) := by decide +kernel
theorem dX2_copyFrom_24 : decode cX2_copyFrom 24 = .ok (.aload_n 0, 1) := by decide +kernel
theorem dX2_copyFrom_25 : decode cX2_copyFrom 25 = .ok (.aload_n 1, 1) := by decide +kernel
theorem dX2_copyFrom_26 : decode cX2_copyFrom 26 = .ok (.getfield 9, 3) := by decide +kernel
theorem dX2_copyFrom_29 : decode cX2_copyFrom 29 = .ok (.putfield 9, 3) := by decide +kernel
theorem dX2_copyFrom_32 : decode cX2_copyFrom 32 = .ok (.aload_n 0, 1) := by decide +kernel
theorem dX2_copyFrom_33 : decode cX2_copyFrom 33 = .ok (.aload_n 1, 1) := by decide +kernel
theorem dX2_copyFrom_34 : decode cX2_copyFrom 34 = .ok (.getfield 36, 3) := by decide +kernel
theorem dX2_copyFrom_37 : decode cX2_copyFrom 37 = .ok (.putfield 36, 3) := by decide +kernel
theorem dX2_copyFrom_40 : decode cX2_copyFrom 40 = .ok (.aload_n 0, 1) := by decide +kernel
theorem dX2_copyFrom_41 : decode cX2_copyFrom 41 = .ok (.aload_n 1, 1) := by decide +kernel
theorem dX2_copyFrom_42 : decode cX2_copyFrom 42 = .ok (.getfield 40, 3) := by decide +kernel
theorem dX2_copyFrom_45 : decode cX2_copyFrom 45 = .ok (.putfield 40, 3) := by decide +kernel
theorem dX2_copyFrom_48 : decode cX2_copyFrom 48 = .ok (.aload_n 0, 1) := by decide +kernel
theorem dX2_copyFrom_49 : decode cX2_copyFrom 49 = .ok (.aload_n 1, 1) := by decide +kernel
theorem dX2_copyFrom_50 : decode cX2_copyFrom 50 = .ok (.getfield 43, 3) := by decide +kernel
theorem dX2_copyFrom_53 : decode cX2_copyFrom 53 = .ok (.putfield 43, 3) := by decide +kernel
theorem dX2_copyFrom_56 : decode cX2_copyFrom 56 = .ok (.aload_n 0, 1) := by decide +kernel
theorem dX2_copyFrom_57 : decode cX2_copyFrom 57 = .ok (.aload_n 1, 1) := by decide +kernel
theorem dX2_copyFrom_58 : decode cX2_copyFrom 58 = .ok (.getfield 46, 3) := by decide +kernel
theorem dX2_copyFrom_61 : decode cX2_copyFrom 61 = .ok (.putfield 46, 3) := by decide +kernel
theorem dX2_copyFrom_64 : decode cX2_copyFrom 64 = .ok (.aload_n 0, 1) := by decide +kernel
theorem dX2_copyFrom_65 : decode cX2_copyFrom 65 = .ok (.aload_n 1, 1) := by decide +kernel
theorem dX2_copyFrom_66 : decode cX2_copyFrom 66 = .ok (.getfield 49, 3) := by decide +kernel
theorem dX2_copyFrom_69 : decode cX2_copyFrom 69 = .ok (.putfield 49, 3) := by decide +kernel
theorem dX2_copyFrom_72 : decode cX2_copyFrom 72 = .ok (.aload_n 0, 1) := by decide +kernel
theorem dX2_copyFrom_73 : decode cX2_copyFrom 73 = .ok (.aload_n 1, 1) := by decide +kernel
theorem dX2_copyFrom_74 : decode cX2_copyFrom 74 = .ok (.getfield 52, 3) := by decide +kernel
theorem dX2_copyFrom_77 : decode cX2_copyFrom 77 = .ok (.putfield 52, 3) := by decide +kernel
theorem dX2_copyFrom_80 : decode cX2_copyFrom 80 = .ok (.aload_n 0, 1) := by decide +kernel
theorem dX2_copyFrom_81 : decode cX2_copyFrom 81 = .ok (.aload_n 1, 1) := by decide +kernel
theorem dX2_copyFrom_82 : decode cX2_copyFrom 82 = .ok (.getfield 55, 3) := by decide +kernel
theorem dX2_copyFrom_85 : decode cX2_copyFrom 85 = .ok (.putfield 55, 3) := by decide +kernel
theorem dX2_copyFrom_88 : decode cX2_copyFrom 88 = .ok (.aload_n 1, 1) := by decide +kernel
theorem dX2_copyFrom_89 : decode cX2_copyFrom 89 = .ok (.getfield 15, 3) := by decide +kernel
theorem dX2_copyFrom_92 : decode cX2_copyFrom 92 = .ok (.iconst 0, 1) := by decide +kernel
theorem dX2_copyFrom_93 : decode cX2_copyFrom 93 = .ok (.aload_n 0, 1) := by decide +kernel
theorem dX2_copyFrom_94 : decode cX2_copyFrom 94 = .ok (.getfield 15, 3) := by decide +kernel
theorem dX2_copyFrom_97 : decode cX2_copyFrom 97 = .ok (.iconst 0, 1) := by decide +kernel
theorem dX2_copyFrom_98 : decode cX2_copyFrom 98 = .ok (.bipush 60, 2) := by decide +kernel
theorem dX2_copyFrom_100 : decode cX2_copyFrom 100 = .ok (.invokestatic 70, 3) := by decide +kernel
theorem dX2_copyFrom_103 : decode cX2_copyFrom 103 = .ok (.aload_n 1, 1) := by decide +kernel
theorem dX2_copyFrom_104 : decode cX2_copyFrom 104 = .ok (.getfield 19, 3) := by decide +kernel
theorem dX2_copyFrom_107 : decode cX2_copyFrom 107 = .ok (.iconst 0, 1) := by decide +kernel
theorem dX2_copyFrom_108 : decode cX2_copyFrom 108 = .ok (.aload_n 0, 1) := by decide +kernel
theorem dX2_copyFrom_109 : decode cX2_copyFrom 109 = .ok (.getfield 19, 3) := by decide +kernel
theorem dX2_copyFrom_112 : decode cX2_copyFrom 112 = .ok (.iconst 0, 1) := by decide +kernel
theorem dX2_copyFrom_113 : decode cX2_copyFrom 113 = .ok (.bipush 60, 2) := by decide +kernel
theorem dX2_copyFrom_115 : decode cX2_copyFrom 115 = .ok (.invokestatic 70, 3) := by decide +kernel
theorem dX2_copyFrom_118 : decode cX2_copyFrom 118 = .ok (.aload_n 1, 1) := by decide +kernel
theorem dX2_copyFrom_119 : decode cX2_copyFrom 119 = .ok (.getfield 22, 3) := by decide +kernel
theorem dX2_copyFrom_122 : decode cX2_copyFrom 122 = .ok (.iconst 0, 1) := by decide +kernel
theorem dX2_copyFrom_123 : decode cX2_copyFrom 123 = .ok (.aload_n 0, 1) := by decide +kernel
theorem dX2_copyFrom_124 : decode cX2_copyFrom 124 = .ok (.getfield 22, 3) := by decide +kernel
theorem dX2_copyFrom_127 : decode cX2_copyFrom 127 = .ok (.iconst 0, 1) := by decide +kernel
theorem dX2_copyFrom_128 : decode cX2_copyFrom 128 = .ok (.bipush 60, 2) := by decide +kernel
theorem dX2_copyFrom_130 : decode cX2_copyFrom 130 = .ok (.invokestatic 70, 3) := by decide +kernel
theorem dX2_copyFrom_133 : decode cX2_copyFrom 133 = .ok (.aload_n 1, 1) := by decide +kernel
theorem dX2_copyFrom_134 : decode cX2_copyFrom 134 = .ok (.getfield 25, 3) := by decide +kernel
theorem dX2_copyFrom_137 : decode cX2_copyFrom 137 = .ok (.iconst 0, 1) := by decide +kernel
theorem dX2_copyFrom_138 : decode cX2_copyFrom 138 = .ok (.aload_n 0, 1) := by decide +kernel
theorem dX2_copyFrom_139 : decode cX2_copyFrom 139 = .ok (.getfield 25, 3) := by decide +kernel
theorem dX2_copyFrom_142 : decode cX2_copyFrom 142 = .ok (.iconst 0, 1) := by decide +kernel
theorem dX2_copyFrom_143 : decode cX2_copyFrom 143 = .ok (.bipush 25, 2) := by decide +kernel
theorem dX2_copyFrom_145 : decode cX2_copyFrom 145 = .ok (.invokestatic 70, 3) := by decide +kernel
theorem dX2_copyFrom_148 : decode cX2_copyFrom 148 = .ok (.return_, 1) := by decide +kernel
theorem dX2_isPresent_0 : decode cX2_isPresent 0 = .ok (.iload_n 1, 1) := by decide +kernel
theorem dX2_isPresent_1 : decode cX2_isPresent 1 = .ok (.ifCond .lt 34, 3) := by decide +kernel
theorem dX2_isPresent_4 : decode cX2_isPresent 4 = .ok (.iload_n 1, 1) := by decide +kernel
theorem dX2_isPresent_5 : decode cX2_isPresent 5 = .ok (.bipush 60, 2) := by decide +kernel
theorem dX2_isPresent_7 : decode cX2_isPresent 7 = .ok (.if_icmp .ge 28, 3) := by decide +kernel
theorem dX2_isPresent_10 : decode cX2_isPresent 10 = .ok (.aload_n 0, 1) := by decide +kernel
theorem dX2_isPresent_11 : decode cX2_isPresent 11 = .ok (.getfield 19, 3) := by decide +kernel
theorem dX2_isPresent_14 : decode cX2_isPresent 14 = .ok (.iload_n 1, 1) := by decide +kernel
theorem dX2_isPresent_15 : decode cX2_isPresent 15 = .ok (.iaload, 1) := by decide +kernel
theorem dX2_isPresent_16 : decode cX2_isPresent 16 = .ok (.bipush (-9), 2) := by decide +kernel
theorem dX2_isPresent_18 : decode cX2_isPresent 18 = .ok (.if_icmp .ne 13, 3) := by decide +kernel
theorem dX2_isPresent_21 : decode cX2_isPresent 21 = .ok (.aload_n 0, 1) := by decide +kernel
theorem dX2_isPresent_22 : decode cX2_isPresent 22 = .ok (.getfield 22, 3) := by decide +kernel
theorem dX2_isPresent_25 : decode cX2_isPresent 25 = .ok (.iload_n 1, 1) := by decide +kernel
theorem dX2_isPresent_26 : decode cX2_isPresent 26 = .ok (.iaload, 1) := by decide +kernel
theorem dX2_isPresent_27 : decode cX2_isPresent 27 = .ok (.iconst 1, 1) := by decide +kernel
theorem dX2_isPresent_28 : decode cX2_isPresent 28 = .ok (.if_icmp .ne 7, 3) := by decide +kernel
theorem dX2_isPresent_31 : decode cX2_isPresent 31 = .ok (.iconst 1, 1) := by decide +kernel
theorem dX2_isPresent_32 : decode cX2_isPresent 32 = .ok (.goto 4, 3) := by decide +kernel
theorem dX2_isPresent_35 : decode cX2_isPresent 35 = .ok (.iconst 0, 1) := by decide +kernel
theorem dX2_isPresent_36 : decode cX2_isPresent 36 = .ok (.ireturn, 1) := by decide +kernel
theorem dX2_cellAt_0 : decode cX2_cellAt 0 = .ok (.aload_n 0, 1) := by decide +kernel
theorem dX2_cellAt_1 : decode cX2_cellAt 1 = .ok (.iload_n 1, 1) := by decide +kernel
theorem dX2_cellAt_2 : decode cX2_cellAt 2 = .ok (.invokevirtual 76, 3) := by decide +kernel
theorem dX2_cellAt_5 : decode cX2_cellAt 5 = .ok (.ifCond .eq 12, 3) := by decide +kernel
theorem dX2_cellAt_8 : decode cX2_cellAt 8 = .ok (.aload_n 0, 1) := by decide +kernel
theorem dX2_cellAt_9 : decode cX2_cellAt 9 = .ok (.getfield 15, 3) := by decide +kernel
theorem dX2_cellAt_12 : decode cX2_cellAt 12 = .ok (.iload_n 1, 1) := by decide +kernel
theorem dX2_cellAt_13 : decode cX2_cellAt 13 = .ok (.iaload, 1) := by decide +kernel
theorem dX2_cellAt_14 : decode cX2_cellAt 14 = .ok (.goto 5, 3) := by decide +kernel
theorem dX2_cellAt_17 : decode cX2_cellAt 17 = .ok (.bipush (-9), 2) := by decide +kernel
theorem dX2_cellAt_19 : decode cX2_cellAt 19 = .ok (.ireturn, 1) := by decide +kernel
theorem dX2_channelAt_0 : decode cX2_channelAt 0 = .ok (.aload_n 0, 1) := by decide +kernel
theorem dX2_channelAt_1 : decode cX2_channelAt 1 = .ok (.iload_n 1, 1) := by decide +kernel
theorem dX2_channelAt_2 : decode cX2_channelAt 2 = .ok (.invokevirtual 76, 3) := by decide +kernel
theorem dX2_channelAt_5 : decode cX2_channelAt 5 = .ok (.ifCond .eq 12, 3) := by decide +kernel
theorem dX2_channelAt_8 : decode cX2_channelAt 8 = .ok (.aload_n 0, 1) := by decide +kernel
theorem dX2_channelAt_9 : decode cX2_channelAt 9 = .ok (.getfield 19, 3) := by decide +kernel
theorem dX2_channelAt_12 : decode cX2_channelAt 12 = .ok (.iload_n 1, 1) := by decide +kernel
theorem dX2_channelAt_13 : decode cX2_channelAt 13 = .ok (.iaload, 1) := by decide +kernel
theorem dX2_channelAt_14 : decode cX2_channelAt 14 = .ok (.goto 5, 3) := by decide +kernel
theorem dX2_channelAt_17 : decode cX2_channelAt 17 = .ok (.bipush (-9), 2) := by decide +kernel
theorem dX2_channelAt_19 : decode cX2_channelAt 19 = .ok (.ireturn, 1) := by decide +kernel
theorem dX2_isFixed_0 : decode cX2_isFixed 0 = .ok (.aload_n 0, 1) := by decide +kernel
theorem dX2_isFixed_1 : decode cX2_isFixed 1 = .ok (.iload_n 1, 1) := by decide +kernel
theorem dX2_isFixed_2 : decode cX2_isFixed 2 = .ok (.invokevirtual 76, 3) := by decide +kernel
theorem dX2_isFixed_5 : decode cX2_isFixed 5 = .ok (.ifCond .eq 17, 3) := by decide +kernel
theorem dX2_isFixed_8 : decode cX2_isFixed 8 = .ok (.aload_n 0, 1) := by decide +kernel
theorem dX2_isFixed_9 : decode cX2_isFixed 9 = .ok (.getfield 22, 3) := by decide +kernel
theorem dX2_isFixed_12 : decode cX2_isFixed 12 = .ok (.iload_n 1, 1) := by decide +kernel
theorem dX2_isFixed_13 : decode cX2_isFixed 13 = .ok (.iaload, 1) := by decide +kernel
theorem dX2_isFixed_14 : decode cX2_isFixed 14 = .ok (.iconst 1, 1) := by decide +kernel
theorem dX2_isFixed_15 : decode cX2_isFixed 15 = .ok (.if_icmp .ne 7, 3) := by decide +kernel
theorem dX2_isFixed_18 : decode cX2_isFixed 18 = .ok (.iconst 1, 1) := by decide +kernel
theorem dX2_isFixed_19 : decode cX2_isFixed 19 = .ok (.goto 4, 3) := by decide +kernel
theorem dX2_isFixed_22 : decode cX2_isFixed 22 = .ok (.iconst 0, 1) := by decide +kernel
theorem dX2_isFixed_23 : decode cX2_isFixed 23 = .ok (.ireturn, 1) := by decide +kernel
theorem dX2_borrows_0 : decode cX2_borrows 0 = .ok (.aload_n 0, 1) := by decide +kernel
theorem dX2_borrows_1 : decode cX2_borrows 1 = .ok (.iload_n 1, 1) := by decide +kernel
theorem dX2_borrows_2 : decode cX2_borrows 2 = .ok (.invokevirtual 80, 3) := by decide +kernel
theorem dX2_borrows_5 : decode cX2_borrows 5 = .ok (.istore_n 2, 1) := by decide +kernel
theorem dX2_borrows_6 : decode cX2_borrows 6 = .ok (.iload_n 2, 1) := by decide +kernel
theorem dX2_borrows_7 : decode cX2_borrows 7 = .ok (.bipush (-9), 2) := by decide +kernel
theorem dX2_borrows_9 : decode cX2_borrows 9 = .ok (.if_icmp .eq 20, 3) := by decide +kernel
theorem dX2_borrows_12 : decode cX2_borrows 12 = .ok (.aload_n 0, 1) := by decide +kernel
theorem dX2_borrows_13 : decode cX2_borrows 13 = .ok (.aload_n 0, 1) := by decide +kernel
theorem dX2_borrows_14 : decode cX2_borrows 14 = .ok (.iload_n 1, 1) := by decide +kernel
theorem dX2_borrows_15 : decode cX2_borrows 15 = .ok (.invokevirtual 84, 3) := by decide +kernel
theorem dX2_borrows_18 : decode cX2_borrows 18 = .ok (.iload_n 2, 1) := by decide +kernel
theorem dX2_borrows_19 : decode cX2_borrows 19 = .ok (.invokevirtual 87, 3) := by decide +kernel
theorem dX2_borrows_22 : decode cX2_borrows 22 = .ok (.ifCond .ne 7, 3) := by decide +kernel
theorem dX2_borrows_25 : decode cX2_borrows 25 = .ok (.iconst 1, 1) := by decide +kernel
theorem dX2_borrows_26 : decode cX2_borrows 26 = .ok (.goto 4, 3) := by decide +kernel
theorem dX2_borrows_29 : decode cX2_borrows 29 = .ok (.iconst 0, 1) := by decide +kernel
theorem dX2_borrows_30 : decode cX2_borrows 30 = .ok (.ireturn, 1) := by decide +kernel
theorem dX2_presentCalls_0 : decode cX2_presentCalls 0 = .ok (.iconst 0, 1) := by decide +kernel
theorem dX2_presentCalls_1 : decode cX2_presentCalls 1 = .ok (.istore_n 1, 1) := by decide +kernel
theorem dX2_presentCalls_2 : decode cX2_presentCalls 2 = .ok (.iconst 0, 1) := by decide +kernel
theorem dX2_presentCalls_3 : decode cX2_presentCalls 3 = .ok (.istore_n 2, 1) := by decide +kernel
theorem dX2_presentCalls_4 : decode cX2_presentCalls 4 = .ok (.iload_n 2, 1) := by decide +kernel
theorem dX2_presentCalls_5 : decode cX2_presentCalls 5 = .ok (.bipush 60, 2) := by decide +kernel
theorem dX2_presentCalls_7 : decode cX2_presentCalls 7 = .ok (.if_icmp .ge 20, 3) := by decide +kernel
theorem dX2_presentCalls_10 : decode cX2_presentCalls 10 = .ok (.aload_n 0, 1) := by decide +kernel
theorem dX2_presentCalls_11 : decode cX2_presentCalls 11 = .ok (.iload_n 2, 1) := by decide +kernel
theorem dX2_presentCalls_12 : decode cX2_presentCalls 12 = .ok (.invokevirtual 76, 3) := by decide +kernel
theorem dX2_presentCalls_15 : decode cX2_presentCalls 15 = .ok (.ifCond .eq 6, 3) := by decide +kernel
theorem dX2_presentCalls_18 : decode cX2_presentCalls 18 = .ok (.iinc 1 1, 3) := by decide +kernel
theorem dX2_presentCalls_21 : decode cX2_presentCalls 21 = .ok (.iinc 2 1, 3) := by decide +kernel
theorem dX2_presentCalls_24 : decode cX2_presentCalls 24 = .ok (.goto (-20), 3) := by decide +kernel
theorem dX2_presentCalls_27 : decode cX2_presentCalls 27 = .ok (.iload_n 1, 1) := by decide +kernel
theorem dX2_presentCalls_28 : decode cX2_presentCalls 28 = .ok (.ireturn, 1) := by decide +kernel
theorem dX2_lowestFreeNumber_0 : decode cX2_lowestFreeNumber 0 = .ok (.iconst 0, 1) := by decide +kernel
theorem dX2_lowestFreeNumber_1 : decode cX2_lowestFreeNumber 1 = .ok (.istore_n 1, 1) := by decide +kernel
theorem dX2_lowestFreeNumber_2 : decode cX2_lowestFreeNumber 2 = .ok (.iload_n 1, 1) := by decide +kernel
theorem dX2_lowestFreeNumber_3 : decode cX2_lowestFreeNumber 3 = .ok (.bipush 60, 2) := by decide +kernel
theorem dX2_lowestFreeNumber_5 : decode cX2_lowestFreeNumber 5 = .ok (.if_icmp .ge 19, 3) := by decide +kernel
theorem dX2_lowestFreeNumber_8 : decode cX2_lowestFreeNumber 8 = .ok (.aload_n 0, 1) := by decide +kernel
theorem dX2_lowestFreeNumber_9 : decode cX2_lowestFreeNumber 9 = .ok (.iload_n 1, 1) := by decide +kernel
theorem dX2_lowestFreeNumber_10 : decode cX2_lowestFreeNumber 10 = .ok (.invokevirtual 76, 3) := by decide +kernel
theorem dX2_lowestFreeNumber_13 : decode cX2_lowestFreeNumber 13 = .ok (.ifCond .ne 5, 3) := by decide +kernel
theorem dX2_lowestFreeNumber_16 : decode cX2_lowestFreeNumber 16 = .ok (.iload_n 1, 1) := by decide +kernel
theorem dX2_lowestFreeNumber_17 : decode cX2_lowestFreeNumber 17 = .ok (.ireturn, 1) := by decide +kernel
theorem dX2_lowestFreeNumber_18 : decode cX2_lowestFreeNumber 18 = .ok (.iinc 1 1, 3) := by decide +kernel
theorem dX2_lowestFreeNumber_21 : decode cX2_lowestFreeNumber 21 = .ok (.goto (-19), 3) := by decide +kernel
theorem dX2_lowestFreeNumber_24 : decode cX2_lowestFreeNumber 24 = .ok (.bipush (-9), 2) := by decide +kernel
theorem dX2_lowestFreeNumber_26 : decode cX2_lowestFreeNumber 26 = .ok (.ireturn, 1) := by decide +kernel
theorem dX2_startError_0 : decode cX2_startError 0 = .ok (.aload_n 0, 1) := by decide +kernel
theorem dX2_startError_1 : decode cX2_startError 1 = .ok (.getfield 32, 3) := by decide +kernel
theorem dX2_startError_4 : decode cX2_startError 4 = .ok (.iload_n 1, 1) := by decide +kernel
theorem dX2_startError_5 : decode cX2_startError 5 = .ok (.invokevirtual 91, 3) := by decide +kernel
theorem dX2_startError_8 : decode cX2_startError 8 = .ok (.ifCond .ne 5, 3) := by decide +kernel
theorem dX2_startError_11 : decode cX2_startError 11 = .ok (.iconst (-1), 1) := by decide +kernel
theorem dX2_startError_12 : decode cX2_startError 12 = .ok (.ireturn, 1) := by decide +kernel
theorem dX2_startError_13 : decode cX2_startError 13 = .ok (.aload_n 0, 1) := by decide +kernel
theorem dX2_startError_14 : decode cX2_startError 14 = .ok (.invokevirtual 96, 3) := by decide +kernel
theorem dX2_startError_17 : decode cX2_startError 17 = .ok (.bipush (-9), 2) := by decide +kernel
theorem dX2_startError_19 : decode cX2_startError 19 = .ok (.if_icmp .ne 8, 3) := by decide +kernel
theorem dX2_startError_22 : decode cX2_startError 22 = .ok (.bipush (-3), 2) := by decide +kernel
theorem dX2_startError_24 : decode cX2_startError 24 = .ok (.goto 4, 3) := by decide +kernel
theorem dX2_startError_27 : decode cX2_startError 27 = .ok (.iconst 0, 1) := by decide +kernel
theorem dX2_startError_28 : decode cX2_startError 28 = .ok (.ireturn, 1) := by decide +kernel
theorem dX2_start_0 : decode cX2_start 0 = .ok (.aload_n 0, 1) := by decide +kernel
theorem dX2_start_1 : decode cX2_start 1 = .ok (.iload_n 1, 1) := by decide +kernel
theorem dX2_start_2 : decode cX2_start 2 = .ok (.invokevirtual 100, 3) := by decide +kernel
theorem dX2_start_5 : decode cX2_start 5 = .ok (.istore_n 2, 1) := by decide +kernel
theorem dX2_start_6 : decode cX2_start 6 = .ok (.aload_n 0, 1) := by decide +kernel
theorem dX2_start_7 : decode cX2_start 7 = .ok (.iload_n 1, 1) := by decide +kernel
theorem dX2_start_8 : decode cX2_start 8 = .ok (.invokevirtual 103, 3) := by decide +kernel
theorem dX2_start_11 : decode cX2_start 11 = .ok (.istore_n 3, 1) := by decide +kernel
theorem dX2_start_12 : decode cX2_start 12 = .ok (.aload_n 0, 1) := by decide +kernel
theorem dX2_start_13 : decode cX2_start 13 = .ok (.dup, 1) := by decide +kernel
theorem dX2_start_14 : decode cX2_start 14 = .ok (.getfield 36, 3) := by decide +kernel
theorem dX2_start_17 : decode cX2_start 17 = .ok (.iconst 1, 1) := by decide +kernel
theorem dX2_start_18 : decode cX2_start 18 = .ok (.iadd, 1) := by decide +kernel
theorem dX2_start_19 : decode cX2_start 19 = .ok (.putfield 36, 3) := by decide +kernel
theorem dX2_start_22 : decode cX2_start 22 = .ok (.iload_n 2, 1) := by decide +kernel
theorem dX2_start_23 : decode cX2_start 23 = .ok (.bipush (-9), 2) := by decide +kernel
theorem dX2_start_25 : decode cX2_start 25 = .ok (.if_icmp .ne 13, 3) := by decide +kernel
theorem dX2_start_28 : decode cX2_start 28 = .ok (.aload_n 0, 1) := by decide +kernel
theorem dX2_start_29 : decode cX2_start 29 = .ok (.dup, 1) := by decide +kernel
theorem dX2_start_30 : decode cX2_start 30 = .ok (.getfield 40, 3) := by decide +kernel
theorem dX2_start_33 : decode cX2_start 33 = .ok (.iconst 1, 1) := by decide +kernel
theorem dX2_start_34 : decode cX2_start 34 = .ok (.iadd, 1) := by decide +kernel
theorem dX2_start_35 : decode cX2_start 35 = .ok (.putfield 40, 3) := by decide +kernel
theorem dX2_start_38 : decode cX2_start 38 = .ok (.iload_n 3, 1) := by decide +kernel
theorem dX2_start_39 : decode cX2_start 39 = .ok (.ifCond .ne 13, 3) := by decide +kernel
theorem dX2_start_42 : decode cX2_start 42 = .ok (.aload_n 0, 1) := by decide +kernel
theorem dX2_start_43 : decode cX2_start 43 = .ok (.dup, 1) := by decide +kernel
theorem dX2_start_44 : decode cX2_start 44 = .ok (.getfield 43, 3) := by decide +kernel
theorem dX2_start_47 : decode cX2_start 47 = .ok (.iconst 1, 1) := by decide +kernel
theorem dX2_start_48 : decode cX2_start 48 = .ok (.iadd, 1) := by decide +kernel
theorem dX2_start_49 : decode cX2_start 49 = .ok (.putfield 43, 3) := by decide +kernel
theorem dX2_start_52 : decode cX2_start 52 = .ok (.aload_n 0, 1) := by decide +kernel
theorem dX2_start_53 : decode cX2_start 53 = .ok (.invokevirtual 96, 3) := by decide +kernel
theorem dX2_start_56 : decode cX2_start 56 = .ok (.istore 4, 2) := by decide +kernel
theorem dX2_start_58 : decode cX2_start 58 = .ok (.iload 4, 2) := by decide +kernel
theorem dX2_start_60 : decode cX2_start 60 = .ok (.bipush (-9), 2) := by decide +kernel
theorem dX2_start_62 : decode cX2_start 62 = .ok (.if_icmp .eq 13, 3) := by decide +kernel
theorem dX2_start_65 : decode cX2_start 65 = .ok (.iload_n 2, 1) := by decide +kernel
theorem dX2_start_66 : decode cX2_start 66 = .ok (.bipush (-9), 2) := by decide +kernel
theorem dX2_start_68 : decode cX2_start 68 = .ok (.if_icmp .ne 10, 3) := by decide +kernel
theorem dX2_start_71 : decode cX2_start 71 = .ok (.iload_n 3, 1) := by decide +kernel
theorem dX2_start_72 : decode cX2_start 72 = .ok (.ifCond .ne 6, 3) := by decide +kernel
theorem dX2_start_75 : decode cX2_start 75 = .ok (.bipush (-9), 2) := by decide +kernel
theorem dX2_start_77 : decode cX2_start 77 = .ok (.ireturn, 1) := by decide +kernel
theorem dX2_start_78 : decode cX2_start 78 = .ok (.aload_n 0, 1) := by decide +kernel
theorem dX2_start_79 : decode cX2_start 79 = .ok (.getfield 22, 3) := by decide +kernel
theorem dX2_start_82 : decode cX2_start 82 = .ok (.iload 4, 2) := by decide +kernel
theorem dX2_start_84 : decode cX2_start 84 = .ok (.iload_n 3, 1) := by decide +kernel
theorem dX2_start_85 : decode cX2_start 85 = .ok (.invokestatic 106, 3) := by decide +kernel
theorem dX2_start_88 : decode cX2_start 88 = .ok (.iastore, 1) := by decide +kernel
theorem dX2_start_89 : decode cX2_start 89 = .ok (.aload_n 0, 1) := by decide +kernel
theorem dX2_start_90 : decode cX2_start 90 = .ok (.iload 4, 2) := by decide +kernel
theorem dX2_start_92 : decode cX2_start 92 = .ok (.iload_n 1, 1) := by decide +kernel
theorem dX2_start_93 : decode cX2_start 93 = .ok (.iload_n 2, 1) := by decide +kernel
theorem dX2_start_94 : decode cX2_start 94 = .ok (.invokevirtual 110, 3) := by decide +kernel
theorem dX2_start_97 : decode cX2_start 97 = .ok (.iload 4, 2) := by decide +kernel
theorem dX2_start_99 : decode cX2_start 99 = .ok (.ireturn, 1) := by decide +kernel
theorem dX2_end_0 : decode cX2_end 0 = .ok (.aload_n 0, 1) := by decide +kernel
theorem dX2_end_1 : decode cX2_end 1 = .ok (.iload_n 1, 1) := by decide +kernel
theorem dX2_end_2 : decode cX2_end 2 = .ok (.invokevirtual 80, 3) := by decide +kernel
theorem dX2_end_5 : decode cX2_end 5 = .ok (.istore_n 2, 1) := by decide +kernel
theorem dX2_end_6 : decode cX2_end 6 = .ok (.aload_n 0, 1) := by decide +kernel
theorem dX2_end_7 : decode cX2_end 7 = .ok (.iload_n 1, 1) := by decide +kernel
theorem dX2_end_8 : decode cX2_end 8 = .ok (.invokevirtual 114, 3) := by decide +kernel
theorem dX2_end_11 : decode cX2_end 11 = .ok (.aload_n 0, 1) := by decide +kernel
theorem dX2_end_12 : decode cX2_end 12 = .ok (.iload_n 1, 1) := by decide +kernel
theorem dX2_end_13 : decode cX2_end 13 = .ok (.invokevirtual 76, 3) := by decide +kernel
theorem dX2_end_16 : decode cX2_end 16 = .ok (.ifCond .eq 10, 3) := by decide +kernel
theorem dX2_end_19 : decode cX2_end 19 = .ok (.aload_n 0, 1) := by decide +kernel
theorem dX2_end_20 : decode cX2_end 20 = .ok (.getfield 22, 3) := by decide +kernel
theorem dX2_end_23 : decode cX2_end 23 = .ok (.iload_n 1, 1) := by decide +kernel
theorem dX2_end_24 : decode cX2_end 24 = .ok (.iconst 0, 1) := by decide +kernel
theorem dX2_end_25 : decode cX2_end 25 = .ok (.iastore, 1) := by decide +kernel
theorem dX2_end_26 : decode cX2_end 26 = .ok (.aload_n 0, 1) := by decide +kernel
theorem dX2_end_27 : decode cX2_end 27 = .ok (.invokevirtual 118, 3) := by decide +kernel
theorem dX2_end_30 : decode cX2_end 30 = .ok (.pop, 1) := by decide +kernel
theorem dX2_end_31 : decode cX2_end 31 = .ok (.iload_n 2, 1) := by decide +kernel
theorem dX2_end_32 : decode cX2_end 32 = .ok (.ireturn, 1) := by decide +kernel
theorem dX2_moveError_0 : decode cX2_moveError 0 = .ok (.aload_n 0, 1) := by decide +kernel
theorem dX2_moveError_1 : decode cX2_moveError 1 = .ok (.iload_n 1, 1) := by decide +kernel
theorem dX2_moveError_2 : decode cX2_moveError 2 = .ok (.invokevirtual 76, 3) := by decide +kernel
theorem dX2_moveError_5 : decode cX2_moveError 5 = .ok (.ifCond .ne 6, 3) := by decide +kernel
theorem dX2_moveError_8 : decode cX2_moveError 8 = .ok (.bipush (-4), 2) := by decide +kernel
theorem dX2_moveError_10 : decode cX2_moveError 10 = .ok (.ireturn, 1) := by decide +kernel
theorem dX2_moveError_11 : decode cX2_moveError 11 = .ok (.aload_n 0, 1) := by decide +kernel
theorem dX2_moveError_12 : decode cX2_moveError 12 = .ok (.getfield 32, 3) := by decide +kernel
theorem dX2_moveError_15 : decode cX2_moveError 15 = .ok (.iload_n 2, 1) := by decide +kernel
theorem dX2_moveError_16 : decode cX2_moveError 16 = .ok (.invokevirtual 91, 3) := by decide +kernel
theorem dX2_moveError_19 : decode cX2_moveError 19 = .ok (.ifCond .eq 25, 3) := by decide +kernel
theorem dX2_moveError_22 : decode cX2_moveError 22 = .ok (.aload_n 0, 1) := by decide +kernel
theorem dX2_moveError_23 : decode cX2_moveError 23 = .ok (.getfield 32, 3) := by decide +kernel
theorem dX2_moveError_26 : decode cX2_moveError 26 = .ok (.aload_n 0, 1) := by decide +kernel
theorem dX2_moveError_27 : decode cX2_moveError 27 = .ok (.getfield 15, 3) := by decide +kernel
theorem dX2_moveError_30 : decode cX2_moveError 30 = .ok (.iload_n 1, 1) := by decide +kernel
theorem dX2_moveError_31 : decode cX2_moveError 31 = .ok (.iaload, 1) := by decide +kernel
theorem dX2_moveError_32 : decode cX2_moveError 32 = .ok (.iload_n 2, 1) := by decide +kernel
theorem dX2_moveError_33 : decode cX2_moveError 33 = .ok (.invokevirtual 121, 3) := by decide +kernel
theorem dX2_moveError_36 : decode cX2_moveError 36 = .ok (.iconst 1, 1) := by decide +kernel
theorem dX2_moveError_37 : decode cX2_moveError 37 = .ok (.if_icmp .ne 7, 3) := by decide +kernel
theorem dX2_moveError_40 : decode cX2_moveError 40 = .ok (.iconst 1, 1) := by decide +kernel
theorem dX2_moveError_41 : decode cX2_moveError 41 = .ok (.goto 4, 3) := by decide +kernel
theorem dX2_moveError_44 : decode cX2_moveError 44 = .ok (.iconst 0, 1) := by decide +kernel
theorem dX2_moveError_45 : decode cX2_moveError 45 = .ok (.istore_n 3, 1) := by decide +kernel
theorem dX2_moveError_46 : decode cX2_moveError 46 = .ok (.iload_n 3, 1) := by decide +kernel
theorem dX2_moveError_47 : decode cX2_moveError 47 = .ok (.ifCond .eq 7, 3) := by decide +kernel
theorem dX2_moveError_50 : decode cX2_moveError 50 = .ok (.iconst 0, 1) := by decide +kernel
theorem dX2_moveError_51 : decode cX2_moveError 51 = .ok (.goto 4, 3) := by decide +kernel
theorem dX2_moveError_54 : decode cX2_moveError 54 = .ok (.iconst (-1), 1) := by decide +kernel
theorem dX2_moveError_55 : decode cX2_moveError 55 = .ok (.ireturn, 1) := by decide +kernel
theorem dX2_move_0 : decode cX2_move 0 = .ok (.aload_n 0, 1) := by decide +kernel
theorem dX2_move_1 : decode cX2_move 1 = .ok (.iload_n 1, 1) := by decide +kernel
theorem dX2_move_2 : decode cX2_move 2 = .ok (.invokevirtual 76, 3) := by decide +kernel
theorem dX2_move_5 : decode cX2_move 5 = .ok (.ifCond .ne 6, 3) := by decide +kernel
theorem dX2_move_8 : decode cX2_move 8 = .ok (.bipush (-9), 2) := by decide +kernel
theorem dX2_move_10 : decode cX2_move 10 = .ok (.ireturn, 1) := by decide +kernel
theorem dX2_move_11 : decode cX2_move 11 = .ok (.aload_n 0, 1) := by decide +kernel
theorem dX2_move_12 : decode cX2_move 12 = .ok (.getfield 22, 3) := by decide +kernel
theorem dX2_move_15 : decode cX2_move 15 = .ok (.iload_n 1, 1) := by decide +kernel
theorem dX2_move_16 : decode cX2_move 16 = .ok (.iaload, 1) := by decide +kernel
theorem dX2_move_17 : decode cX2_move 17 = .ok (.iconst 1, 1) := by decide +kernel
theorem dX2_move_18 : decode cX2_move 18 = .ok (.if_icmp .ne 28, 3) := by decide +kernel
theorem dX2_move_21 : decode cX2_move 21 = .ok (.aload_n 0, 1) := by decide +kernel
theorem dX2_move_22 : decode cX2_move 22 = .ok (.iload_n 2, 1) := by decide +kernel
theorem dX2_move_23 : decode cX2_move 23 = .ok (.invokevirtual 103, 3) := by decide +kernel
theorem dX2_move_26 : decode cX2_move 26 = .ok (.ifCond .ne 20, 3) := by decide +kernel
theorem dX2_move_29 : decode cX2_move 29 = .ok (.aload_n 0, 1) := by decide +kernel
theorem dX2_move_30 : decode cX2_move 30 = .ok (.getfield 22, 3) := by decide +kernel
theorem dX2_move_33 : decode cX2_move 33 = .ok (.iload_n 1, 1) := by decide +kernel
theorem dX2_move_34 : decode cX2_move 34 = .ok (.iconst 0, 1) := by decide +kernel
theorem dX2_move_35 : decode cX2_move 35 = .ok (.iastore, 1) := by decide +kernel
theorem dX2_move_36 : decode cX2_move 36 = .ok (.aload_n 0, 1) := by decide +kernel
theorem dX2_move_37 : decode cX2_move 37 = .ok (.dup, 1) := by decide +kernel
theorem dX2_move_38 : decode cX2_move 38 = .ok (.getfield 49, 3) := by decide +kernel
theorem dX2_move_41 : decode cX2_move 41 = .ok (.iconst 1, 1) := by decide +kernel
theorem dX2_move_42 : decode cX2_move 42 = .ok (.iadd, 1) := by decide +kernel
theorem dX2_move_43 : decode cX2_move 43 = .ok (.putfield 49, 3) := by decide +kernel
theorem dX2_move_46 : decode cX2_move 46 = .ok (.bipush (-9), 2) := by decide +kernel
theorem dX2_move_48 : decode cX2_move 48 = .ok (.istore_n 3, 1) := by decide +kernel
theorem dX2_move_49 : decode cX2_move 49 = .ok (.aload_n 0, 1) := by decide +kernel
theorem dX2_move_50 : decode cX2_move 50 = .ok (.getfield 19, 3) := by decide +kernel
theorem dX2_move_53 : decode cX2_move 53 = .ok (.iload_n 1, 1) := by decide +kernel
theorem dX2_move_54 : decode cX2_move 54 = .ok (.iaload, 1) := by decide +kernel
theorem dX2_move_55 : decode cX2_move 55 = .ok (.bipush (-9), 2) := by decide +kernel
theorem dX2_move_57 : decode cX2_move 57 = .ok (.if_icmp .eq 30, 3) := by decide +kernel
theorem dX2_move_60 : decode cX2_move 60 = .ok (.aload_n 0, 1) := by decide +kernel
theorem dX2_move_61 : decode cX2_move 61 = .ok (.iload_n 2, 1) := by decide +kernel
theorem dX2_move_62 : decode cX2_move 62 = .ok (.invokevirtual 100, 3) := by decide +kernel
theorem dX2_move_65 : decode cX2_move 65 = .ok (.istore_n 3, 1) := by decide +kernel
theorem dX2_move_66 : decode cX2_move 66 = .ok (.aload_n 0, 1) := by decide +kernel
theorem dX2_move_67 : decode cX2_move 67 = .ok (.iload_n 1, 1) := by decide +kernel
theorem dX2_move_68 : decode cX2_move 68 = .ok (.invokevirtual 114, 3) := by decide +kernel
theorem dX2_move_71 : decode cX2_move 71 = .ok (.iload_n 3, 1) := by decide +kernel
theorem dX2_move_72 : decode cX2_move 72 = .ok (.bipush (-9), 2) := by decide +kernel
theorem dX2_move_74 : decode cX2_move 74 = .ok (.if_icmp .ne 13, 3) := by decide +kernel
theorem dX2_move_77 : decode cX2_move 77 = .ok (.aload_n 0, 1) := by decide +kernel
theorem dX2_move_78 : decode cX2_move 78 = .ok (.dup, 1) := by decide +kernel
theorem dX2_move_79 : decode cX2_move 79 = .ok (.getfield 46, 3) := by decide +kernel
theorem dX2_move_82 : decode cX2_move 82 = .ok (.iconst 1, 1) := by decide +kernel
theorem dX2_move_83 : decode cX2_move 83 = .ok (.iadd, 1) := by decide +kernel
theorem dX2_move_84 : decode cX2_move 84 = .ok (.putfield 46, 3) := by decide +kernel
theorem dX2_move_87 : decode cX2_move 87 = .ok (.aload_n 0, 1) := by decide +kernel
theorem dX2_move_88 : decode cX2_move 88 = .ok (.iload_n 1, 1) := by decide +kernel
theorem dX2_move_89 : decode cX2_move 89 = .ok (.iload_n 2, 1) := by decide +kernel
theorem dX2_move_90 : decode cX2_move 90 = .ok (.iload_n 3, 1) := by decide +kernel
theorem dX2_move_91 : decode cX2_move 91 = .ok (.invokevirtual 110, 3) := by decide +kernel
theorem dX2_move_94 : decode cX2_move 94 = .ok (.aload_n 0, 1) := by decide +kernel
theorem dX2_move_95 : decode cX2_move 95 = .ok (.invokevirtual 118, 3) := by decide +kernel
theorem dX2_move_98 : decode cX2_move 98 = .ok (.pop, 1) := by decide +kernel
theorem dX2_move_99 : decode cX2_move 99 = .ok (.iload_n 3, 1) := by decide +kernel
theorem dX2_move_100 : decode cX2_move 100 = .ok (.ireturn, 1) := by decide +kernel
theorem dX2_place_0 : decode cX2_place 0 = .ok (.iload_n 1, 1) := by decide +kernel
theorem dX2_place_1 : decode cX2_place 1 = .ok (.iconst 0, 1) := by decide +kernel
theorem dX2_place_2 : decode cX2_place 2 = .ok (.bipush 59, 2) := by decide +kernel
theorem dX2_place_4 : decode cX2_place 4 = .ok (.invokestatic 125, 3) := by decide +kernel
theorem dX2_place_7 : decode cX2_place 7 = .ok (.ifCond .eq 34, 3) := by decide +kernel
theorem dX2_place_10 : decode cX2_place 10 = .ok (.aload_n 0, 1) := by decide +kernel
theorem dX2_place_11 : decode cX2_place 11 = .ok (.getfield 15, 3) := by decide +kernel
theorem dX2_place_14 : decode cX2_place 14 = .ok (.iload_n 1, 1) := by decide +kernel
theorem dX2_place_15 : decode cX2_place 15 = .ok (.iload_n 2, 1) := by decide +kernel
theorem dX2_place_16 : decode cX2_place 16 = .ok (.iastore, 1) := by decide +kernel
theorem dX2_place_17 : decode cX2_place 17 = .ok (.aload_n 0, 1) := by decide +kernel
theorem dX2_place_18 : decode cX2_place 18 = .ok (.iload_n 1, 1) := by decide +kernel
theorem dX2_place_19 : decode cX2_place 19 = .ok (.iload_n 3, 1) := by decide +kernel
theorem dX2_place_20 : decode cX2_place 20 = .ok (.invokevirtual 129, 3) := by decide +kernel
theorem dX2_place_23 : decode cX2_place 23 = .ok (.aload_n 0, 1) := by decide +kernel
theorem dX2_place_24 : decode cX2_place 24 = .ok (.iload_n 1, 1) := by decide +kernel
theorem dX2_place_25 : decode cX2_place 25 = .ok (.invokevirtual 133, 3) := by decide +kernel
theorem dX2_place_28 : decode cX2_place 28 = .ok (.ifCond .eq 13, 3) := by decide +kernel
theorem dX2_place_31 : decode cX2_place 31 = .ok (.aload_n 0, 1) := by decide +kernel
theorem dX2_place_32 : decode cX2_place 32 = .ok (.dup, 1) := by decide +kernel
theorem dX2_place_33 : decode cX2_place 33 = .ok (.getfield 52, 3) := by decide +kernel
theorem dX2_place_36 : decode cX2_place 36 = .ok (.iconst 1, 1) := by decide +kernel
theorem dX2_place_37 : decode cX2_place 37 = .ok (.iadd, 1) := by decide +kernel
theorem dX2_place_38 : decode cX2_place 38 = .ok (.putfield 52, 3) := by decide +kernel
theorem dX2_place_41 : decode cX2_place 41 = .ok (.return_, 1) := by decide +kernel
theorem dX2_occupy_0 : decode cX2_occupy 0 = .ok (.iload_n 1, 1) := by decide +kernel
theorem dX2_occupy_1 : decode cX2_occupy 1 = .ok (.iconst 0, 1) := by decide +kernel
theorem dX2_occupy_2 : decode cX2_occupy 2 = .ok (.bipush 59, 2) := by decide +kernel
theorem dX2_occupy_4 : decode cX2_occupy 4 = .ok (.invokestatic 125, 3) := by decide +kernel
theorem dX2_occupy_7 : decode cX2_occupy 7 = .ok (.ifCond .eq 12, 3) := by decide +kernel
theorem dX2_occupy_10 : decode cX2_occupy 10 = .ok (.aload_n 0, 1) := by decide +kernel
theorem dX2_occupy_11 : decode cX2_occupy 11 = .ok (.getfield 15, 3) := by decide +kernel
theorem dX2_occupy_14 : decode cX2_occupy 14 = .ok (.iload_n 1, 1) := by decide +kernel
theorem dX2_occupy_15 : decode cX2_occupy 15 = .ok (.iaload, 1) := by decide +kernel
theorem dX2_occupy_16 : decode cX2_occupy 16 = .ok (.goto 5, 3) := by decide +kernel
theorem dX2_occupy_19 : decode cX2_occupy 19 = .ok (.bipush (-9), 2) := by decide +kernel
theorem dX2_occupy_21 : decode cX2_occupy 21 = .ok (.istore_n 3, 1) := by decide +kernel
theorem dX2_occupy_22 : decode cX2_occupy 22 = .ok (.iload_n 2, 1) := by decide +kernel
theorem dX2_occupy_23 : decode cX2_occupy 23 = .ok (.bipush (-9), 2) := by decide +kernel
theorem dX2_occupy_25 : decode cX2_occupy 25 = .ok (.if_icmp .eq 33, 3) := by decide +kernel
theorem dX2_occupy_28 : decode cX2_occupy 28 = .ok (.aload_n 0, 1) := by decide +kernel
theorem dX2_occupy_29 : decode cX2_occupy 29 = .ok (.getfield 32, 3) := by decide +kernel
theorem dX2_occupy_32 : decode cX2_occupy 32 = .ok (.iload_n 3, 1) := by decide +kernel
theorem dX2_occupy_33 : decode cX2_occupy 33 = .ok (.invokevirtual 91, 3) := by decide +kernel
theorem dX2_occupy_36 : decode cX2_occupy 36 = .ok (.ifCond .eq 22, 3) := by decide +kernel
theorem dX2_occupy_39 : decode cX2_occupy 39 = .ok (.aload_n 0, 1) := by decide +kernel
theorem dX2_occupy_40 : decode cX2_occupy 40 = .ok (.getfield 19, 3) := by decide +kernel
theorem dX2_occupy_43 : decode cX2_occupy 43 = .ok (.iload_n 1, 1) := by decide +kernel
theorem dX2_occupy_44 : decode cX2_occupy 44 = .ok (.iload_n 2, 1) := by decide +kernel
theorem dX2_occupy_45 : decode cX2_occupy 45 = .ok (.iastore, 1) := by decide +kernel
theorem dX2_occupy_46 : decode cX2_occupy 46 = .ok (.aload_n 0, 1) := by decide +kernel
theorem dX2_occupy_47 : decode cX2_occupy 47 = .ok (.getfield 25, 3) := by decide +kernel
theorem dX2_occupy_50 : decode cX2_occupy 50 = .ok (.iload_n 3, 1) := by decide +kernel
theorem dX2_occupy_51 : decode cX2_occupy 51 = .ok (.dup2, 1) := by decide +kernel
theorem dX2_occupy_52 : decode cX2_occupy 52 = .ok (.iaload, 1) := by decide +kernel
theorem dX2_occupy_53 : decode cX2_occupy 53 = .ok (.iconst 1, 1) := by decide +kernel
theorem dX2_occupy_54 : decode cX2_occupy 54 = .ok (.iload_n 2, 1) := by decide +kernel
theorem dX2_occupy_55 : decode cX2_occupy 55 = .ok (.ishl, 1) := by decide +kernel
theorem dX2_occupy_56 : decode cX2_occupy 56 = .ok (.ior, 1) := by decide +kernel
theorem dX2_occupy_57 : decode cX2_occupy 57 = .ok (.iastore, 1) := by decide +kernel
theorem dX2_occupy_58 : decode cX2_occupy 58 = .ok (.return_, 1) := by decide +kernel
theorem dX2_release_0 : decode cX2_release 0 = .ok (.aload_n 0, 1) := by decide +kernel
theorem dX2_release_1 : decode cX2_release 1 = .ok (.iload_n 1, 1) := by decide +kernel
theorem dX2_release_2 : decode cX2_release 2 = .ok (.invokevirtual 80, 3) := by decide +kernel
theorem dX2_release_5 : decode cX2_release 5 = .ok (.istore_n 2, 1) := by decide +kernel
theorem dX2_release_6 : decode cX2_release 6 = .ok (.aload_n 0, 1) := by decide +kernel
theorem dX2_release_7 : decode cX2_release 7 = .ok (.iload_n 1, 1) := by decide +kernel
theorem dX2_release_8 : decode cX2_release 8 = .ok (.invokevirtual 84, 3) := by decide +kernel
theorem dX2_release_11 : decode cX2_release 11 = .ok (.istore_n 3, 1) := by decide +kernel
theorem dX2_release_12 : decode cX2_release 12 = .ok (.iload_n 2, 1) := by decide +kernel
theorem dX2_release_13 : decode cX2_release 13 = .ok (.bipush (-9), 2) := by decide +kernel
theorem dX2_release_15 : decode cX2_release 15 = .ok (.if_icmp .eq 36, 3) := by decide +kernel
theorem dX2_release_18 : decode cX2_release 18 = .ok (.aload_n 0, 1) := by decide +kernel
theorem dX2_release_19 : decode cX2_release 19 = .ok (.getfield 32, 3) := by decide +kernel
theorem dX2_release_22 : decode cX2_release 22 = .ok (.iload_n 3, 1) := by decide +kernel
theorem dX2_release_23 : decode cX2_release 23 = .ok (.invokevirtual 91, 3) := by decide +kernel
theorem dX2_release_26 : decode cX2_release 26 = .ok (.ifCond .eq 25, 3) := by decide +kernel
theorem dX2_release_29 : decode cX2_release 29 = .ok (.aload_n 0, 1) := by decide +kernel
theorem dX2_release_30 : decode cX2_release 30 = .ok (.getfield 25, 3) := by decide +kernel
theorem dX2_release_33 : decode cX2_release 33 = .ok (.iload_n 3, 1) := by decide +kernel
theorem dX2_release_34 : decode cX2_release 34 = .ok (.dup2, 1) := by decide +kernel
theorem dX2_release_35 : decode cX2_release 35 = .ok (.iaload, 1) := by decide +kernel
theorem dX2_release_36 : decode cX2_release 36 = .ok (.iconst 1, 1) := by decide +kernel
theorem dX2_release_37 : decode cX2_release 37 = .ok (.iload_n 2, 1) := by decide +kernel
theorem dX2_release_38 : decode cX2_release 38 = .ok (.ishl, 1) := by decide +kernel
theorem dX2_release_39 : decode cX2_release 39 = .ok (.iconst (-1), 1) := by decide +kernel
theorem dX2_release_40 : decode cX2_release 40 = .ok (.ixor, 1) := by decide +kernel
theorem dX2_release_41 : decode cX2_release 41 = .ok (.iand, 1) := by decide +kernel
theorem dX2_release_42 : decode cX2_release 42 = .ok (.iastore, 1) := by decide +kernel
theorem dX2_release_43 : decode cX2_release 43 = .ok (.aload_n 0, 1) := by decide +kernel
theorem dX2_release_44 : decode cX2_release 44 = .ok (.getfield 19, 3) := by decide +kernel
theorem dX2_release_47 : decode cX2_release 47 = .ok (.iload_n 1, 1) := by decide +kernel
theorem dX2_release_48 : decode cX2_release 48 = .ok (.bipush (-9), 2) := by decide +kernel
theorem dX2_release_50 : decode cX2_release 50 = .ok (.iastore, 1) := by decide +kernel
theorem dX2_release_51 : decode cX2_release 51 = .ok (.return_, 1) := by decide +kernel
theorem dX2_fixedAccepts_0 : decode cX2_fixedAccepts 0 = .ok (.iconst 0, 1) := by decide +kernel
theorem dX2_fixedAccepts_1 : decode cX2_fixedAccepts 1 = .ok (.istore_n 2, 1) := by decide +kernel
theorem dX2_fixedAccepts_2 : decode cX2_fixedAccepts 2 = .ok (.iconst 0, 1) := by decide +kernel
theorem dX2_fixedAccepts_3 : decode cX2_fixedAccepts 3 = .ok (.istore_n 3, 1) := by decide +kernel
theorem dX2_fixedAccepts_4 : decode cX2_fixedAccepts 4 = .ok (.iload_n 3, 1) := by decide +kernel
theorem dX2_fixedAccepts_5 : decode cX2_fixedAccepts 5 = .ok (.bipush 60, 2) := by decide +kernel
theorem dX2_fixedAccepts_7 : decode cX2_fixedAccepts 7 = .ok (.if_icmp .ge 32, 3) := by decide +kernel
theorem dX2_fixedAccepts_10 : decode cX2_fixedAccepts 10 = .ok (.aload_n 0, 1) := by decide +kernel
theorem dX2_fixedAccepts_11 : decode cX2_fixedAccepts 11 = .ok (.getfield 22, 3) := by decide +kernel
theorem dX2_fixedAccepts_14 : decode cX2_fixedAccepts 14 = .ok (.iload_n 3, 1) := by decide +kernel
theorem dX2_fixedAccepts_15 : decode cX2_fixedAccepts 15 = .ok (.iaload, 1) := by decide +kernel
theorem dX2_fixedAccepts_16 : decode cX2_fixedAccepts 16 = .ok (.iconst 1, 1) := by decide +kernel
theorem dX2_fixedAccepts_17 : decode cX2_fixedAccepts 17 = .ok (.if_icmp .ne 16, 3) := by decide +kernel
theorem dX2_fixedAccepts_20 : decode cX2_fixedAccepts 20 = .ok (.aload_n 0, 1) := by decide +kernel
theorem dX2_fixedAccepts_21 : decode cX2_fixedAccepts 21 = .ok (.getfield 15, 3) := by decide +kernel
theorem dX2_fixedAccepts_24 : decode cX2_fixedAccepts 24 = .ok (.iload_n 3, 1) := by decide +kernel
theorem dX2_fixedAccepts_25 : decode cX2_fixedAccepts 25 = .ok (.iaload, 1) := by decide +kernel
theorem dX2_fixedAccepts_26 : decode cX2_fixedAccepts 26 = .ok (.iload_n 1, 1) := by decide +kernel
theorem dX2_fixedAccepts_27 : decode cX2_fixedAccepts 27 = .ok (.if_icmp .ne 6, 3) := by decide +kernel
theorem dX2_fixedAccepts_30 : decode cX2_fixedAccepts 30 = .ok (.iinc 2 1, 3) := by decide +kernel
theorem dX2_fixedAccepts_33 : decode cX2_fixedAccepts 33 = .ok (.iinc 3 1, 3) := by decide +kernel
theorem dX2_fixedAccepts_36 : decode cX2_fixedAccepts 36 = .ok (.goto (-32), 3) := by decide +kernel
theorem dX2_fixedAccepts_39 : decode cX2_fixedAccepts 39 = .ok (.iload_n 2, 1) := by decide +kernel
theorem dX2_fixedAccepts_40 : decode cX2_fixedAccepts 40 = .ok (.aload_n 0, 1) := by decide +kernel
theorem dX2_fixedAccepts_41 : decode cX2_fixedAccepts 41 = .ok (.getfield 32, 3) := by decide +kernel
theorem dX2_fixedAccepts_44 : decode cX2_fixedAccepts 44 = .ok (.getfield 136, 3) := by decide +kernel
theorem dX2_fixedAccepts_47 : decode cX2_fixedAccepts 47 = .ok (.if_icmp .ge 7, 3) := by decide +kernel
theorem dX2_fixedAccepts_50 : decode cX2_fixedAccepts 50 = .ok (.iconst 1, 1) := by decide +kernel
theorem dX2_fixedAccepts_51 : decode cX2_fixedAccepts 51 = .ok (.goto 4, 3) := by decide +kernel
theorem dX2_fixedAccepts_54 : decode cX2_fixedAccepts 54 = .ok (.iconst 0, 1) := by decide +kernel
theorem dX2_fixedAccepts_55 : decode cX2_fixedAccepts 55 = .ok (.ireturn, 1) := by decide +kernel
theorem dX2_returnCalls_0 : decode cX2_returnCalls 0 = .ok (.aload_n 0, 1) := by decide +kernel
theorem dX2_returnCalls_1 : decode cX2_returnCalls 1 = .ok (.getfield 9, 3) := by decide +kernel
theorem dX2_returnCalls_4 : decode cX2_returnCalls 4 = .ok (.ifCond .ne 5, 3) := by decide +kernel
theorem dX2_returnCalls_7 : decode cX2_returnCalls 7 = .ok (.iconst 0, 1) := by decide +kernel
theorem dX2_returnCalls_8 : decode cX2_returnCalls 8 = .ok (.ireturn, 1) := by decide +kernel
theorem dX2_returnCalls_9 : decode cX2_returnCalls 9 = .ok (.iconst 0, 1) := by decide +kernel
theorem dX2_returnCalls_10 : decode cX2_returnCalls 10 = .ok (.istore_n 1, 1) := by decide +kernel
theorem dX2_returnCalls_11 : decode cX2_returnCalls 11 = .ok (.iconst 0, 1) := by decide +kernel
theorem dX2_returnCalls_12 : decode cX2_returnCalls 12 = .ok (.istore_n 2, 1) := by decide +kernel
theorem dX2_returnCalls_13 : decode cX2_returnCalls 13 = .ok (.iload_n 2, 1) := by decide +kernel
theorem dX2_returnCalls_14 : decode cX2_returnCalls 14 = .ok (.bipush 60, 2) := by decide +kernel
theorem dX2_returnCalls_16 : decode cX2_returnCalls 16 = .ok (.if_icmp .ge 53, 3) := by decide +kernel
theorem dX2_returnCalls_19 : decode cX2_returnCalls 19 = .ok (.aload_n 0, 1) := by decide +kernel
theorem dX2_returnCalls_20 : decode cX2_returnCalls 20 = .ok (.invokevirtual 139, 3) := by decide +kernel
theorem dX2_returnCalls_23 : decode cX2_returnCalls 23 = .ok (.istore_n 3, 1) := by decide +kernel
theorem dX2_returnCalls_24 : decode cX2_returnCalls 24 = .ok (.iload_n 3, 1) := by decide +kernel
theorem dX2_returnCalls_25 : decode cX2_returnCalls 25 = .ok (.bipush (-9), 2) := by decide +kernel
theorem dX2_returnCalls_27 : decode cX2_returnCalls 27 = .ok (.if_icmp .ne 6, 3) := by decide +kernel
theorem dX2_returnCalls_30 : decode cX2_returnCalls 30 = .ok (.goto 39, 3) := by decide +kernel
theorem dX2_returnCalls_33 : decode cX2_returnCalls 33 = .ok (.aload_n 0, 1) := by decide +kernel
theorem dX2_returnCalls_34 : decode cX2_returnCalls 34 = .ok (.aload_n 0, 1) := by decide +kernel
theorem dX2_returnCalls_35 : decode cX2_returnCalls 35 = .ok (.aload_n 0, 1) := by decide +kernel
theorem dX2_returnCalls_36 : decode cX2_returnCalls 36 = .ok (.iload_n 3, 1) := by decide +kernel
theorem dX2_returnCalls_37 : decode cX2_returnCalls 37 = .ok (.invokevirtual 84, 3) := by decide +kernel
theorem dX2_returnCalls_40 : decode cX2_returnCalls 40 = .ok (.invokevirtual 142, 3) := by decide +kernel
theorem dX2_returnCalls_43 : decode cX2_returnCalls 43 = .ok (.invokevirtual 145, 3) := by decide +kernel
theorem dX2_returnCalls_46 : decode cX2_returnCalls 46 = .ok (.istore 4, 2) := by decide +kernel
theorem dX2_returnCalls_48 : decode cX2_returnCalls 48 = .ok (.aload_n 0, 1) := by decide +kernel
theorem dX2_returnCalls_49 : decode cX2_returnCalls 49 = .ok (.iload_n 3, 1) := by decide +kernel
theorem dX2_returnCalls_50 : decode cX2_returnCalls 50 = .ok (.invokevirtual 114, 3) := by decide +kernel
theorem dX2_returnCalls_53 : decode cX2_returnCalls 53 = .ok (.aload_n 0, 1) := by decide +kernel
theorem dX2_returnCalls_54 : decode cX2_returnCalls 54 = .ok (.iload_n 3, 1) := by decide +kernel
theorem dX2_returnCalls_55 : decode cX2_returnCalls 55 = .ok (.iload 4, 2) := by decide +kernel
theorem dX2_returnCalls_57 : decode cX2_returnCalls 57 = .ok (.invokevirtual 129, 3) := by decide +kernel
theorem dX2_returnCalls_60 : decode cX2_returnCalls 60 = .ok (.iinc 1 1, 3) := by decide +kernel
theorem dX2_returnCalls_63 : decode cX2_returnCalls 63 = .ok (.iinc 2 1, 3) := by decide +kernel
theorem dX2_returnCalls_66 : decode cX2_returnCalls 66 = .ok (.goto (-53), 3) := by decide +kernel
theorem dX2_returnCalls_69 : decode cX2_returnCalls 69 = .ok (.aload_n 0, 1) := by decide +kernel
theorem dX2_returnCalls_70 : decode cX2_returnCalls 70 = .ok (.dup, 1) := by decide +kernel
theorem dX2_returnCalls_71 : decode cX2_returnCalls 71 = .ok (.getfield 55, 3) := by decide +kernel
theorem dX2_returnCalls_74 : decode cX2_returnCalls 74 = .ok (.iload_n 1, 1) := by decide +kernel
theorem dX2_returnCalls_75 : decode cX2_returnCalls 75 = .ok (.iadd, 1) := by decide +kernel
theorem dX2_returnCalls_76 : decode cX2_returnCalls 76 = .ok (.putfield 55, 3) := by decide +kernel
theorem dX2_returnCalls_79 : decode cX2_returnCalls 79 = .ok (.iload_n 1, 1) := by decide +kernel
theorem dX2_returnCalls_80 : decode cX2_returnCalls 80 = .ok (.ireturn, 1) := by decide +kernel
theorem dX2_nextToReturn_0 : decode cX2_nextToReturn 0 = .ok (.bipush (-9), 2) := by decide +kernel
theorem dX2_nextToReturn_2 : decode cX2_nextToReturn 2 = .ok (.istore_n 1, 1) := by decide +kernel
theorem dX2_nextToReturn_3 : decode cX2_nextToReturn 3 = .ok (.iconst 0, 1) := by decide +kernel
theorem dX2_nextToReturn_4 : decode cX2_nextToReturn 4 = .ok (.istore_n 2, 1) := by decide +kernel
theorem dX2_nextToReturn_5 : decode cX2_nextToReturn 5 = .ok (.iconst 0, 1) := by decide +kernel
theorem dX2_nextToReturn_6 : decode cX2_nextToReturn 6 = .ok (.istore_n 3, 1) := by decide +kernel
theorem dX2_nextToReturn_7 : decode cX2_nextToReturn 7 = .ok (.iload_n 3, 1) := by decide +kernel
theorem dX2_nextToReturn_8 : decode cX2_nextToReturn 8 = .ok (.bipush 60, 2) := by decide +kernel
theorem dX2_nextToReturn_10 : decode cX2_nextToReturn 10 = .ok (.if_icmp .ge 65, 3) := by decide +kernel
theorem dX2_nextToReturn_13 : decode cX2_nextToReturn 13 = .ok (.aload_n 0, 1) := by decide +kernel
theorem dX2_nextToReturn_14 : decode cX2_nextToReturn 14 = .ok (.iload_n 3, 1) := by decide +kernel
theorem dX2_nextToReturn_15 : decode cX2_nextToReturn 15 = .ok (.invokevirtual 133, 3) := by decide +kernel
theorem dX2_nextToReturn_18 : decode cX2_nextToReturn 18 = .ok (.ifCond .eq 51, 3) := by decide +kernel
theorem dX2_nextToReturn_21 : decode cX2_nextToReturn 21 = .ok (.aload_n 0, 1) := by decide +kernel
theorem dX2_nextToReturn_22 : decode cX2_nextToReturn 22 = .ok (.aload_n 0, 1) := by decide +kernel
theorem dX2_nextToReturn_23 : decode cX2_nextToReturn 23 = .ok (.iload_n 3, 1) := by decide +kernel
theorem dX2_nextToReturn_24 : decode cX2_nextToReturn 24 = .ok (.invokevirtual 84, 3) := by decide +kernel
theorem dX2_nextToReturn_27 : decode cX2_nextToReturn 27 = .ok (.invokevirtual 142, 3) := by decide +kernel
theorem dX2_nextToReturn_30 : decode cX2_nextToReturn 30 = .ok (.ifCond .eq 39, 3) := by decide +kernel
theorem dX2_nextToReturn_33 : decode cX2_nextToReturn 33 = .ok (.aload_n 0, 1) := by decide +kernel
theorem dX2_nextToReturn_34 : decode cX2_nextToReturn 34 = .ok (.getfield 32, 3) := by decide +kernel
theorem dX2_nextToReturn_37 : decode cX2_nextToReturn 37 = .ok (.aload_n 0, 1) := by decide +kernel
theorem dX2_nextToReturn_38 : decode cX2_nextToReturn 38 = .ok (.iload_n 3, 1) := by decide +kernel
theorem dX2_nextToReturn_39 : decode cX2_nextToReturn 39 = .ok (.invokevirtual 84, 3) := by decide +kernel
theorem dX2_nextToReturn_42 : decode cX2_nextToReturn 42 = .ok (.aload_n 0, 1) := by decide +kernel
theorem dX2_nextToReturn_43 : decode cX2_nextToReturn 43 = .ok (.iload_n 3, 1) := by decide +kernel
theorem dX2_nextToReturn_44 : decode cX2_nextToReturn 44 = .ok (.invokevirtual 80, 3) := by decide +kernel
theorem dX2_nextToReturn_47 : decode cX2_nextToReturn 47 = .ok (.invokevirtual 148, 3) := by decide +kernel
theorem dX2_nextToReturn_50 : decode cX2_nextToReturn 50 = .ok (.istore 4, 2) := by decide +kernel
theorem dX2_nextToReturn_52 : decode cX2_nextToReturn 52 = .ok (.iload_n 1, 1) := by decide +kernel
theorem dX2_nextToReturn_53 : decode cX2_nextToReturn 53 = .ok (.bipush (-9), 2) := by decide +kernel
theorem dX2_nextToReturn_55 : decode cX2_nextToReturn 55 = .ok (.if_icmp .eq 9, 3) := by decide +kernel
theorem dX2_nextToReturn_58 : decode cX2_nextToReturn 58 = .ok (.iload 4, 2) := by decide +kernel
theorem dX2_nextToReturn_60 : decode cX2_nextToReturn 60 = .ok (.iload_n 2, 1) := by decide +kernel
theorem dX2_nextToReturn_61 : decode cX2_nextToReturn 61 = .ok (.if_icmp .le 8, 3) := by decide +kernel
theorem dX2_nextToReturn_64 : decode cX2_nextToReturn 64 = .ok (.iload_n 3, 1) := by decide +kernel
theorem dX2_nextToReturn_65 : decode cX2_nextToReturn 65 = .ok (.istore_n 1, 1) := by decide +kernel
theorem dX2_nextToReturn_66 : decode cX2_nextToReturn 66 = .ok (.iload 4, 2) := by decide +kernel
theorem dX2_nextToReturn_68 : decode cX2_nextToReturn 68 = .ok (.istore_n 2, 1) := by decide +kernel
theorem dX2_nextToReturn_69 : decode cX2_nextToReturn 69 = .ok (.iinc 3 1, 3) := by decide +kernel
theorem dX2_nextToReturn_72 : decode cX2_nextToReturn 72 = .ok (.goto (-65), 3) := by decide +kernel
theorem dX2_nextToReturn_75 : decode cX2_nextToReturn 75 = .ok (.iload_n 1, 1) := by decide +kernel
theorem dX2_nextToReturn_76 : decode cX2_nextToReturn 76 = .ok (.ireturn, 1) := by decide +kernel
theorem dX2_isNominal_0 : decode cX2_isNominal 0 = .ok (.aload_n 0, 1) := by decide +kernel
theorem dX2_isNominal_1 : decode cX2_isNominal 1 = .ok (.getfield 32, 3) := by decide +kernel
theorem dX2_isNominal_4 : decode cX2_isNominal 4 = .ok (.iload_n 1, 1) := by decide +kernel
theorem dX2_isNominal_5 : decode cX2_isNominal 5 = .ok (.invokevirtual 151, 3) := by decide +kernel
theorem dX2_isNominal_8 : decode cX2_isNominal 8 = .ok (.iload_n 2, 1) := by decide +kernel
theorem dX2_isNominal_9 : decode cX2_isNominal 9 = .ok (.invokestatic 154, 3) := by decide +kernel
theorem dX2_isNominal_12 : decode cX2_isNominal 12 = .ok (.ireturn, 1) := by decide +kernel
theorem dX2_usedIn_0 : decode cX2_usedIn 0 = .ok (.iload_n 1, 1) := by decide +kernel
theorem dX2_usedIn_1 : decode cX2_usedIn 1 = .ok (.ifCond .lt 18, 3) := by decide +kernel
theorem dX2_usedIn_4 : decode cX2_usedIn 4 = .ok (.iload_n 1, 1) := by decide +kernel
theorem dX2_usedIn_5 : decode cX2_usedIn 5 = .ok (.bipush 25, 2) := by decide +kernel
theorem dX2_usedIn_7 : decode cX2_usedIn 7 = .ok (.if_icmp .ge 12, 3) := by decide +kernel
theorem dX2_usedIn_10 : decode cX2_usedIn 10 = .ok (.aload_n 0, 1) := by decide +kernel
theorem dX2_usedIn_11 : decode cX2_usedIn 11 = .ok (.getfield 25, 3) := by decide +kernel
theorem dX2_usedIn_14 : decode cX2_usedIn 14 = .ok (.iload_n 1, 1) := by decide +kernel
theorem dX2_usedIn_15 : decode cX2_usedIn 15 = .ok (.iaload, 1) := by decide +kernel
theorem dX2_usedIn_16 : decode cX2_usedIn 16 = .ok (.goto 4, 3) := by decide +kernel
theorem dX2_usedIn_19 : decode cX2_usedIn 19 = .ok (.iconst 0, 1) := by decide +kernel
theorem dX2_usedIn_20 : decode cX2_usedIn 20 = .ok (.ireturn, 1) := by decide +kernel
theorem dX2_availableIn_0 : decode cX2_availableIn 0 = .ok (.aload_n 0, 1) := by decide +kernel
theorem dX2_availableIn_1 : decode cX2_availableIn 1 = .ok (.iload_n 1, 1) := by decide +kernel
theorem dX2_availableIn_2 : decode cX2_availableIn 2 = .ok (.invokevirtual 157, 3) := by decide +kernel
theorem dX2_availableIn_5 : decode cX2_availableIn 5 = .ok (.istore_n 2, 1) := by decide +kernel
theorem dX2_availableIn_6 : decode cX2_availableIn 6 = .ok (.aload_n 0, 1) := by decide +kernel
theorem dX2_availableIn_7 : decode cX2_availableIn 7 = .ok (.getfield 32, 3) := by decide +kernel
theorem dX2_availableIn_10 : decode cX2_availableIn 10 = .ok (.iload_n 1, 1) := by decide +kernel
theorem dX2_availableIn_11 : decode cX2_availableIn 11 = .ok (.invokevirtual 160, 3) := by decide +kernel
theorem dX2_availableIn_14 : decode cX2_availableIn 14 = .ok (.istore_n 3, 1) := by decide +kernel
theorem dX2_availableIn_15 : decode cX2_availableIn 15 = .ok (.iconst 0, 1) := by decide +kernel
theorem dX2_availableIn_16 : decode cX2_availableIn 16 = .ok (.istore 4, 2) := by decide +kernel
theorem dX2_availableIn_18 : decode cX2_availableIn 18 = .ok (.iload 4, 2) := by decide +kernel
theorem dX2_availableIn_20 : decode cX2_availableIn 20 = .ok (.bipush 25, 2) := by decide +kernel
theorem dX2_availableIn_22 : decode cX2_availableIn 22 = .ok (.if_icmp .ge 28, 3) := by decide +kernel
theorem dX2_availableIn_25 : decode cX2_availableIn 25 = .ok (.iload_n 3, 1) := by decide +kernel
theorem dX2_availableIn_26 : decode cX2_availableIn 26 = .ok (.iload 4, 2) := by decide +kernel
theorem dX2_availableIn_28 : decode cX2_availableIn 28 = .ok (.invokestatic 154, 3) := by decide +kernel
theorem dX2_availableIn_31 : decode cX2_availableIn 31 = .ok (.ifCond .eq 13, 3) := by decide +kernel
theorem dX2_availableIn_34 : decode cX2_availableIn 34 = .ok (.iload_n 2, 1) := by decide +kernel
theorem dX2_availableIn_35 : decode cX2_availableIn 35 = .ok (.aload_n 0, 1) := by decide +kernel
theorem dX2_availableIn_36 : decode cX2_availableIn 36 = .ok (.getfield 25, 3) := by decide +kernel
theorem dX2_availableIn_39 : decode cX2_availableIn 39 = .ok (.iload 4, 2) := by decide +kernel
theorem dX2_availableIn_41 : decode cX2_availableIn 41 = .ok (.iaload, 1) := by decide +kernel
theorem dX2_availableIn_42 : decode cX2_availableIn 42 = .ok (.ior, 1) := by decide +kernel
theorem dX2_availableIn_43 : decode cX2_availableIn 43 = .ok (.istore_n 2, 1) := by decide +kernel
theorem dX2_availableIn_44 : decode cX2_availableIn 44 = .ok (.iinc 4 1, 3) := by decide +kernel
theorem dX2_availableIn_47 : decode cX2_availableIn 47 = .ok (.goto (-29), 3) := by decide +kernel
theorem dX2_availableIn_50 : decode cX2_availableIn 50 = .ok (.iconst 1, 1) := by decide +kernel
theorem dX2_availableIn_51 : decode cX2_availableIn 51 = .ok (.aload_n 0, 1) := by decide +kernel
theorem dX2_availableIn_52 : decode cX2_availableIn 52 = .ok (.getfield 32, 3) := by decide +kernel
theorem dX2_availableIn_55 : decode cX2_availableIn 55 = .ok (.getfield 163, 3) := by decide +kernel
theorem dX2_availableIn_58 : decode cX2_availableIn 58 = .ok (.ishl, 1) := by decide +kernel
theorem dX2_availableIn_59 : decode cX2_availableIn 59 = .ok (.iconst 1, 1) := by decide +kernel
theorem dX2_availableIn_60 : decode cX2_availableIn 60 = .ok (.isub, 1) := by decide +kernel
theorem dX2_availableIn_61 : decode cX2_availableIn 61 = .ok (.iload_n 2, 1) := by decide +kernel
theorem dX2_availableIn_62 : decode cX2_availableIn 62 = .ok (.iconst (-1), 1) := by decide +kernel
theorem dX2_availableIn_63 : decode cX2_availableIn 63 = .ok (.ixor, 1) := by decide +kernel
theorem dX2_availableIn_64 : decode cX2_availableIn 64 = .ok (.iand, 1) := by decide +kernel
theorem dX2_availableIn_65 : decode cX2_availableIn 65 = .ok (.ireturn, 1) := by decide +kernel
theorem dX2_availableNominals_0 : decode cX2_availableNominals 0 = .ok (.aload_n 0, 1) := by decide +kernel
theorem dX2_availableNominals_1 : decode cX2_availableNominals 1 = .ok (.iload_n 1, 1) := by decide +kernel
theorem dX2_availableNominals_2 : decode cX2_availableNominals 2 = .ok (.invokevirtual 166, 3) := by decide +kernel
theorem dX2_availableNominals_5 : decode cX2_availableNominals 5 = .ok (.aload_n 0, 1) := by decide +kernel
theorem dX2_availableNominals_6 : decode cX2_availableNominals 6 = .ok (.getfield 32, 3) := by decide +kernel
theorem dX2_availableNominals_9 : decode cX2_availableNominals 9 = .ok (.iload_n 1, 1) := by decide +kernel
theorem dX2_availableNominals_10 : decode cX2_availableNominals 10 = .ok (.invokevirtual 151, 3) := by decide +kernel
theorem dX2_availableNominals_13 : decode cX2_availableNominals 13 = .ok (.iand, 1) := by decide +kernel
theorem dX2_availableNominals_14 : decode cX2_availableNominals 14 = .ok (.ireturn, 1) := by decide +kernel
theorem dX2_lockers_0 : decode cX2_lockers 0 = .ok (.aload_n 0, 1) := by decide +kernel
theorem dX2_lockers_1 : decode cX2_lockers 1 = .ok (.getfield 32, 3) := by decide +kernel
theorem dX2_lockers_4 : decode cX2_lockers 4 = .ok (.iload_n 1, 1) := by decide +kernel
theorem dX2_lockers_5 : decode cX2_lockers 5 = .ok (.invokevirtual 160, 3) := by decide +kernel
theorem dX2_lockers_8 : decode cX2_lockers 8 = .ok (.istore_n 3, 1) := by decide +kernel
theorem dX2_lockers_9 : decode cX2_lockers 9 = .ok (.iconst 0, 1) := by decide +kernel
theorem dX2_lockers_10 : decode cX2_lockers 10 = .ok (.istore 4, 2) := by decide +kernel
theorem dX2_lockers_12 : decode cX2_lockers 12 = .ok (.iconst 0, 1) := by decide +kernel
theorem dX2_lockers_13 : decode cX2_lockers 13 = .ok (.istore 5, 2) := by decide +kernel
theorem dX2_lockers_15 : decode cX2_lockers 15 = .ok (.iload 5, 2) := by decide +kernel
theorem dX2_lockers_17 : decode cX2_lockers 17 = .ok (.bipush 25, 2) := by decide +kernel
theorem dX2_lockers_19 : decode cX2_lockers 19 = .ok (.if_icmp .ge 35, 3) := by decide +kernel
theorem dX2_lockers_22 : decode cX2_lockers 22 = .ok (.iload_n 3, 1) := by decide +kernel
theorem dX2_lockers_23 : decode cX2_lockers 23 = .ok (.iload 5, 2) := by decide +kernel
theorem dX2_lockers_25 : decode cX2_lockers 25 = .ok (.invokestatic 154, 3) := by decide +kernel
theorem dX2_lockers_28 : decode cX2_lockers 28 = .ok (.ifCond .eq 20, 3) := by decide +kernel
theorem dX2_lockers_31 : decode cX2_lockers 31 = .ok (.aload_n 0, 1) := by decide +kernel
theorem dX2_lockers_32 : decode cX2_lockers 32 = .ok (.getfield 25, 3) := by decide +kernel
theorem dX2_lockers_35 : decode cX2_lockers 35 = .ok (.iload 5, 2) := by decide +kernel
theorem dX2_lockers_37 : decode cX2_lockers 37 = .ok (.iaload, 1) := by decide +kernel
theorem dX2_lockers_38 : decode cX2_lockers 38 = .ok (.iload_n 2, 1) := by decide +kernel
theorem dX2_lockers_39 : decode cX2_lockers 39 = .ok (.invokestatic 154, 3) := by decide +kernel
theorem dX2_lockers_42 : decode cX2_lockers 42 = .ok (.ifCond .eq 6, 3) := by decide +kernel
theorem dX2_lockers_45 : decode cX2_lockers 45 = .ok (.iinc 4 1, 3) := by decide +kernel
theorem dX2_lockers_48 : decode cX2_lockers 48 = .ok (.iinc 5 1, 3) := by decide +kernel
theorem dX2_lockers_51 : decode cX2_lockers 51 = .ok (.goto (-36), 3) := by decide +kernel
theorem dX2_lockers_54 : decode cX2_lockers 54 = .ok (.iload 4, 2) := by decide +kernel
theorem dX2_lockers_56 : decode cX2_lockers 56 = .ok (.ireturn, 1) := by decide +kernel
theorem dX2_chooseChannel_0 : decode cX2_chooseChannel 0 = .ok (.aload_n 0, 1) := by decide +kernel
theorem dX2_chooseChannel_1 : decode cX2_chooseChannel 1 = .ok (.iload_n 1, 1) := by decide +kernel
theorem dX2_chooseChannel_2 : decode cX2_chooseChannel 2 = .ok (.invokevirtual 166, 3) := by decide +kernel
theorem dX2_chooseChannel_5 : decode cX2_chooseChannel 5 = .ok (.istore_n 2, 1) := by decide +kernel
theorem dX2_chooseChannel_6 : decode cX2_chooseChannel 6 = .ok (.iload_n 2, 1) := by decide +kernel
theorem dX2_chooseChannel_7 : decode cX2_chooseChannel 7 = .ok (.aload_n 0, 1) := by decide +kernel
theorem dX2_chooseChannel_8 : decode cX2_chooseChannel 8 = .ok (.getfield 32, 3) := by decide +kernel
theorem dX2_chooseChannel_11 : decode cX2_chooseChannel 11 = .ok (.iload_n 1, 1) := by decide +kernel
theorem dX2_chooseChannel_12 : decode cX2_chooseChannel 12 = .ok (.invokevirtual 151, 3) := by decide +kernel
theorem dX2_chooseChannel_15 : decode cX2_chooseChannel 15 = .ok (.iand, 1) := by decide +kernel
theorem dX2_chooseChannel_16 : decode cX2_chooseChannel 16 = .ok (.istore_n 3, 1) := by decide +kernel
theorem dX2_chooseChannel_17 : decode cX2_chooseChannel 17 = .ok (.iload_n 3, 1) := by decide +kernel
theorem dX2_chooseChannel_18 : decode cX2_chooseChannel 18 = .ok (.ifCond .eq 9, 3) := by decide +kernel
theorem dX2_chooseChannel_21 : decode cX2_chooseChannel 21 = .ok (.aload_n 0, 1) := by decide +kernel
theorem dX2_chooseChannel_22 : decode cX2_chooseChannel 22 = .ok (.iload_n 3, 1) := by decide +kernel
theorem dX2_chooseChannel_23 : decode cX2_chooseChannel 23 = .ok (.invokevirtual 145, 3) := by decide +kernel
theorem dX2_chooseChannel_26 : decode cX2_chooseChannel 26 = .ok (.ireturn, 1) := by decide +kernel
theorem dX2_chooseChannel_27 : decode cX2_chooseChannel 27 = .ok (.aload_n 0, 1) := by decide +kernel
theorem dX2_chooseChannel_28 : decode cX2_chooseChannel 28 = .ok (.iload_n 1, 1) := by decide +kernel
theorem dX2_chooseChannel_29 : decode cX2_chooseChannel 29 = .ok (.iload_n 2, 1) := by decide +kernel
theorem dX2_chooseChannel_30 : decode cX2_chooseChannel 30 = .ok (.invokevirtual 169, 3) := by decide +kernel
theorem dX2_chooseChannel_33 : decode cX2_chooseChannel 33 = .ok (.istore 4, 2) := by decide +kernel
theorem dX2_chooseChannel_35 : decode cX2_chooseChannel 35 = .ok (.iload 4, 2) := by decide +kernel
theorem dX2_chooseChannel_37 : decode cX2_chooseChannel 37 = .ok (.bipush (-9), 2) := by decide +kernel
theorem dX2_chooseChannel_39 : decode cX2_chooseChannel 39 = .ok (.if_icmp .ne 8, 3) := by decide +kernel
theorem dX2_chooseChannel_42 : decode cX2_chooseChannel 42 = .ok (.bipush (-9), 2) := by decide +kernel
theorem dX2_chooseChannel_44 : decode cX2_chooseChannel 44 = .ok (.goto 18, 3) := by decide +kernel
theorem dX2_chooseChannel_47 : decode cX2_chooseChannel 47 = .ok (.aload_n 0, 1) := by decide +kernel
theorem dX2_chooseChannel_48 : decode cX2_chooseChannel 48 = .ok (.iload_n 2, 1) := by decide +kernel
theorem dX2_chooseChannel_49 : decode cX2_chooseChannel 49 = .ok (.aload_n 0, 1) := by decide +kernel
theorem dX2_chooseChannel_50 : decode cX2_chooseChannel 50 = .ok (.getfield 32, 3) := by decide +kernel
theorem dX2_chooseChannel_53 : decode cX2_chooseChannel 53 = .ok (.iload 4, 2) := by decide +kernel
theorem dX2_chooseChannel_55 : decode cX2_chooseChannel 55 = .ok (.invokevirtual 151, 3) := by decide +kernel
theorem dX2_chooseChannel_58 : decode cX2_chooseChannel 58 = .ok (.iand, 1) := by decide +kernel
theorem dX2_chooseChannel_59 : decode cX2_chooseChannel 59 = .ok (.invokevirtual 172, 3) := by decide +kernel
theorem dX2_chooseChannel_62 : decode cX2_chooseChannel 62 = .ok (.ireturn, 1) := by decide +kernel
theorem dX2_chooseDonor_0 : decode cX2_chooseDonor 0 = .ok (.aload_n 0, 1) := by decide +kernel
theorem dX2_chooseDonor_1 : decode cX2_chooseDonor 1 = .ok (.iload_n 1, 1) := by decide +kernel
theorem dX2_chooseDonor_2 : decode cX2_chooseDonor 2 = .ok (.invokevirtual 166, 3) := by decide +kernel
theorem dX2_chooseDonor_5 : decode cX2_chooseDonor 5 = .ok (.istore_n 2, 1) := by decide +kernel
theorem dX2_chooseDonor_6 : decode cX2_chooseDonor 6 = .ok (.iload_n 2, 1) := by decide +kernel
theorem dX2_chooseDonor_7 : decode cX2_chooseDonor 7 = .ok (.aload_n 0, 1) := by decide +kernel
theorem dX2_chooseDonor_8 : decode cX2_chooseDonor 8 = .ok (.getfield 32, 3) := by decide +kernel
theorem dX2_chooseDonor_11 : decode cX2_chooseDonor 11 = .ok (.iload_n 1, 1) := by decide +kernel
theorem dX2_chooseDonor_12 : decode cX2_chooseDonor 12 = .ok (.invokevirtual 151, 3) := by decide +kernel
theorem dX2_chooseDonor_15 : decode cX2_chooseDonor 15 = .ok (.iand, 1) := by decide +kernel
theorem dX2_chooseDonor_16 : decode cX2_chooseDonor 16 = .ok (.ifCond .eq 7, 3) := by decide +kernel
theorem dX2_chooseDonor_19 : decode cX2_chooseDonor 19 = .ok (.iconst 1, 1) := by decide +kernel
theorem dX2_chooseDonor_20 : decode cX2_chooseDonor 20 = .ok (.goto 4, 3) := by decide +kernel
theorem dX2_chooseDonor_23 : decode cX2_chooseDonor 23 = .ok (.iconst 0, 1) := by decide +kernel
theorem dX2_chooseDonor_24 : decode cX2_chooseDonor 24 = .ok (.istore_n 3, 1) := by decide +kernel
theorem dX2_chooseDonor_25 : decode cX2_chooseDonor 25 = .ok (.iload_n 3, 1) := by decide +kernel
theorem dX2_chooseDonor_26 : decode cX2_chooseDonor 26 = .ok (.ifCond .eq 8, 3) := by decide +kernel
theorem dX2_chooseDonor_29 : decode cX2_chooseDonor 29 = .ok (.bipush (-9), 2) := by decide +kernel
theorem dX2_chooseDonor_31 : decode cX2_chooseDonor 31 = .ok (.goto 9, 3) := by decide +kernel
theorem dX2_chooseDonor_34 : decode cX2_chooseDonor 34 = .ok (.aload_n 0, 1) := by decide +kernel
theorem dX2_chooseDonor_35 : decode cX2_chooseDonor 35 = .ok (.iload_n 1, 1) := by decide +kernel
theorem dX2_chooseDonor_36 : decode cX2_chooseDonor 36 = .ok (.iload_n 2, 1) := by decide +kernel
theorem dX2_chooseDonor_37 : decode cX2_chooseDonor 37 = .ok (.invokevirtual 169, 3) := by decide +kernel
theorem dX2_chooseDonor_40 : decode cX2_chooseDonor 40 = .ok (.ireturn, 1) := by decide +kernel
theorem dX2_bestDonor_0 : decode cX2_bestDonor 0 = .ok (.bipush (-9), 2) := by decide +kernel
theorem dX2_bestDonor_2 : decode cX2_bestDonor 2 = .ok (.istore_n 3, 1) := by decide +kernel
theorem dX2_bestDonor_3 : decode cX2_bestDonor 3 = .ok (.bipush 25, 2) := by decide +kernel
theorem dX2_bestDonor_5 : decode cX2_bestDonor 5 = .ok (.istore 4, 2) := by decide +kernel
theorem dX2_bestDonor_7 : decode cX2_bestDonor 7 = .ok (.iconst 0, 1) := by decide +kernel
theorem dX2_bestDonor_8 : decode cX2_bestDonor 8 = .ok (.istore 5, 2) := by decide +kernel
theorem dX2_bestDonor_10 : decode cX2_bestDonor 10 = .ok (.iload 5, 2) := by decide +kernel
theorem dX2_bestDonor_12 : decode cX2_bestDonor 12 = .ok (.aload_n 0, 1) := by decide +kernel
theorem dX2_bestDonor_13 : decode cX2_bestDonor 13 = .ok (.getfield 32, 3) := by decide +kernel
theorem dX2_bestDonor_16 : decode cX2_bestDonor 16 = .ok (.getfield 175, 3) := by decide +kernel
theorem dX2_bestDonor_19 : decode cX2_bestDonor 19 = .ok (.if_icmp .ge 99, 3) := by decide +kernel
theorem dX2_bestDonor_22 : decode cX2_bestDonor 22 = .ok (.aload_n 0, 1) := by decide +kernel
theorem dX2_bestDonor_23 : decode cX2_bestDonor 23 = .ok (.getfield 32, 3) := by decide +kernel
theorem dX2_bestDonor_26 : decode cX2_bestDonor 26 = .ok (.iload_n 1, 1) := by decide +kernel
theorem dX2_bestDonor_27 : decode cX2_bestDonor 27 = .ok (.iload 5, 2) := by decide +kernel
theorem dX2_bestDonor_29 : decode cX2_bestDonor 29 = .ok (.invokevirtual 121, 3) := by decide +kernel
theorem dX2_bestDonor_32 : decode cX2_bestDonor 32 = .ok (.iconst 1, 1) := by decide +kernel
theorem dX2_bestDonor_33 : decode cX2_bestDonor 33 = .ok (.if_icmp .ne 7, 3) := by decide +kernel
theorem dX2_bestDonor_36 : decode cX2_bestDonor 36 = .ok (.iconst 1, 1) := by decide +kernel
theorem dX2_bestDonor_37 : decode cX2_bestDonor 37 = .ok (.goto 4, 3) := by decide +kernel
theorem dX2_bestDonor_40 : decode cX2_bestDonor 40 = .ok (.iconst 0, 1) := by decide +kernel
theorem dX2_bestDonor_41 : decode cX2_bestDonor 41 = .ok (.istore 6, 2) := by decide +kernel
theorem dX2_bestDonor_43 : decode cX2_bestDonor 43 = .ok (.iload 6, 2) := by decide +kernel
theorem dX2_bestDonor_45 : decode cX2_bestDonor 45 = .ok (.ifCond .eq 67, 3) := by decide +kernel
theorem dX2_bestDonor_48 : decode cX2_bestDonor 48 = .ok (.iload_n 2, 1) := by decide +kernel
theorem dX2_bestDonor_49 : decode cX2_bestDonor 49 = .ok (.aload_n 0, 1) := by decide +kernel
theorem dX2_bestDonor_50 : decode cX2_bestDonor 50 = .ok (.getfield 32, 3) := by decide +kernel
theorem dX2_bestDonor_53 : decode cX2_bestDonor 53 = .ok (.iload 5, 2) := by decide +kernel
theorem dX2_bestDonor_55 : decode cX2_bestDonor 55 = .ok (.invokevirtual 151, 3) := by decide +kernel
theorem dX2_bestDonor_58 : decode cX2_bestDonor 58 = .ok (.iand, 1) := by decide +kernel
theorem dX2_bestDonor_59 : decode cX2_bestDonor 59 = .ok (.ifCond .eq 53, 3) := by decide +kernel
theorem dX2_bestDonor_62 : decode cX2_bestDonor 62 = .ok (.aload_n 0, 1) := by decide +kernel
theorem dX2_bestDonor_63 : decode cX2_bestDonor 63 = .ok (.iload 5, 2) := by decide +kernel
theorem dX2_bestDonor_65 : decode cX2_bestDonor 65 = .ok (.invokevirtual 142, 3) := by decide +kernel
theorem dX2_bestDonor_68 : decode cX2_bestDonor 68 = .ok (.invokestatic 178, 3) := by decide +kernel
theorem dX2_bestDonor_71 : decode cX2_bestDonor 71 = .ok (.istore 7, 2) := by decide +kernel
theorem dX2_bestDonor_73 : decode cX2_bestDonor 73 = .ok (.iload 7, 2) := by decide +kernel
theorem dX2_bestDonor_75 : decode cX2_bestDonor 75 = .ok (.aload_n 0, 1) := by decide +kernel
theorem dX2_bestDonor_76 : decode cX2_bestDonor 76 = .ok (.getfield 67, 3) := by decide +kernel
theorem dX2_bestDonor_79 : decode cX2_bestDonor 79 = .ok (.if_icmp .le 15, 3) := by decide +kernel
theorem dX2_bestDonor_82 : decode cX2_bestDonor 82 = .ok (.aload_n 0, 1) := by decide +kernel
theorem dX2_bestDonor_83 : decode cX2_bestDonor 83 = .ok (.iload 5, 2) := by decide +kernel
theorem dX2_bestDonor_85 : decode cX2_bestDonor 85 = .ok (.iload 7, 2) := by decide +kernel
theorem dX2_bestDonor_87 : decode cX2_bestDonor 87 = .ok (.iload_n 1, 1) := by decide +kernel
theorem dX2_bestDonor_88 : decode cX2_bestDonor 88 = .ok (.invokevirtual 183, 3) := by decide +kernel
theorem dX2_bestDonor_91 : decode cX2_bestDonor 91 = .ok (.goto 5, 3) := by decide +kernel
theorem dX2_bestDonor_94 : decode cX2_bestDonor 94 = .ok (.bipush 25, 2) := by decide +kernel
theorem dX2_bestDonor_96 : decode cX2_bestDonor 96 = .ok (.istore 8, 2) := by decide +kernel
theorem dX2_bestDonor_98 : decode cX2_bestDonor 98 = .ok (.iload 8, 2) := by decide +kernel
theorem dX2_bestDonor_100 : decode cX2_bestDonor 100 = .ok (.iload 4, 2) := by decide +kernel
theorem dX2_bestDonor_102 : decode cX2_bestDonor 102 = .ok (.if_icmp .ge 10, 3) := by decide +kernel
theorem dX2_bestDonor_105 : decode cX2_bestDonor 105 = .ok (.iload 5, 2) := by decide +kernel
theorem dX2_bestDonor_107 : decode cX2_bestDonor 107 = .ok (.istore_n 3, 1) := by decide +kernel
theorem dX2_bestDonor_108 : decode cX2_bestDonor 108 = .ok (.iload 8, 2) := by decide +kernel
theorem dX2_bestDonor_110 : decode cX2_bestDonor 110 = .ok (.istore 4, 2) := by decide +kernel
theorem dX2_bestDonor_112 : decode cX2_bestDonor 112 = .ok (.iinc 5 1, 3) := by decide +kernel
theorem dX2_bestDonor_115 : decode cX2_bestDonor 115 = .ok (.goto (-105), 3) := by decide +kernel
theorem dX2_bestDonor_118 : decode cX2_bestDonor 118 = .ok (.iload_n 3, 1) := by decide +kernel
theorem dX2_bestDonor_119 : decode cX2_bestDonor 119 = .ok (.ireturn, 1) := by decide +kernel
theorem dX2_rankOf_0 : decode cX2_rankOf 0 = .ok (.aload_n 0, 1) := by decide +kernel
theorem dX2_rankOf_1 : decode cX2_rankOf 1 = .ok (.getfield 64, 3) := by decide +kernel
theorem dX2_rankOf_4 : decode cX2_rankOf 4 = .ok (.lookupswitch 48 #[(0, 28), (2, 31)], 28) := by decide +kernel
theorem dX2_rankOf_32 : decode cX2_rankOf 32 = .ok (.iload_n 2, 1) := by decide +kernel
theorem dX2_rankOf_33 : decode cX2_rankOf 33 = .ok (.ineg, 1) := by decide +kernel
theorem dX2_rankOf_34 : decode cX2_rankOf 34 = .ok (.ireturn, 1) := by decide +kernel
theorem dX2_rankOf_35 : decode cX2_rankOf 35 = .ok (.aload_n 0, 1) := by decide +kernel
theorem dX2_rankOf_36 : decode cX2_rankOf 36 = .ok (.getfield 32, 3) := by decide +kernel
theorem dX2_rankOf_39 : decode cX2_rankOf 39 = .ok (.iload_n 3, 1) := by decide +kernel
theorem dX2_rankOf_40 : decode cX2_rankOf 40 = .ok (.aload_n 0, 1) := by decide +kernel
theorem dX2_rankOf_41 : decode cX2_rankOf 41 = .ok (.getfield 32, 3) := by decide +kernel
theorem dX2_rankOf_44 : decode cX2_rankOf 44 = .ok (.iload_n 1, 1) := by decide +kernel
theorem dX2_rankOf_45 : decode cX2_rankOf 45 = .ok (.invokevirtual 187, 3) := by decide +kernel
theorem dX2_rankOf_48 : decode cX2_rankOf 48 = .ok (.invokevirtual 148, 3) := by decide +kernel
theorem dX2_rankOf_51 : decode cX2_rankOf 51 = .ok (.ireturn, 1) := by decide +kernel
theorem dX2_rankOf_52 : decode cX2_rankOf 52 = .ok (.iconst 0, 1) := by decide +kernel
theorem dX2_rankOf_53 : decode cX2_rankOf 53 = .ok (.ireturn, 1) := by decide +kernel
theorem dX2_lowestOf_0 : decode cX2_lowestOf 0 = .ok (.iconst 0, 1) := by decide +kernel
theorem dX2_lowestOf_1 : decode cX2_lowestOf 1 = .ok (.istore_n 2, 1) := by decide +kernel
theorem dX2_lowestOf_2 : decode cX2_lowestOf 2 = .ok (.iload_n 2, 1) := by decide +kernel
theorem dX2_lowestOf_3 : decode cX2_lowestOf 3 = .ok (.aload_n 0, 1) := by decide +kernel
theorem dX2_lowestOf_4 : decode cX2_lowestOf 4 = .ok (.getfield 32, 3) := by decide +kernel
theorem dX2_lowestOf_7 : decode cX2_lowestOf 7 = .ok (.getfield 163, 3) := by decide +kernel
theorem dX2_lowestOf_10 : decode cX2_lowestOf 10 = .ok (.if_icmp .ge 19, 3) := by decide +kernel
theorem dX2_lowestOf_13 : decode cX2_lowestOf 13 = .ok (.iload_n 1, 1) := by decide +kernel
theorem dX2_lowestOf_14 : decode cX2_lowestOf 14 = .ok (.iload_n 2, 1) := by decide +kernel
theorem dX2_lowestOf_15 : decode cX2_lowestOf 15 = .ok (.invokestatic 154, 3) := by decide +kernel
theorem dX2_lowestOf_18 : decode cX2_lowestOf 18 = .ok (.ifCond .eq 5, 3) := by decide +kernel
theorem dX2_lowestOf_21 : decode cX2_lowestOf 21 = .ok (.iload_n 2, 1) := by decide +kernel
theorem dX2_lowestOf_22 : decode cX2_lowestOf 22 = .ok (.ireturn, 1) := by decide +kernel
theorem dX2_lowestOf_23 : decode cX2_lowestOf 23 = .ok (.iinc 2 1, 3) := by decide +kernel
theorem dX2_lowestOf_26 : decode cX2_lowestOf 26 = .ok (.goto (-24), 3) := by decide +kernel
theorem dX2_lowestOf_29 : decode cX2_lowestOf 29 = .ok (.bipush (-9), 2) := by decide +kernel
theorem dX2_lowestOf_31 : decode cX2_lowestOf 31 = .ok (.ireturn, 1) := by decide +kernel
theorem dX2_greatestOf_0 : decode cX2_greatestOf 0 = .ok (.aload_n 0, 1) := by decide +kernel
theorem dX2_greatestOf_1 : decode cX2_greatestOf 1 = .ok (.getfield 32, 3) := by decide +kernel
theorem dX2_greatestOf_4 : decode cX2_greatestOf 4 = .ok (.getfield 163, 3) := by decide +kernel
theorem dX2_greatestOf_7 : decode cX2_greatestOf 7 = .ok (.iconst 1, 1) := by decide +kernel
theorem dX2_greatestOf_8 : decode cX2_greatestOf 8 = .ok (.isub, 1) := by decide +kernel
theorem dX2_greatestOf_9 : decode cX2_greatestOf 9 = .ok (.istore_n 2, 1) := by decide +kernel
theorem dX2_greatestOf_10 : decode cX2_greatestOf 10 = .ok (.iload_n 2, 1) := by decide +kernel
end
section
theorem dX2_greatestOf_11 : decode cX2_greatestOf 11 = .ok (.ifCond .lt 19, 3) := by decide +kernel
theorem dX2_greatestOf_14 : decode cX2_greatestOf 14 = .ok (.iload_n 1, 1) := by decide +kernel
theorem dX2_greatestOf_15 : decode cX2_greatestOf 15 = .ok (.iload_n 2, 1) := by decide +kernel
theorem dX2_greatestOf_16 : decode cX2_greatestOf 16 = .ok (.invokestatic 154, 3) := by decide +kernel
theorem dX2_greatestOf_19 : decode cX2_greatestOf 19 = .ok (.ifCond .eq 5, 3) := by decide +kernel
theorem dX2_greatestOf_22 : decode cX2_greatestOf 22 = .ok (.iload_n 2, 1) := by decide +kernel
theorem dX2_greatestOf_23 : decode cX2_greatestOf 23 = .ok (.ireturn, 1) := by decide +kernel
theorem dX2_greatestOf_24 : decode cX2_greatestOf 24 = .ok (.iinc 2 (-1), 3) := by decide +kernel
theorem dX2_greatestOf_27 : decode cX2_greatestOf 27 = .ok (.goto (-17), 3) := by decide +kernel
theorem dX2_greatestOf_30 : decode cX2_greatestOf 30 = .ok (.bipush (-9), 2) := by decide +kernel
theorem dX2_greatestOf_32 : decode cX2_greatestOf 32 = .ok (.ireturn, 1) := by decide +kernel
theorem dX3_init_0 : decode cX3_init 0 = .ok (.aload_n 0, 1) := by decide +kernel
theorem dX3_init_1 : decode cX3_init 1 = .ok (.invokespecial 3, 3) := by decide +kernel
theorem dX3_init_4 : decode cX3_init 4 = .ok (.aload_n 0, 1) := by decide +kernel
theorem dX3_init_5 : decode cX3_init 5 = .ok (.bipush 33, 2) := by decide +kernel
theorem dX3_init_7 : decode cX3_init 7 = .ok (.newarray .int, 2) := by decide +kernel
theorem dX3_init_9 : decode cX3_init 9 = .ok (.putfield 9, 3) := by decide +kernel
theorem dX3_init_12 : decode cX3_init 12 = .ok (.aload_n 0, 1) := by decide +kernel
theorem dX3_init_13 : decode cX3_init 13 = .ok (.bipush 33, 2) := by decide +kernel
theorem dX3_init_15 : decode cX3_init 15 = .ok (.newarray .int, 2) := by decide +kernel
theorem dX3_init_17 : decode cX3_init 17 = .ok (.putfield 15, 3) := by decide +kernel
theorem dX3_init_20 : decode cX3_init 20 = .ok (.aload_n 0, 1) := by decide +kernel
theorem dX3_init_21 : decode cX3_init 21 = .ok (.bipush 33, 2) := by decide +kernel
theorem dX3_init_23 : decode cX3_init 23 = .ok (.newarray .int, 2) := by decide +kernel
theorem dX3_init_25 : decode cX3_init 25 = .ok (.putfield 18, 3) := by decide +kernel
theorem dX3_init_28 : decode cX3_init 28 = .ok (.aload_n 0, 1) := by decide +kernel
theorem dX3_init_29 : decode cX3_init 29 = .ok (.bipush 100, 2) := by decide +kernel
theorem dX3_init_31 : decode cX3_init 31 = .ok (.newarray .int, 2) := by decide +kernel
theorem dX3_init_33 : decode cX3_init 33 = .ok (.putfield 21, 3) := by decide +kernel
theorem dX3_init_36 : decode cX3_init 36 = .ok (.return_, 1) := by decide +kernel
theorem dX3_append_0 : decode cX3_append 0 = .ok (.aload_n 0, 1) := by decide +kernel
theorem dX3_append_1 : decode cX3_append 1 = .ok (.getfield 24, 3) := by decide +kernel
theorem dX3_append_4 : decode cX3_append 4 = .ok (.iconst 0, 1) := by decide +kernel
theorem dX3_append_5 : decode cX3_append 5 = .ok (.bipush 99, 2) := by decide +kernel
theorem dX3_append_7 : decode cX3_append 7 = .ok (.invokestatic 28, 3) := by decide +kernel
theorem dX3_append_10 : decode cX3_append 10 = .ok (.ifCond .ne 5, 3) := by decide +kernel
theorem dX3_append_13 : decode cX3_append 13 = .ok (.iconst 0, 1) := by decide +kernel
theorem dX3_append_14 : decode cX3_append 14 = .ok (.ireturn, 1) := by decide +kernel
theorem dX3_append_15 : decode cX3_append 15 = .ok (.aload_n 0, 1) := by decide +kernel
theorem dX3_append_16 : decode cX3_append 16 = .ok (.getfield 21, 3) := by decide +kernel
theorem dX3_append_19 : decode cX3_append 19 = .ok (.aload_n 0, 1) := by decide +kernel
theorem dX3_append_20 : decode cX3_append 20 = .ok (.getfield 24, 3) := by decide +kernel
theorem dX3_append_23 : decode cX3_append 23 = .ok (.iload_n 1, 1) := by decide +kernel
theorem dX3_append_24 : decode cX3_append 24 = .ok (.iastore, 1) := by decide +kernel
theorem dX3_append_25 : decode cX3_append 25 = .ok (.aload_n 0, 1) := by decide +kernel
theorem dX3_append_26 : decode cX3_append 26 = .ok (.dup, 1) := by decide +kernel
theorem dX3_append_27 : decode cX3_append 27 = .ok (.getfield 24, 3) := by decide +kernel
theorem dX3_append_30 : decode cX3_append 30 = .ok (.iconst 1, 1) := by decide +kernel
theorem dX3_append_31 : decode cX3_append 31 = .ok (.iadd, 1) := by decide +kernel
theorem dX3_append_32 : decode cX3_append 32 = .ok (.putfield 24, 3) := by decide +kernel
theorem dX3_append_35 : decode cX3_append 35 = .ok (.iconst 1, 1) := by decide +kernel
theorem dX3_append_36 : decode cX3_append 36 = .ok (.ireturn, 1) := by decide +kernel
theorem dX3_read_0 : decode cX3_read 0 = .ok (.aload_n 0, 1) := by decide +kernel
theorem dX3_read_1 : decode cX3_read 1 = .ok (.iconst 0, 1) := by decide +kernel
theorem dX3_read_2 : decode cX3_read 2 = .ok (.putfield 32, 3) := by decide +kernel
theorem dX3_read_5 : decode cX3_read 5 = .ok (.aload_n 0, 1) := by decide +kernel
theorem dX3_read_6 : decode cX3_read 6 = .ok (.iconst 0, 1) := by decide +kernel
theorem dX3_read_7 : decode cX3_read 7 = .ok (.putfield 35, 3) := by decide +kernel
theorem dX3_read_10 : decode cX3_read 10 = .ok (.iconst 0, 1) := by decide +kernel
theorem dX3_read_11 : decode cX3_read 11 = .ok (.istore_n 1, 1) := by decide +kernel
theorem dX3_read_12 : decode cX3_read 12 = .ok (.iload_n 1, 1) := by decide +kernel
theorem dX3_read_13 : decode cX3_read 13 = .ok (.bipush 33, 2) := by decide +kernel
theorem dX3_read_15 : decode cX3_read 15 = .ok (.if_icmp .gt 46, 3) := by decide +kernel
theorem dX3_read_18 : decode cX3_read 18 = .ok (.aload_n 0, 1) := by decide +kernel
theorem dX3_read_19 : decode cX3_read 19 = .ok (.invokevirtual 38, 3) := by decide +kernel
theorem dX3_read_22 : decode cX3_read 22 = .ok (.aload_n 0, 1) := by decide +kernel
theorem dX3_read_23 : decode cX3_read 23 = .ok (.getfield 32, 3) := by decide +kernel
theorem dX3_read_26 : decode cX3_read 26 = .ok (.aload_n 0, 1) := by decide +kernel
theorem dX3_read_27 : decode cX3_read 27 = .ok (.getfield 24, 3) := by decide +kernel
theorem dX3_read_30 : decode cX3_read 30 = .ok (.if_icmp .lt 16, 3) := by decide +kernel
theorem dX3_read_33 : decode cX3_read 33 = .ok (.aload_n 0, 1) := by decide +kernel
theorem dX3_read_34 : decode cX3_read 34 = .ok (.getfield 35, 3) := by decide +kernel
theorem dX3_read_37 : decode cX3_read 37 = .ok (.ifCond .le 7, 3) := by decide +kernel
theorem dX3_read_40 : decode cX3_read 40 = .ok (.iconst 1, 1) := by decide +kernel
theorem dX3_read_41 : decode cX3_read 41 = .ok (.goto 4, 3) := by decide +kernel
theorem dX3_read_44 : decode cX3_read 44 = .ok (.iconst 0, 1) := by decide +kernel
theorem dX3_read_45 : decode cX3_read 45 = .ok (.ireturn, 1) := by decide +kernel
theorem dX3_read_46 : decode cX3_read 46 = .ok (.aload_n 0, 1) := by decide +kernel
theorem dX3_read_47 : decode cX3_read 47 = .ok (.invokevirtual 41, 3) := by decide +kernel
theorem dX3_read_50 : decode cX3_read 50 = .ok (.ifCond .ne 5, 3) := by decide +kernel
theorem dX3_read_53 : decode cX3_read 53 = .ok (.iconst 0, 1) := by decide +kernel
theorem dX3_read_54 : decode cX3_read 54 = .ok (.ireturn, 1) := by decide +kernel
theorem dX3_read_55 : decode cX3_read 55 = .ok (.iinc 1 1, 3) := by decide +kernel
theorem dX3_read_58 : decode cX3_read 58 = .ok (.goto (-46), 3) := by decide +kernel
theorem dX3_read_61 : decode cX3_read 61 = .ok (.iconst 1, 1) := by decide +kernel
theorem dX3_read_62 : decode cX3_read 62 = .ok (.ireturn, 1) := by decide +kernel
theorem dX3_readCommand_0 : decode cX3_readCommand 0 = .ok (.aload_n 0, 1) := by decide +kernel
theorem dX3_readCommand_1 : decode cX3_readCommand 1 = .ok (.invokevirtual 45, 3) := by decide +kernel
theorem dX3_readCommand_4 : decode cX3_readCommand 4 = .ok (.istore_n 1, 1) := by decide +kernel
theorem dX3_readCommand_5 : decode cX3_readCommand 5 = .ok (.iload_n 1, 1) := by decide +kernel
theorem dX3_readCommand_6 : decode cX3_readCommand 6 = .ok (.bipush 115, 2) := by decide +kernel
theorem dX3_readCommand_8 : decode cX3_readCommand 8 = .ok (.if_icmp .eq 17, 3) := by decide +kernel
theorem dX3_readCommand_11 : decode cX3_readCommand 11 = .ok (.iload_n 1, 1) := by decide +kernel
theorem dX3_readCommand_12 : decode cX3_readCommand 12 = .ok (.bipush 101, 2) := by decide +kernel
theorem dX3_readCommand_14 : decode cX3_readCommand 14 = .ok (.if_icmp .eq 11, 3) := by decide +kernel
theorem dX3_readCommand_17 : decode cX3_readCommand 17 = .ok (.iload_n 1, 1) := by decide +kernel
theorem dX3_readCommand_18 : decode cX3_readCommand 18 = .ok (.bipush 104, 2) := by decide +kernel
theorem dX3_readCommand_20 : decode cX3_readCommand 20 = .ok (.if_icmp .eq 5, 3) := by decide +kernel
theorem dX3_readCommand_23 : decode cX3_readCommand 23 = .ok (.iconst 0, 1) := by decide +kernel
theorem dX3_readCommand_24 : decode cX3_readCommand 24 = .ok (.ireturn, 1) := by decide +kernel
theorem dX3_readCommand_25 : decode cX3_readCommand 25 = .ok (.aload_n 0, 1) := by decide +kernel
theorem dX3_readCommand_26 : decode cX3_readCommand 26 = .ok (.dup, 1) := by decide +kernel
theorem dX3_readCommand_27 : decode cX3_readCommand 27 = .ok (.getfield 32, 3) := by decide +kernel
theorem dX3_readCommand_30 : decode cX3_readCommand 30 = .ok (.iconst 1, 1) := by decide +kernel
theorem dX3_readCommand_31 : decode cX3_readCommand 31 = .ok (.iadd, 1) := by decide +kernel
theorem dX3_readCommand_32 : decode cX3_readCommand 32 = .ok (.putfield 32, 3) := by decide +kernel
theorem dX3_readCommand_35 : decode cX3_readCommand 35 = .ok (.aload_n 0, 1) := by decide +kernel
theorem dX3_readCommand_36 : decode cX3_readCommand 36 = .ok (.invokevirtual 49, 3) := by decide +kernel
theorem dX3_readCommand_39 : decode cX3_readCommand 39 = .ok (.istore_n 2, 1) := by decide +kernel
theorem dX3_readCommand_40 : decode cX3_readCommand 40 = .ok (.iload_n 2, 1) := by decide +kernel
theorem dX3_readCommand_41 : decode cX3_readCommand 41 = .ok (.bipush (-9), 2) := by decide +kernel
theorem dX3_readCommand_43 : decode cX3_readCommand 43 = .ok (.if_icmp .ne 5, 3) := by decide +kernel
theorem dX3_readCommand_46 : decode cX3_readCommand 46 = .ok (.iconst 0, 1) := by decide +kernel
theorem dX3_readCommand_47 : decode cX3_readCommand 47 = .ok (.ireturn, 1) := by decide +kernel
theorem dX3_readCommand_48 : decode cX3_readCommand 48 = .ok (.iconst 0, 1) := by decide +kernel
theorem dX3_readCommand_49 : decode cX3_readCommand 49 = .ok (.istore_n 3, 1) := by decide +kernel
theorem dX3_readCommand_50 : decode cX3_readCommand 50 = .ok (.iload_n 1, 1) := by decide +kernel
theorem dX3_readCommand_51 : decode cX3_readCommand 51 = .ok (.bipush 104, 2) := by decide +kernel
theorem dX3_readCommand_53 : decode cX3_readCommand 53 = .ok (.if_icmp .ne 22, 3) := by decide +kernel
theorem dX3_readCommand_56 : decode cX3_readCommand 56 = .ok (.aload_n 0, 1) := by decide +kernel
theorem dX3_readCommand_57 : decode cX3_readCommand 57 = .ok (.bipush 44, 2) := by decide +kernel
theorem dX3_readCommand_59 : decode cX3_readCommand 59 = .ok (.invokevirtual 52, 3) := by decide +kernel
theorem dX3_readCommand_62 : decode cX3_readCommand 62 = .ok (.ifCond .eq 10, 3) := by decide +kernel
theorem dX3_readCommand_65 : decode cX3_readCommand 65 = .ok (.aload_n 0, 1) := by decide +kernel
theorem dX3_readCommand_66 : decode cX3_readCommand 66 = .ok (.invokevirtual 49, 3) := by decide +kernel
theorem dX3_readCommand_69 : decode cX3_readCommand 69 = .ok (.goto 5, 3) := by decide +kernel
theorem dX3_readCommand_72 : decode cX3_readCommand 72 = .ok (.bipush (-9), 2) := by decide +kernel
theorem dX3_readCommand_74 : decode cX3_readCommand 74 = .ok (.istore_n 3, 1) := by decide +kernel
theorem dX3_readCommand_75 : decode cX3_readCommand 75 = .ok (.iload_n 3, 1) := by decide +kernel
theorem dX3_readCommand_76 : decode cX3_readCommand 76 = .ok (.bipush (-9), 2) := by decide +kernel
theorem dX3_readCommand_78 : decode cX3_readCommand 78 = .ok (.if_icmp .eq 12, 3) := by decide +kernel
theorem dX3_readCommand_81 : decode cX3_readCommand 81 = .ok (.aload_n 0, 1) := by decide +kernel
theorem dX3_readCommand_82 : decode cX3_readCommand 82 = .ok (.bipush 59, 2) := by decide +kernel
theorem dX3_readCommand_84 : decode cX3_readCommand 84 = .ok (.invokevirtual 52, 3) := by decide +kernel
theorem dX3_readCommand_87 : decode cX3_readCommand 87 = .ok (.ifCond .ne 5, 3) := by decide +kernel
theorem dX3_readCommand_90 : decode cX3_readCommand 90 = .ok (.iconst 0, 1) := by decide +kernel
theorem dX3_readCommand_91 : decode cX3_readCommand 91 = .ok (.ireturn, 1) := by decide +kernel
theorem dX3_readCommand_92 : decode cX3_readCommand 92 = .ok (.aload_n 0, 1) := by decide +kernel
theorem dX3_readCommand_93 : decode cX3_readCommand 93 = .ok (.iload_n 1, 1) := by decide +kernel
theorem dX3_readCommand_94 : decode cX3_readCommand 94 = .ok (.iload_n 2, 1) := by decide +kernel
theorem dX3_readCommand_95 : decode cX3_readCommand 95 = .ok (.iload_n 3, 1) := by decide +kernel
theorem dX3_readCommand_96 : decode cX3_readCommand 96 = .ok (.invokevirtual 56, 3) := by decide +kernel
theorem dX3_readCommand_99 : decode cX3_readCommand 99 = .ok (.ireturn, 1) := by decide +kernel
theorem dX3_readNumber_0 : decode cX3_readNumber 0 = .ok (.aload_n 0, 1) := by decide +kernel
theorem dX3_readNumber_1 : decode cX3_readNumber 1 = .ok (.invokevirtual 38, 3) := by decide +kernel
theorem dX3_readNumber_4 : decode cX3_readNumber 4 = .ok (.aload_n 0, 1) := by decide +kernel
theorem dX3_readNumber_5 : decode cX3_readNumber 5 = .ok (.invokevirtual 59, 3) := by decide +kernel
theorem dX3_readNumber_8 : decode cX3_readNumber 8 = .ok (.istore_n 1, 1) := by decide +kernel
theorem dX3_readNumber_9 : decode cX3_readNumber 9 = .ok (.iload_n 1, 1) := by decide +kernel
theorem dX3_readNumber_10 : decode cX3_readNumber 10 = .ok (.bipush (-9), 2) := by decide +kernel
theorem dX3_readNumber_12 : decode cX3_readNumber 12 = .ok (.if_icmp .ne 6, 3) := by decide +kernel
theorem dX3_readNumber_15 : decode cX3_readNumber 15 = .ok (.bipush (-9), 2) := by decide +kernel
theorem dX3_readNumber_17 : decode cX3_readNumber 17 = .ok (.ireturn, 1) := by decide +kernel
theorem dX3_readNumber_18 : decode cX3_readNumber 18 = .ok (.aload_n 0, 1) := by decide +kernel
theorem dX3_readNumber_19 : decode cX3_readNumber 19 = .ok (.dup, 1) := by decide +kernel
theorem dX3_readNumber_20 : decode cX3_readNumber 20 = .ok (.getfield 32, 3) := by decide +kernel
theorem dX3_readNumber_23 : decode cX3_readNumber 23 = .ok (.iconst 1, 1) := by decide +kernel
theorem dX3_readNumber_24 : decode cX3_readNumber 24 = .ok (.iadd, 1) := by decide +kernel
theorem dX3_readNumber_25 : decode cX3_readNumber 25 = .ok (.putfield 32, 3) := by decide +kernel
theorem dX3_readNumber_28 : decode cX3_readNumber 28 = .ok (.aload_n 0, 1) := by decide +kernel
theorem dX3_readNumber_29 : decode cX3_readNumber 29 = .ok (.invokevirtual 59, 3) := by decide +kernel
theorem dX3_readNumber_32 : decode cX3_readNumber 32 = .ok (.istore_n 2, 1) := by decide +kernel
theorem dX3_readNumber_33 : decode cX3_readNumber 33 = .ok (.iload_n 1, 1) := by decide +kernel
theorem dX3_readNumber_34 : decode cX3_readNumber 34 = .ok (.ifCond .eq 9, 3) := by decide +kernel
theorem dX3_readNumber_37 : decode cX3_readNumber 37 = .ok (.iload_n 2, 1) := by decide +kernel
theorem dX3_readNumber_38 : decode cX3_readNumber 38 = .ok (.bipush (-9), 2) := by decide +kernel
theorem dX3_readNumber_40 : decode cX3_readNumber 40 = .ok (.if_icmp .ne 5, 3) := by decide +kernel
theorem dX3_readNumber_43 : decode cX3_readNumber 43 = .ok (.iload_n 1, 1) := by decide +kernel
theorem dX3_readNumber_44 : decode cX3_readNumber 44 = .ok (.ireturn, 1) := by decide +kernel
theorem dX3_readNumber_45 : decode cX3_readNumber 45 = .ok (.aload_n 0, 1) := by decide +kernel
theorem dX3_readNumber_46 : decode cX3_readNumber 46 = .ok (.dup, 1) := by decide +kernel
theorem dX3_readNumber_47 : decode cX3_readNumber 47 = .ok (.getfield 32, 3) := by decide +kernel
theorem dX3_readNumber_50 : decode cX3_readNumber 50 = .ok (.iconst 1, 1) := by decide +kernel
theorem dX3_readNumber_51 : decode cX3_readNumber 51 = .ok (.iadd, 1) := by decide +kernel
theorem dX3_readNumber_52 : decode cX3_readNumber 52 = .ok (.putfield 32, 3) := by decide +kernel
theorem dX3_readNumber_55 : decode cX3_readNumber 55 = .ok (.iload_n 1, 1) := by decide +kernel
theorem dX3_readNumber_56 : decode cX3_readNumber 56 = .ok (.bipush 10, 2) := by decide +kernel
theorem dX3_readNumber_58 : decode cX3_readNumber 58 = .ok (.imul, 1) := by decide +kernel
theorem dX3_readNumber_59 : decode cX3_readNumber 59 = .ok (.iload_n 2, 1) := by decide +kernel
theorem dX3_readNumber_60 : decode cX3_readNumber 60 = .ok (.iadd, 1) := by decide +kernel
theorem dX3_readNumber_61 : decode cX3_readNumber 61 = .ok (.ireturn, 1) := by decide +kernel
theorem dX3_readSign_0 : decode cX3_readSign 0 = .ok (.aload_n 0, 1) := by decide +kernel
theorem dX3_readSign_1 : decode cX3_readSign 1 = .ok (.invokevirtual 38, 3) := by decide +kernel
theorem dX3_readSign_4 : decode cX3_readSign 4 = .ok (.aload_n 0, 1) := by decide +kernel
theorem dX3_readSign_5 : decode cX3_readSign 5 = .ok (.invokevirtual 45, 3) := by decide +kernel
theorem dX3_readSign_8 : decode cX3_readSign 8 = .ok (.iload_n 1, 1) := by decide +kernel
theorem dX3_readSign_9 : decode cX3_readSign 9 = .ok (.if_icmp .eq 5, 3) := by decide +kernel
theorem dX3_readSign_12 : decode cX3_readSign 12 = .ok (.iconst 0, 1) := by decide +kernel
theorem dX3_readSign_13 : decode cX3_readSign 13 = .ok (.ireturn, 1) := by decide +kernel
theorem dX3_readSign_14 : decode cX3_readSign 14 = .ok (.aload_n 0, 1) := by decide +kernel
theorem dX3_readSign_15 : decode cX3_readSign 15 = .ok (.dup, 1) := by decide +kernel
theorem dX3_readSign_16 : decode cX3_readSign 16 = .ok (.getfield 32, 3) := by decide +kernel
theorem dX3_readSign_19 : decode cX3_readSign 19 = .ok (.iconst 1, 1) := by decide +kernel
theorem dX3_readSign_20 : decode cX3_readSign 20 = .ok (.iadd, 1) := by decide +kernel
theorem dX3_readSign_21 : decode cX3_readSign 21 = .ok (.putfield 32, 3) := by decide +kernel
theorem dX3_readSign_24 : decode cX3_readSign 24 = .ok (.iconst 1, 1) := by decide +kernel
theorem dX3_readSign_25 : decode cX3_readSign 25 = .ok (.ireturn, 1) := by decide +kernel
theorem dX3_keep_0 : decode cX3_keep 0 = .ok (.aload_n 0, 1) := by decide +kernel
theorem dX3_keep_1 : decode cX3_keep 1 = .ok (.getfield 35, 3) := by decide +kernel
theorem dX3_keep_4 : decode cX3_keep 4 = .ok (.iconst 0, 1) := by decide +kernel
theorem dX3_keep_5 : decode cX3_keep 5 = .ok (.bipush 32, 2) := by decide +kernel
theorem dX3_keep_7 : decode cX3_keep 7 = .ok (.invokestatic 28, 3) := by decide +kernel
theorem dX3_keep_10 : decode cX3_keep 10 = .ok (.ifCond .ne 5, 3) := by decide +kernel
theorem dX3_keep_13 : decode cX3_keep 13 = .ok (.iconst 0, 1) := by decide +kernel
theorem dX3_keep_14 : decode cX3_keep 14 = .ok (.ireturn, 1) := by decide +kernel
theorem dX3_keep_15 : decode cX3_keep 15 = .ok (.aload_n 0, 1) := by decide +kernel
theorem dX3_keep_16 : decode cX3_keep 16 = .ok (.getfield 9, 3) := by decide +kernel
theorem dX3_keep_19 : decode cX3_keep 19 = .ok (.aload_n 0, 1) := by decide +kernel
theorem dX3_keep_20 : decode cX3_keep 20 = .ok (.getfield 35, 3) := by decide +kernel
theorem dX3_keep_23 : decode cX3_keep 23 = .ok (.iload_n 1, 1) := by decide +kernel
theorem dX3_keep_24 : decode cX3_keep 24 = .ok (.iastore, 1) := by decide +kernel
theorem dX3_keep_25 : decode cX3_keep 25 = .ok (.aload_n 0, 1) := by decide +kernel
theorem dX3_keep_26 : decode cX3_keep 26 = .ok (.getfield 15, 3) := by decide +kernel
theorem dX3_keep_29 : decode cX3_keep 29 = .ok (.aload_n 0, 1) := by decide +kernel
theorem dX3_keep_30 : decode cX3_keep 30 = .ok (.getfield 35, 3) := by decide +kernel
theorem dX3_keep_33 : decode cX3_keep 33 = .ok (.iload_n 2, 1) := by decide +kernel
theorem dX3_keep_34 : decode cX3_keep 34 = .ok (.iastore, 1) := by decide +kernel
theorem dX3_keep_35 : decode cX3_keep 35 = .ok (.aload_n 0, 1) := by decide +kernel
theorem dX3_keep_36 : decode cX3_keep 36 = .ok (.getfield 18, 3) := by decide +kernel
theorem dX3_keep_39 : decode cX3_keep 39 = .ok (.aload_n 0, 1) := by decide +kernel
theorem dX3_keep_40 : decode cX3_keep 40 = .ok (.getfield 35, 3) := by decide +kernel
theorem dX3_keep_43 : decode cX3_keep 43 = .ok (.iload_n 3, 1) := by decide +kernel
theorem dX3_keep_44 : decode cX3_keep 44 = .ok (.iastore, 1) := by decide +kernel
theorem dX3_keep_45 : decode cX3_keep 45 = .ok (.aload_n 0, 1) := by decide +kernel
theorem dX3_keep_46 : decode cX3_keep 46 = .ok (.dup, 1) := by decide +kernel
theorem dX3_keep_47 : decode cX3_keep 47 = .ok (.getfield 35, 3) := by decide +kernel
theorem dX3_keep_50 : decode cX3_keep 50 = .ok (.iconst 1, 1) := by decide +kernel
theorem dX3_keep_51 : decode cX3_keep 51 = .ok (.iadd, 1) := by decide +kernel
theorem dX3_keep_52 : decode cX3_keep 52 = .ok (.putfield 35, 3) := by decide +kernel
theorem dX3_keep_55 : decode cX3_keep 55 = .ok (.iconst 1, 1) := by decide +kernel
theorem dX3_keep_56 : decode cX3_keep 56 = .ok (.ireturn, 1) := by decide +kernel
theorem dX3_skipSpaces_0 : decode cX3_skipSpaces 0 = .ok (.iconst 0, 1) := by decide +kernel
theorem dX3_skipSpaces_1 : decode cX3_skipSpaces 1 = .ok (.istore_n 1, 1) := by decide +kernel
theorem dX3_skipSpaces_2 : decode cX3_skipSpaces 2 = .ok (.iload_n 1, 1) := by decide +kernel
theorem dX3_skipSpaces_3 : decode cX3_skipSpaces 3 = .ok (.bipush 100, 2) := by decide +kernel
theorem dX3_skipSpaces_5 : decode cX3_skipSpaces 5 = .ok (.if_icmp .ge 28, 3) := by decide +kernel
theorem dX3_skipSpaces_8 : decode cX3_skipSpaces 8 = .ok (.aload_n 0, 1) := by decide +kernel
theorem dX3_skipSpaces_9 : decode cX3_skipSpaces 9 = .ok (.invokevirtual 45, 3) := by decide +kernel
theorem dX3_skipSpaces_12 : decode cX3_skipSpaces 12 = .ok (.bipush 32, 2) := by decide +kernel
theorem dX3_skipSpaces_14 : decode cX3_skipSpaces 14 = .ok (.if_icmp .ne 19, 3) := by decide +kernel
theorem dX3_skipSpaces_17 : decode cX3_skipSpaces 17 = .ok (.aload_n 0, 1) := by decide +kernel
theorem dX3_skipSpaces_18 : decode cX3_skipSpaces 18 = .ok (.dup, 1) := by decide +kernel
theorem dX3_skipSpaces_19 : decode cX3_skipSpaces 19 = .ok (.getfield 32, 3) := by decide +kernel
theorem dX3_skipSpaces_22 : decode cX3_skipSpaces 22 = .ok (.iconst 1, 1) := by decide +kernel
theorem dX3_skipSpaces_23 : decode cX3_skipSpaces 23 = .ok (.iadd, 1) := by decide +kernel
theorem dX3_skipSpaces_24 : decode cX3_skipSpaces 24 = .ok (.putfield 32, 3) := by decide +kernel
theorem dX3_skipSpaces_27 : decode cX3_skipSpaces 27 = .ok (.iinc 1 1, 3) := by decide +kernel
theorem dX3_skipSpaces_30 : decode cX3_skipSpaces 30 = .ok (.goto (-28), 3) := by decide +kernel
theorem dX3_skipSpaces_33 : decode cX3_skipSpaces 33 = .ok (.return_, 1) := by decide +kernel
theorem dX3_digit_0 : decode cX3_digit 0 = .ok (.aload_n 0, 1) := by decide +kernel
theorem dX3_digit_1 : decode cX3_digit 1 = .ok (.invokevirtual 45, 3) := by decide +kernel
theorem dX3_digit_4 : decode cX3_digit 4 = .ok (.istore_n 1, 1) := by decide +kernel
theorem dX3_digit_5 : decode cX3_digit 5 = .ok (.iload_n 1, 1) := by decide +kernel
theorem dX3_digit_6 : decode cX3_digit 6 = .ok (.bipush 48, 2) := by decide +kernel
theorem dX3_digit_8 : decode cX3_digit 8 = .ok (.bipush 57, 2) := by decide +kernel
theorem dX3_digit_10 : decode cX3_digit 10 = .ok (.invokestatic 28, 3) := by decide +kernel
theorem dX3_digit_13 : decode cX3_digit 13 = .ok (.ifCond .eq 10, 3) := by decide +kernel
theorem dX3_digit_16 : decode cX3_digit 16 = .ok (.iload_n 1, 1) := by decide +kernel
theorem dX3_digit_17 : decode cX3_digit 17 = .ok (.bipush 48, 2) := by decide +kernel
theorem dX3_digit_19 : decode cX3_digit 19 = .ok (.isub, 1) := by decide +kernel
theorem dX3_digit_20 : decode cX3_digit 20 = .ok (.goto 5, 3) := by decide +kernel
theorem dX3_digit_23 : decode cX3_digit 23 = .ok (.bipush (-9), 2) := by decide +kernel
theorem dX3_digit_25 : decode cX3_digit 25 = .ok (.ireturn, 1) := by decide +kernel
theorem dX3_character_0 : decode cX3_character 0 = .ok (.aload_n 0, 1) := by decide +kernel
theorem dX3_character_1 : decode cX3_character 1 = .ok (.getfield 32, 3) := by decide +kernel
theorem dX3_character_4 : decode cX3_character 4 = .ok (.ifCond .lt 27, 3) := by decide +kernel
theorem dX3_character_7 : decode cX3_character 7 = .ok (.aload_n 0, 1) := by decide +kernel
theorem dX3_character_8 : decode cX3_character 8 = .ok (.getfield 32, 3) := by decide +kernel
theorem dX3_character_11 : decode cX3_character 11 = .ok (.aload_n 0, 1) := by decide +kernel
theorem dX3_character_12 : decode cX3_character 12 = .ok (.getfield 24, 3) := by decide +kernel
theorem dX3_character_15 : decode cX3_character 15 = .ok (.if_icmp .ge 16, 3) := by decide +kernel
theorem dX3_character_18 : decode cX3_character 18 = .ok (.aload_n 0, 1) := by decide +kernel
theorem dX3_character_19 : decode cX3_character 19 = .ok (.getfield 32, 3) := by decide +kernel
theorem dX3_character_22 : decode cX3_character 22 = .ok (.bipush 100, 2) := by decide +kernel
theorem dX3_character_24 : decode cX3_character 24 = .ok (.if_icmp .ge 7, 3) := by decide +kernel
theorem dX3_character_27 : decode cX3_character 27 = .ok (.iconst 1, 1) := by decide +kernel
theorem dX3_character_28 : decode cX3_character 28 = .ok (.goto 4, 3) := by decide +kernel
theorem dX3_character_31 : decode cX3_character 31 = .ok (.iconst 0, 1) := by decide +kernel
theorem dX3_character_32 : decode cX3_character 32 = .ok (.istore_n 1, 1) := by decide +kernel
theorem dX3_character_33 : decode cX3_character 33 = .ok (.iload_n 1, 1) := by decide +kernel
theorem dX3_character_34 : decode cX3_character 34 = .ok (.ifCond .eq 15, 3) := by decide +kernel
theorem dX3_character_37 : decode cX3_character 37 = .ok (.aload_n 0, 1) := by decide +kernel
theorem dX3_character_38 : decode cX3_character 38 = .ok (.getfield 21, 3) := by decide +kernel
theorem dX3_character_41 : decode cX3_character 41 = .ok (.aload_n 0, 1) := by decide +kernel
theorem dX3_character_42 : decode cX3_character 42 = .ok (.getfield 32, 3) := by decide +kernel
theorem dX3_character_45 : decode cX3_character 45 = .ok (.iaload, 1) := by decide +kernel
theorem dX3_character_46 : decode cX3_character 46 = .ok (.goto 5, 3) := by decide +kernel
theorem dX3_character_49 : decode cX3_character 49 = .ok (.bipush (-9), 2) := by decide +kernel
theorem dX3_character_51 : decode cX3_character 51 = .ok (.ireturn, 1) := by decide +kernel
theorem dX4_init_0 : decode cX4_init 0 = .ok (.aload_n 0, 1) := by decide +kernel
theorem dX4_init_1 : decode cX4_init 1 = .ok (.invokespecial 3, 3) := by decide +kernel
theorem dX4_init_4 : decode cX4_init 4 = .ok (.new 9, 3) := by decide +kernel
theorem dX4_init_7 : decode cX4_init 7 = .ok (.dup, 1) := by decide +kernel
theorem dX4_init_8 : decode cX4_init 8 = .ok (.iconst 3, 1) := by decide +kernel
theorem dX4_init_9 : decode cX4_init 9 = .ok (.iconst 4, 1) := by decide +kernel
theorem dX4_init_10 : decode cX4_init 10 = .ok (.iconst 2, 1) := by decide +kernel
theorem dX4_init_11 : decode cX4_init 11 = .ok (.iconst 2, 1) := by decide +kernel
theorem dX4_init_12 : decode cX4_init 12 = .ok (.invokespecial 11, 3) := by decide +kernel
theorem dX4_init_15 : decode cX4_init 15 = .ok (.astore_n 1, 1) := by decide +kernel
theorem dX4_init_16 : decode cX4_init 16 = .ok (.aload_n 0, 1) := by decide +kernel
theorem dX4_init_17 : decode cX4_init 17 = .ok (.new 14, 3) := by decide +kernel
theorem dX4_init_20 : decode cX4_init 20 = .ok (.dup, 1) := by decide +kernel
theorem dX4_init_21 : decode cX4_init 21 = .ok (.aload_n 1, 1) := by decide +kernel
theorem dX4_init_22 : decode cX4_init 22 = .ok (.invokespecial 16, 3) := by decide +kernel
theorem dX4_init_25 : decode cX4_init 25 = .ok (.putfield 19, 3) := by decide +kernel
theorem dX4_init_28 : decode cX4_init 28 = .ok (.aload_n 0, 1) := by decide +kernel
theorem dX4_init_29 : decode cX4_init 29 = .ok (.new 23, 3) := by decide +kernel
theorem dX4_init_32 : decode cX4_init 32 = .ok (.dup, 1) := by decide +kernel
theorem dX4_init_33 : decode cX4_init 33 = .ok (.aload_n 1, 1) := by decide +kernel
theorem dX4_init_34 : decode cX4_init 34 = .ok (.invokespecial 25, 3) := by decide +kernel
theorem dX4_init_37 : decode cX4_init 37 = .ok (.putfield 26, 3) := by decide +kernel
theorem dX4_init_40 : decode cX4_init 40 = .ok (.aload_n 0, 1) := by decide +kernel
theorem dX4_init_41 : decode cX4_init 41 = .ok (.iconst 2, 1) := by decide +kernel
theorem dX4_init_42 : decode cX4_init 42 = .ok (.anewarray 14, 3) := by decide +kernel
theorem dX4_init_45 : decode cX4_init 45 = .ok (.putfield 30, 3) := by decide +kernel
theorem dX4_init_48 : decode cX4_init 48 = .ok (.aload_n 0, 1) := by decide +kernel
theorem dX4_init_49 : decode cX4_init 49 = .ok (.new 34, 3) := by decide +kernel
theorem dX4_init_52 : decode cX4_init 52 = .ok (.dup, 1) := by decide +kernel
theorem dX4_init_53 : decode cX4_init 53 = .ok (.invokespecial 36, 3) := by decide +kernel
theorem dX4_init_56 : decode cX4_init 56 = .ok (.putfield 37, 3) := by decide +kernel
theorem dX4_init_59 : decode cX4_init 59 = .ok (.return_, 1) := by decide +kernel
theorem dX4_configure_0 : decode cX4_configure 0 = .ok (.iload_n 1, 1) := by decide +kernel
theorem dX4_configure_1 : decode cX4_configure 1 = .ok (.iconst 1, 1) := by decide +kernel
theorem dX4_configure_2 : decode cX4_configure 2 = .ok (.iconst 5, 1) := by decide +kernel
theorem dX4_configure_3 : decode cX4_configure 3 = .ok (.invokestatic 41, 3) := by decide +kernel
theorem dX4_configure_6 : decode cX4_configure 6 = .ok (.ifCond .eq 35, 3) := by decide +kernel
theorem dX4_configure_9 : decode cX4_configure 9 = .ok (.iload_n 2, 1) := by decide +kernel
theorem dX4_configure_10 : decode cX4_configure 10 = .ok (.iconst 1, 1) := by decide +kernel
theorem dX4_configure_11 : decode cX4_configure 11 = .ok (.iconst 5, 1) := by decide +kernel
theorem dX4_configure_12 : decode cX4_configure 12 = .ok (.invokestatic 41, 3) := by decide +kernel
theorem dX4_configure_15 : decode cX4_configure 15 = .ok (.ifCond .eq 26, 3) := by decide +kernel
theorem dX4_configure_18 : decode cX4_configure 18 = .ok (.iload_n 3, 1) := by decide +kernel
theorem dX4_configure_19 : decode cX4_configure 19 = .ok (.iconst 2, 1) := by decide +kernel
theorem dX4_configure_20 : decode cX4_configure 20 = .ok (.iconst 3, 1) := by decide +kernel
theorem dX4_configure_21 : decode cX4_configure 21 = .ok (.invokestatic 41, 3) := by decide +kernel
theorem dX4_configure_24 : decode cX4_configure 24 = .ok (.ifCond .eq 17, 3) := by decide +kernel
theorem dX4_configure_27 : decode cX4_configure 27 = .ok (.iload 4, 2) := by decide +kernel
theorem dX4_configure_29 : decode cX4_configure 29 = .ok (.iconst 1, 1) := by decide +kernel
theorem dX4_configure_30 : decode cX4_configure 30 = .ok (.iconst 4, 1) := by decide +kernel
theorem dX4_configure_31 : decode cX4_configure 31 = .ok (.invokestatic 41, 3) := by decide +kernel
theorem dX4_configure_34 : decode cX4_configure 34 = .ok (.ifCond .eq 7, 3) := by decide +kernel
theorem dX4_configure_37 : decode cX4_configure 37 = .ok (.iconst 1, 1) := by decide +kernel
theorem dX4_configure_38 : decode cX4_configure 38 = .ok (.goto 4, 3) := by decide +kernel
theorem dX4_configure_41 : decode cX4_configure 41 = .ok (.iconst 0, 1) := by decide +kernel
theorem dX4_configure_42 : decode cX4_configure 42 = .ok (.istore 5, 2) := by decide +kernel
theorem dX4_configure_44 : decode cX4_configure 44 = .ok (.iload 5, 2) := by decide +kernel
theorem dX4_configure_46 : decode cX4_configure 46 = .ok (.ifCond .ne 5, 3) := by decide +kernel
theorem dX4_configure_49 : decode cX4_configure 49 = .ok (.iconst (-1), 1) := by decide +kernel
theorem dX4_configure_50 : decode cX4_configure 50 = .ok (.ireturn, 1) := by decide +kernel
theorem dX4_configure_51 : decode cX4_configure 51 = .ok (.aload_n 0, 1) := by decide +kernel
theorem dX4_configure_52 : decode cX4_configure 52 = .ok (.getfield 26, 3) := by decide +kernel
theorem dX4_configure_55 : decode cX4_configure 55 = .ok (.aload_n 0, 1) := by decide +kernel
theorem dX4_configure_56 : decode cX4_configure 56 = .ok (.getfield 19, 3) := by decide +kernel
theorem dX4_configure_59 : decode cX4_configure 59 = .ok (.invokevirtual 45, 3) := by decide +kernel
theorem dX4_configure_62 : decode cX4_configure 62 = .ok (.aload_n 0, 1) := by decide +kernel
theorem dX4_configure_63 : decode cX4_configure 63 = .ok (.getfield 19, 3) := by decide +kernel
theorem dX4_configure_66 : decode cX4_configure 66 = .ok (.new 9, 3) := by decide +kernel
theorem dX4_configure_69 : decode cX4_configure 69 = .ok (.dup, 1) := by decide +kernel
theorem dX4_configure_70 : decode cX4_configure 70 = .ok (.iload_n 1, 1) := by decide +kernel
theorem dX4_configure_71 : decode cX4_configure 71 = .ok (.iload_n 2, 1) := by decide +kernel
theorem dX4_configure_72 : decode cX4_configure 72 = .ok (.iload_n 3, 1) := by decide +kernel
theorem dX4_configure_73 : decode cX4_configure 73 = .ok (.iload 4, 2) := by decide +kernel
theorem dX4_configure_75 : decode cX4_configure 75 = .ok (.invokespecial 11, 3) := by decide +kernel
theorem dX4_configure_78 : decode cX4_configure 78 = .ok (.invokevirtual 49, 3) := by decide +kernel
theorem dX4_configure_81 : decode cX4_configure 81 = .ok (.aload_n 0, 1) := by decide +kernel
theorem dX4_configure_82 : decode cX4_configure 82 = .ok (.getfield 19, 3) := by decide +kernel
theorem dX4_configure_85 : decode cX4_configure 85 = .ok (.getfield 52, 3) := by decide +kernel
theorem dX4_configure_88 : decode cX4_configure 88 = .ok (.getfield 56, 3) := by decide +kernel
theorem dX4_configure_91 : decode cX4_configure 91 = .ok (.ireturn, 1) := by decide +kernel
theorem dX4_setStrategy_0 : decode cX4_setStrategy 0 = .ok (.iload_n 1, 1) := by decide +kernel
theorem dX4_setStrategy_1 : decode cX4_setStrategy 1 = .ok (.iconst 0, 1) := by decide +kernel
theorem dX4_setStrategy_2 : decode cX4_setStrategy 2 = .ok (.iconst 2, 1) := by decide +kernel
theorem dX4_setStrategy_3 : decode cX4_setStrategy 3 = .ok (.invokestatic 41, 3) := by decide +kernel
theorem dX4_setStrategy_6 : decode cX4_setStrategy 6 = .ok (.ifCond .ne 5, 3) := by decide +kernel
theorem dX4_setStrategy_9 : decode cX4_setStrategy 9 = .ok (.iconst (-1), 1) := by decide +kernel
theorem dX4_setStrategy_10 : decode cX4_setStrategy 10 = .ok (.ireturn, 1) := by decide +kernel
theorem dX4_setStrategy_11 : decode cX4_setStrategy 11 = .ok (.aload_n 0, 1) := by decide +kernel
theorem dX4_setStrategy_12 : decode cX4_setStrategy 12 = .ok (.getfield 26, 3) := by decide +kernel
theorem dX4_setStrategy_15 : decode cX4_setStrategy 15 = .ok (.aload_n 0, 1) := by decide +kernel
theorem dX4_setStrategy_16 : decode cX4_setStrategy 16 = .ok (.getfield 19, 3) := by decide +kernel
theorem dX4_setStrategy_19 : decode cX4_setStrategy 19 = .ok (.invokevirtual 45, 3) := by decide +kernel
theorem dX4_setStrategy_22 : decode cX4_setStrategy 22 = .ok (.aload_n 0, 1) := by decide +kernel
theorem dX4_setStrategy_23 : decode cX4_setStrategy 23 = .ok (.getfield 19, 3) := by decide +kernel
theorem dX4_setStrategy_26 : decode cX4_setStrategy 26 = .ok (.getfield 60, 3) := by decide +kernel
theorem dX4_setStrategy_29 : decode cX4_setStrategy 29 = .ok (.istore_n 2, 1) := by decide +kernel
theorem dX4_setStrategy_30 : decode cX4_setStrategy 30 = .ok (.aload_n 0, 1) := by decide +kernel
theorem dX4_setStrategy_31 : decode cX4_setStrategy 31 = .ok (.getfield 19, 3) := by decide +kernel
theorem dX4_setStrategy_34 : decode cX4_setStrategy 34 = .ok (.iload_n 1, 1) := by decide +kernel
theorem dX4_setStrategy_35 : decode cX4_setStrategy 35 = .ok (.putfield 60, 3) := by decide +kernel
theorem dX4_setStrategy_38 : decode cX4_setStrategy 38 = .ok (.iload_n 2, 1) := by decide +kernel
theorem dX4_setStrategy_39 : decode cX4_setStrategy 39 = .ok (.ireturn, 1) := by decide +kernel
theorem dX4_setReserve_0 : decode cX4_setReserve 0 = .ok (.iload_n 1, 1) := by decide +kernel
theorem dX4_setReserve_1 : decode cX4_setReserve 1 = .ok (.iconst 0, 1) := by decide +kernel
theorem dX4_setReserve_2 : decode cX4_setReserve 2 = .ok (.iconst 3, 1) := by decide +kernel
theorem dX4_setReserve_3 : decode cX4_setReserve 3 = .ok (.invokestatic 41, 3) := by decide +kernel
theorem dX4_setReserve_6 : decode cX4_setReserve 6 = .ok (.ifCond .ne 5, 3) := by decide +kernel
theorem dX4_setReserve_9 : decode cX4_setReserve 9 = .ok (.iconst (-1), 1) := by decide +kernel
theorem dX4_setReserve_10 : decode cX4_setReserve 10 = .ok (.ireturn, 1) := by decide +kernel
theorem dX4_setReserve_11 : decode cX4_setReserve 11 = .ok (.aload_n 0, 1) := by decide +kernel
theorem dX4_setReserve_12 : decode cX4_setReserve 12 = .ok (.getfield 26, 3) := by decide +kernel
theorem dX4_setReserve_15 : decode cX4_setReserve 15 = .ok (.aload_n 0, 1) := by decide +kernel
theorem dX4_setReserve_16 : decode cX4_setReserve 16 = .ok (.getfield 19, 3) := by decide +kernel
theorem dX4_setReserve_19 : decode cX4_setReserve 19 = .ok (.invokevirtual 45, 3) := by decide +kernel
theorem dX4_setReserve_22 : decode cX4_setReserve 22 = .ok (.aload_n 0, 1) := by decide +kernel
theorem dX4_setReserve_23 : decode cX4_setReserve 23 = .ok (.getfield 19, 3) := by decide +kernel
theorem dX4_setReserve_26 : decode cX4_setReserve 26 = .ok (.getfield 63, 3) := by decide +kernel
theorem dX4_setReserve_29 : decode cX4_setReserve 29 = .ok (.istore_n 2, 1) := by decide +kernel
theorem dX4_setReserve_30 : decode cX4_setReserve 30 = .ok (.aload_n 0, 1) := by decide +kernel
theorem dX4_setReserve_31 : decode cX4_setReserve 31 = .ok (.getfield 19, 3) := by decide +kernel
theorem dX4_setReserve_34 : decode cX4_setReserve 34 = .ok (.iload_n 1, 1) := by decide +kernel
theorem dX4_setReserve_35 : decode cX4_setReserve 35 = .ok (.putfield 63, 3) := by decide +kernel
theorem dX4_setReserve_38 : decode cX4_setReserve 38 = .ok (.iload_n 2, 1) := by decide +kernel
theorem dX4_setReserve_39 : decode cX4_setReserve 39 = .ok (.ireturn, 1) := by decide +kernel
theorem dX4_setReturning_0 : decode cX4_setReturning 0 = .ok (.iload_n 1, 1) := by decide +kernel
theorem dX4_setReturning_1 : decode cX4_setReturning 1 = .ok (.iconst 0, 1) := by decide +kernel
theorem dX4_setReturning_2 : decode cX4_setReturning 2 = .ok (.iconst 1, 1) := by decide +kernel
theorem dX4_setReturning_3 : decode cX4_setReturning 3 = .ok (.invokestatic 41, 3) := by decide +kernel
theorem dX4_setReturning_6 : decode cX4_setReturning 6 = .ok (.ifCond .ne 5, 3) := by decide +kernel
theorem dX4_setReturning_9 : decode cX4_setReturning 9 = .ok (.iconst (-1), 1) := by decide +kernel
theorem dX4_setReturning_10 : decode cX4_setReturning 10 = .ok (.ireturn, 1) := by decide +kernel
theorem dX4_setReturning_11 : decode cX4_setReturning 11 = .ok (.aload_n 0, 1) := by decide +kernel
theorem dX4_setReturning_12 : decode cX4_setReturning 12 = .ok (.getfield 26, 3) := by decide +kernel
theorem dX4_setReturning_15 : decode cX4_setReturning 15 = .ok (.aload_n 0, 1) := by decide +kernel
theorem dX4_setReturning_16 : decode cX4_setReturning 16 = .ok (.getfield 19, 3) := by decide +kernel
theorem dX4_setReturning_19 : decode cX4_setReturning 19 = .ok (.invokevirtual 45, 3) := by decide +kernel
theorem dX4_setReturning_22 : decode cX4_setReturning 22 = .ok (.aload_n 0, 1) := by decide +kernel
theorem dX4_setReturning_23 : decode cX4_setReturning 23 = .ok (.getfield 19, 3) := by decide +kernel
theorem dX4_setReturning_26 : decode cX4_setReturning 26 = .ok (.iload_n 1, 1) := by decide +kernel
theorem dX4_setReturning_27 : decode cX4_setReturning 27 = .ok (.iconst 1, 1) := by decide +kernel
theorem dX4_setReturning_28 : decode cX4_setReturning 28 = .ok (.if_icmp .ne 7, 3) := by decide +kernel
theorem dX4_setReturning_31 : decode cX4_setReturning 31 = .ok (.iconst 1, 1) := by decide +kernel
theorem dX4_setReturning_32 : decode cX4_setReturning 32 = .ok (.goto 4, 3) := by decide +kernel
theorem dX4_setReturning_35 : decode cX4_setReturning 35 = .ok (.iconst 0, 1) := by decide +kernel
theorem dX4_setReturning_36 : decode cX4_setReturning 36 = .ok (.putfield 66, 3) := by decide +kernel
theorem dX4_setReturning_39 : decode cX4_setReturning 39 = .ok (.aload_n 0, 1) := by decide +kernel
theorem dX4_setReturning_40 : decode cX4_setReturning 40 = .ok (.getfield 19, 3) := by decide +kernel
theorem dX4_setReturning_43 : decode cX4_setReturning 43 = .ok (.invokevirtual 70, 3) := by decide +kernel
theorem dX4_setReturning_46 : decode cX4_setReturning 46 = .ok (.ireturn, 1) := by decide +kernel
theorem dX4_cellCount_0 : decode cX4_cellCount 0 = .ok (.aload_n 0, 1) := by decide +kernel
theorem dX4_cellCount_1 : decode cX4_cellCount 1 = .ok (.getfield 19, 3) := by decide +kernel
theorem dX4_cellCount_4 : decode cX4_cellCount 4 = .ok (.getfield 52, 3) := by decide +kernel
theorem dX4_cellCount_7 : decode cX4_cellCount 7 = .ok (.getfield 74, 3) := by decide +kernel
theorem dX4_cellCount_10 : decode cX4_cellCount 10 = .ok (.ireturn, 1) := by decide +kernel
theorem dX4_channelCount_0 : decode cX4_channelCount 0 = .ok (.aload_n 0, 1) := by decide +kernel
theorem dX4_channelCount_1 : decode cX4_channelCount 1 = .ok (.getfield 19, 3) := by decide +kernel
theorem dX4_channelCount_4 : decode cX4_channelCount 4 = .ok (.getfield 52, 3) := by decide +kernel
theorem dX4_channelCount_7 : decode cX4_channelCount 7 = .ok (.getfield 56, 3) := by decide +kernel
theorem dX4_channelCount_10 : decode cX4_channelCount 10 = .ok (.ireturn, 1) := by decide +kernel
theorem dX4_groupOf_0 : decode cX4_groupOf 0 = .ok (.aload_n 0, 1) := by decide +kernel
theorem dX4_groupOf_1 : decode cX4_groupOf 1 = .ok (.iload_n 1, 1) := by decide +kernel
theorem dX4_groupOf_2 : decode cX4_groupOf 2 = .ok (.invokevirtual 77, 3) := by decide +kernel
theorem dX4_groupOf_5 : decode cX4_groupOf 5 = .ok (.ifCond .eq 17, 3) := by decide +kernel
theorem dX4_groupOf_8 : decode cX4_groupOf 8 = .ok (.aload_n 0, 1) := by decide +kernel
theorem dX4_groupOf_9 : decode cX4_groupOf 9 = .ok (.getfield 19, 3) := by decide +kernel
theorem dX4_groupOf_12 : decode cX4_groupOf 12 = .ok (.getfield 52, 3) := by decide +kernel
theorem dX4_groupOf_15 : decode cX4_groupOf 15 = .ok (.iload_n 1, 1) := by decide +kernel
theorem dX4_groupOf_16 : decode cX4_groupOf 16 = .ok (.invokevirtual 81, 3) := by decide +kernel
theorem dX4_groupOf_19 : decode cX4_groupOf 19 = .ok (.goto 4, 3) := by decide +kernel
theorem dX4_groupOf_22 : decode cX4_groupOf 22 = .ok (.iconst (-1), 1) := by decide +kernel
theorem dX4_groupOf_23 : decode cX4_groupOf 23 = .ok (.ireturn, 1) := by decide +kernel
theorem dX4_distance_0 : decode cX4_distance 0 = .ok (.aload_n 0, 1) := by decide +kernel
theorem dX4_distance_1 : decode cX4_distance 1 = .ok (.iload_n 1, 1) := by decide +kernel
theorem dX4_distance_2 : decode cX4_distance 2 = .ok (.invokevirtual 77, 3) := by decide +kernel
theorem dX4_distance_5 : decode cX4_distance 5 = .ok (.ifCond .eq 26, 3) := by decide +kernel
theorem dX4_distance_8 : decode cX4_distance 8 = .ok (.aload_n 0, 1) := by decide +kernel
theorem dX4_distance_9 : decode cX4_distance 9 = .ok (.iload_n 2, 1) := by decide +kernel
theorem dX4_distance_10 : decode cX4_distance 10 = .ok (.invokevirtual 77, 3) := by decide +kernel
theorem dX4_distance_13 : decode cX4_distance 13 = .ok (.ifCond .eq 18, 3) := by decide +kernel
theorem dX4_distance_16 : decode cX4_distance 16 = .ok (.aload_n 0, 1) := by decide +kernel
theorem dX4_distance_17 : decode cX4_distance 17 = .ok (.getfield 19, 3) := by decide +kernel
theorem dX4_distance_20 : decode cX4_distance 20 = .ok (.getfield 52, 3) := by decide +kernel
theorem dX4_distance_23 : decode cX4_distance 23 = .ok (.iload_n 1, 1) := by decide +kernel
theorem dX4_distance_24 : decode cX4_distance 24 = .ok (.iload_n 2, 1) := by decide +kernel
theorem dX4_distance_25 : decode cX4_distance 25 = .ok (.invokevirtual 85, 3) := by decide +kernel
theorem dX4_distance_28 : decode cX4_distance 28 = .ok (.goto 4, 3) := by decide +kernel
theorem dX4_distance_31 : decode cX4_distance 31 = .ok (.iconst (-1), 1) := by decide +kernel
theorem dX4_distance_32 : decode cX4_distance 32 = .ok (.ireturn, 1) := by decide +kernel
theorem dX4_startCall_0 : decode cX4_startCall 0 = .ok (.aload_n 0, 1) := by decide +kernel
theorem dX4_startCall_1 : decode cX4_startCall 1 = .ok (.getfield 19, 3) := by decide +kernel
theorem dX4_startCall_4 : decode cX4_startCall 4 = .ok (.iload_n 1, 1) := by decide +kernel
theorem dX4_startCall_5 : decode cX4_startCall 5 = .ok (.invokevirtual 89, 3) := by decide +kernel
theorem dX4_startCall_8 : decode cX4_startCall 8 = .ok (.istore_n 2, 1) := by decide +kernel
theorem dX4_startCall_9 : decode cX4_startCall 9 = .ok (.iload_n 2, 1) := by decide +kernel
theorem dX4_startCall_10 : decode cX4_startCall 10 = .ok (.ifCond .eq 5, 3) := by decide +kernel
theorem dX4_startCall_13 : decode cX4_startCall 13 = .ok (.iload_n 2, 1) := by decide +kernel
theorem dX4_startCall_14 : decode cX4_startCall 14 = .ok (.ireturn, 1) := by decide +kernel
theorem dX4_startCall_15 : decode cX4_startCall 15 = .ok (.aload_n 0, 1) := by decide +kernel
theorem dX4_startCall_16 : decode cX4_startCall 16 = .ok (.getfield 26, 3) := by decide +kernel
theorem dX4_startCall_19 : decode cX4_startCall 19 = .ok (.aload_n 0, 1) := by decide +kernel
theorem dX4_startCall_20 : decode cX4_startCall 20 = .ok (.getfield 19, 3) := by decide +kernel
theorem dX4_startCall_23 : decode cX4_startCall 23 = .ok (.invokevirtual 45, 3) := by decide +kernel
theorem dX4_startCall_26 : decode cX4_startCall 26 = .ok (.aload_n 0, 1) := by decide +kernel
theorem dX4_startCall_27 : decode cX4_startCall 27 = .ok (.getfield 19, 3) := by decide +kernel
theorem dX4_startCall_30 : decode cX4_startCall 30 = .ok (.iload_n 1, 1) := by decide +kernel
theorem dX4_startCall_31 : decode cX4_startCall 31 = .ok (.invokevirtual 92, 3) := by decide +kernel
theorem dX4_startCall_34 : decode cX4_startCall 34 = .ok (.ireturn, 1) := by decide +kernel
theorem dX4_endCall_0 : decode cX4_endCall 0 = .ok (.aload_n 0, 1) := by decide +kernel
theorem dX4_endCall_1 : decode cX4_endCall 1 = .ok (.getfield 19, 3) := by decide +kernel
theorem dX4_endCall_4 : decode cX4_endCall 4 = .ok (.iload_n 1, 1) := by decide +kernel
theorem dX4_endCall_5 : decode cX4_endCall 5 = .ok (.invokevirtual 95, 3) := by decide +kernel
theorem dX4_endCall_8 : decode cX4_endCall 8 = .ok (.ifCond .ne 6, 3) := by decide +kernel
theorem dX4_endCall_11 : decode cX4_endCall 11 = .ok (.bipush (-4), 2) := by decide +kernel
theorem dX4_endCall_13 : decode cX4_endCall 13 = .ok (.ireturn, 1) := by decide +kernel
theorem dX4_endCall_14 : decode cX4_endCall 14 = .ok (.aload_n 0, 1) := by decide +kernel
theorem dX4_endCall_15 : decode cX4_endCall 15 = .ok (.getfield 26, 3) := by decide +kernel
theorem dX4_endCall_18 : decode cX4_endCall 18 = .ok (.aload_n 0, 1) := by decide +kernel
theorem dX4_endCall_19 : decode cX4_endCall 19 = .ok (.getfield 19, 3) := by decide +kernel
theorem dX4_endCall_22 : decode cX4_endCall 22 = .ok (.invokevirtual 45, 3) := by decide +kernel
theorem dX4_endCall_25 : decode cX4_endCall 25 = .ok (.aload_n 0, 1) := by decide +kernel
theorem dX4_endCall_26 : decode cX4_endCall 26 = .ok (.getfield 19, 3) := by decide +kernel
theorem dX4_endCall_29 : decode cX4_endCall 29 = .ok (.iload_n 1, 1) := by decide +kernel
theorem dX4_endCall_30 : decode cX4_endCall 30 = .ok (.invokevirtual 98, 3) := by decide +kernel
theorem dX4_endCall_33 : decode cX4_endCall 33 = .ok (.ireturn, 1) := by decide +kernel
theorem dX4_handOver_0 : decode cX4_handOver 0 = .ok (.aload_n 0, 1) := by decide +kernel
theorem dX4_handOver_1 : decode cX4_handOver 1 = .ok (.getfield 19, 3) := by decide +kernel
theorem dX4_handOver_4 : decode cX4_handOver 4 = .ok (.iload_n 1, 1) := by decide +kernel
theorem dX4_handOver_5 : decode cX4_handOver 5 = .ok (.iload_n 2, 1) := by decide +kernel
theorem dX4_handOver_6 : decode cX4_handOver 6 = .ok (.invokevirtual 101, 3) := by decide +kernel
theorem dX4_handOver_9 : decode cX4_handOver 9 = .ok (.istore_n 3, 1) := by decide +kernel
theorem dX4_handOver_10 : decode cX4_handOver 10 = .ok (.iload_n 3, 1) := by decide +kernel
theorem dX4_handOver_11 : decode cX4_handOver 11 = .ok (.ifCond .eq 5, 3) := by decide +kernel
theorem dX4_handOver_14 : decode cX4_handOver 14 = .ok (.iload_n 3, 1) := by decide +kernel
theorem dX4_handOver_15 : decode cX4_handOver 15 = .ok (.ireturn, 1) := by decide +kernel
theorem dX4_handOver_16 : decode cX4_handOver 16 = .ok (.aload_n 0, 1) := by decide +kernel
theorem dX4_handOver_17 : decode cX4_handOver 17 = .ok (.getfield 26, 3) := by decide +kernel
theorem dX4_handOver_20 : decode cX4_handOver 20 = .ok (.aload_n 0, 1) := by decide +kernel
theorem dX4_handOver_21 : decode cX4_handOver 21 = .ok (.getfield 19, 3) := by decide +kernel
theorem dX4_handOver_24 : decode cX4_handOver 24 = .ok (.invokevirtual 45, 3) := by decide +kernel
theorem dX4_handOver_27 : decode cX4_handOver 27 = .ok (.aload_n 0, 1) := by decide +kernel
theorem dX4_handOver_28 : decode cX4_handOver 28 = .ok (.getfield 19, 3) := by decide +kernel
theorem dX4_handOver_31 : decode cX4_handOver 31 = .ok (.iload_n 1, 1) := by decide +kernel
theorem dX4_handOver_32 : decode cX4_handOver 32 = .ok (.iload_n 2, 1) := by decide +kernel
theorem dX4_handOver_33 : decode cX4_handOver 33 = .ok (.invokevirtual 104, 3) := by decide +kernel
theorem dX4_handOver_36 : decode cX4_handOver 36 = .ok (.ireturn, 1) := by decide +kernel
theorem dX4_cellOf_0 : decode cX4_cellOf 0 = .ok (.aload_n 0, 1) := by decide +kernel
theorem dX4_cellOf_1 : decode cX4_cellOf 1 = .ok (.getfield 19, 3) := by decide +kernel
theorem dX4_cellOf_4 : decode cX4_cellOf 4 = .ok (.iload_n 1, 1) := by decide +kernel
theorem dX4_cellOf_5 : decode cX4_cellOf 5 = .ok (.invokevirtual 95, 3) := by decide +kernel
theorem dX4_cellOf_8 : decode cX4_cellOf 8 = .ok (.ifCond .eq 14, 3) := by decide +kernel
theorem dX4_cellOf_11 : decode cX4_cellOf 11 = .ok (.aload_n 0, 1) := by decide +kernel
theorem dX4_cellOf_12 : decode cX4_cellOf 12 = .ok (.getfield 19, 3) := by decide +kernel
theorem dX4_cellOf_15 : decode cX4_cellOf 15 = .ok (.iload_n 1, 1) := by decide +kernel
theorem dX4_cellOf_16 : decode cX4_cellOf 16 = .ok (.invokevirtual 107, 3) := by decide +kernel
theorem dX4_cellOf_19 : decode cX4_cellOf 19 = .ok (.goto 5, 3) := by decide +kernel
theorem dX4_cellOf_22 : decode cX4_cellOf 22 = .ok (.bipush (-4), 2) := by decide +kernel
theorem dX4_cellOf_24 : decode cX4_cellOf 24 = .ok (.ireturn, 1) := by decide +kernel
theorem dX4_channelOf_0 : decode cX4_channelOf 0 = .ok (.aload_n 0, 1) := by decide +kernel
theorem dX4_channelOf_1 : decode cX4_channelOf 1 = .ok (.getfield 19, 3) := by decide +kernel
theorem dX4_channelOf_4 : decode cX4_channelOf 4 = .ok (.iload_n 1, 1) := by decide +kernel
theorem dX4_channelOf_5 : decode cX4_channelOf 5 = .ok (.invokevirtual 95, 3) := by decide +kernel
theorem dX4_channelOf_8 : decode cX4_channelOf 8 = .ok (.ifCond .eq 14, 3) := by decide +kernel
theorem dX4_channelOf_11 : decode cX4_channelOf 11 = .ok (.aload_n 0, 1) := by decide +kernel
theorem dX4_channelOf_12 : decode cX4_channelOf 12 = .ok (.getfield 19, 3) := by decide +kernel
theorem dX4_channelOf_15 : decode cX4_channelOf 15 = .ok (.iload_n 1, 1) := by decide +kernel
theorem dX4_channelOf_16 : decode cX4_channelOf 16 = .ok (.invokevirtual 110, 3) := by decide +kernel
theorem dX4_channelOf_19 : decode cX4_channelOf 19 = .ok (.goto 5, 3) := by decide +kernel
theorem dX4_channelOf_22 : decode cX4_channelOf 22 = .ok (.bipush (-4), 2) := by decide +kernel
theorem dX4_channelOf_24 : decode cX4_channelOf 24 = .ok (.ireturn, 1) := by decide +kernel
theorem dX4_isBorrowed_0 : decode cX4_isBorrowed 0 = .ok (.aload_n 0, 1) := by decide +kernel
theorem dX4_isBorrowed_1 : decode cX4_isBorrowed 1 = .ok (.getfield 19, 3) := by decide +kernel
theorem dX4_isBorrowed_4 : decode cX4_isBorrowed 4 = .ok (.iload_n 1, 1) := by decide +kernel
theorem dX4_isBorrowed_5 : decode cX4_isBorrowed 5 = .ok (.invokevirtual 95, 3) := by decide +kernel
theorem dX4_isBorrowed_8 : decode cX4_isBorrowed 8 = .ok (.ifCond .eq 17, 3) := by decide +kernel
theorem dX4_isBorrowed_11 : decode cX4_isBorrowed 11 = .ok (.aload_n 0, 1) := by decide +kernel
theorem dX4_isBorrowed_12 : decode cX4_isBorrowed 12 = .ok (.getfield 19, 3) := by decide +kernel
theorem dX4_isBorrowed_15 : decode cX4_isBorrowed 15 = .ok (.iload_n 1, 1) := by decide +kernel
theorem dX4_isBorrowed_16 : decode cX4_isBorrowed 16 = .ok (.invokevirtual 113, 3) := by decide +kernel
theorem dX4_isBorrowed_19 : decode cX4_isBorrowed 19 = .ok (.invokestatic 116, 3) := by decide +kernel
theorem dX4_isBorrowed_22 : decode cX4_isBorrowed 22 = .ok (.goto 5, 3) := by decide +kernel
theorem dX4_isBorrowed_25 : decode cX4_isBorrowed 25 = .ok (.bipush (-4), 2) := by decide +kernel
theorem dX4_isBorrowed_27 : decode cX4_isBorrowed 27 = .ok (.ireturn, 1) := by decide +kernel
theorem dX4_isInFixedScheme_0 : decode cX4_isInFixedScheme 0 = .ok (.aload_n 0, 1) := by decide +kernel
theorem dX4_isInFixedScheme_1 : decode cX4_isInFixedScheme 1 = .ok (.getfield 19, 3) := by decide +kernel
theorem dX4_isInFixedScheme_4 : decode cX4_isInFixedScheme 4 = .ok (.iload_n 1, 1) := by decide +kernel
theorem dX4_isInFixedScheme_5 : decode cX4_isInFixedScheme 5 = .ok (.invokevirtual 95, 3) := by decide +kernel
theorem dX4_isInFixedScheme_8 : decode cX4_isInFixedScheme 8 = .ok (.ifCond .eq 17, 3) := by decide +kernel
theorem dX4_isInFixedScheme_11 : decode cX4_isInFixedScheme 11 = .ok (.aload_n 0, 1) := by decide +kernel
theorem dX4_isInFixedScheme_12 : decode cX4_isInFixedScheme 12 = .ok (.getfield 19, 3) := by decide +kernel
theorem dX4_isInFixedScheme_15 : decode cX4_isInFixedScheme 15 = .ok (.iload_n 1, 1) := by decide +kernel
theorem dX4_isInFixedScheme_16 : decode cX4_isInFixedScheme 16 = .ok (.invokevirtual 120, 3) := by decide +kernel
theorem dX4_isInFixedScheme_19 : decode cX4_isInFixedScheme 19 = .ok (.invokestatic 116, 3) := by decide +kernel
theorem dX4_isInFixedScheme_22 : decode cX4_isInFixedScheme 22 = .ok (.goto 5, 3) := by decide +kernel
theorem dX4_isInFixedScheme_25 : decode cX4_isInFixedScheme 25 = .ok (.bipush (-4), 2) := by decide +kernel
theorem dX4_isInFixedScheme_27 : decode cX4_isInFixedScheme 27 = .ok (.ireturn, 1) := by decide +kernel
theorem dX4_isAvailable_0 : decode cX4_isAvailable 0 = .ok (.aload_n 0, 1) := by decide +kernel
theorem dX4_isAvailable_1 : decode cX4_isAvailable 1 = .ok (.iload_n 1, 1) := by decide +kernel
theorem dX4_isAvailable_2 : decode cX4_isAvailable 2 = .ok (.invokevirtual 77, 3) := by decide +kernel
theorem dX4_isAvailable_5 : decode cX4_isAvailable 5 = .ok (.ifCond .eq 11, 3) := by decide +kernel
theorem dX4_isAvailable_8 : decode cX4_isAvailable 8 = .ok (.aload_n 0, 1) := by decide +kernel
theorem dX4_isAvailable_9 : decode cX4_isAvailable 9 = .ok (.iload_n 2, 1) := by decide +kernel
theorem dX4_isAvailable_10 : decode cX4_isAvailable 10 = .ok (.invokevirtual 123, 3) := by decide +kernel
theorem dX4_isAvailable_13 : decode cX4_isAvailable 13 = .ok (.ifCond .ne 5, 3) := by decide +kernel
theorem dX4_isAvailable_16 : decode cX4_isAvailable 16 = .ok (.iconst (-1), 1) := by decide +kernel
theorem dX4_isAvailable_17 : decode cX4_isAvailable 17 = .ok (.ireturn, 1) := by decide +kernel
theorem dX4_isAvailable_18 : decode cX4_isAvailable 18 = .ok (.aload_n 0, 1) := by decide +kernel
theorem dX4_isAvailable_19 : decode cX4_isAvailable 19 = .ok (.getfield 19, 3) := by decide +kernel
theorem dX4_isAvailable_22 : decode cX4_isAvailable 22 = .ok (.iload_n 1, 1) := by decide +kernel
theorem dX4_isAvailable_23 : decode cX4_isAvailable 23 = .ok (.invokevirtual 126, 3) := by decide +kernel
theorem dX4_isAvailable_26 : decode cX4_isAvailable 26 = .ok (.iload_n 2, 1) := by decide +kernel
theorem dX4_isAvailable_27 : decode cX4_isAvailable 27 = .ok (.invokestatic 129, 3) := by decide +kernel
theorem dX4_isAvailable_30 : decode cX4_isAvailable 30 = .ok (.invokestatic 116, 3) := by decide +kernel
theorem dX4_isAvailable_33 : decode cX4_isAvailable 33 = .ok (.ireturn, 1) := by decide +kernel
theorem dX4_lockCount_0 : decode cX4_lockCount 0 = .ok (.aload_n 0, 1) := by decide +kernel
theorem dX4_lockCount_1 : decode cX4_lockCount 1 = .ok (.iload_n 1, 1) := by decide +kernel
theorem dX4_lockCount_2 : decode cX4_lockCount 2 = .ok (.invokevirtual 77, 3) := by decide +kernel
theorem dX4_lockCount_5 : decode cX4_lockCount 5 = .ok (.ifCond .eq 11, 3) := by decide +kernel
theorem dX4_lockCount_8 : decode cX4_lockCount 8 = .ok (.aload_n 0, 1) := by decide +kernel
theorem dX4_lockCount_9 : decode cX4_lockCount 9 = .ok (.iload_n 2, 1) := by decide +kernel
theorem dX4_lockCount_10 : decode cX4_lockCount 10 = .ok (.invokevirtual 123, 3) := by decide +kernel
theorem dX4_lockCount_13 : decode cX4_lockCount 13 = .ok (.ifCond .ne 5, 3) := by decide +kernel
theorem dX4_lockCount_16 : decode cX4_lockCount 16 = .ok (.iconst (-1), 1) := by decide +kernel
theorem dX4_lockCount_17 : decode cX4_lockCount 17 = .ok (.ireturn, 1) := by decide +kernel
theorem dX4_lockCount_18 : decode cX4_lockCount 18 = .ok (.aload_n 0, 1) := by decide +kernel
theorem dX4_lockCount_19 : decode cX4_lockCount 19 = .ok (.getfield 19, 3) := by decide +kernel
theorem dX4_lockCount_22 : decode cX4_lockCount 22 = .ok (.iload_n 1, 1) := by decide +kernel
theorem dX4_lockCount_23 : decode cX4_lockCount 23 = .ok (.iload_n 2, 1) := by decide +kernel
theorem dX4_lockCount_24 : decode cX4_lockCount 24 = .ok (.invokevirtual 133, 3) := by decide +kernel
theorem dX4_lockCount_27 : decode cX4_lockCount 27 = .ok (.ireturn, 1) := by decide +kernel
theorem dX4_burden_0 : decode cX4_burden 0 = .ok (.aload_n 0, 1) := by decide +kernel
theorem dX4_burden_1 : decode cX4_burden 1 = .ok (.iload_n 1, 1) := by decide +kernel
theorem dX4_burden_2 : decode cX4_burden 2 = .ok (.invokevirtual 77, 3) := by decide +kernel
theorem dX4_burden_5 : decode cX4_burden 5 = .ok (.ifCond .eq 11, 3) := by decide +kernel
theorem dX4_burden_8 : decode cX4_burden 8 = .ok (.aload_n 0, 1) := by decide +kernel
theorem dX4_burden_9 : decode cX4_burden 9 = .ok (.iload_n 2, 1) := by decide +kernel
theorem dX4_burden_10 : decode cX4_burden 10 = .ok (.invokevirtual 123, 3) := by decide +kernel
theorem dX4_burden_13 : decode cX4_burden 13 = .ok (.ifCond .ne 5, 3) := by decide +kernel
theorem dX4_burden_16 : decode cX4_burden 16 = .ok (.iconst (-1), 1) := by decide +kernel
theorem dX4_burden_17 : decode cX4_burden 17 = .ok (.ireturn, 1) := by decide +kernel
theorem dX4_burden_18 : decode cX4_burden 18 = .ok (.aload_n 0, 1) := by decide +kernel
theorem dX4_burden_19 : decode cX4_burden 19 = .ok (.getfield 19, 3) := by decide +kernel
theorem dX4_burden_22 : decode cX4_burden 22 = .ok (.getfield 52, 3) := by decide +kernel
theorem dX4_burden_25 : decode cX4_burden 25 = .ok (.iload_n 1, 1) := by decide +kernel
theorem dX4_burden_26 : decode cX4_burden 26 = .ok (.iload_n 2, 1) := by decide +kernel
theorem dX4_burden_27 : decode cX4_burden 27 = .ok (.invokevirtual 136, 3) := by decide +kernel
theorem dX4_burden_30 : decode cX4_burden 30 = .ok (.ireturn, 1) := by decide +kernel
theorem dX4_availableCount_0 : decode cX4_availableCount 0 = .ok (.aload_n 0, 1) := by decide +kernel
theorem dX4_availableCount_1 : decode cX4_availableCount 1 = .ok (.iload_n 1, 1) := by decide +kernel
theorem dX4_availableCount_2 : decode cX4_availableCount 2 = .ok (.invokevirtual 77, 3) := by decide +kernel
theorem dX4_availableCount_5 : decode cX4_availableCount 5 = .ok (.ifCond .eq 17, 3) := by decide +kernel
theorem dX4_availableCount_8 : decode cX4_availableCount 8 = .ok (.aload_n 0, 1) := by decide +kernel
theorem dX4_availableCount_9 : decode cX4_availableCount 9 = .ok (.getfield 19, 3) := by decide +kernel
theorem dX4_availableCount_12 : decode cX4_availableCount 12 = .ok (.iload_n 1, 1) := by decide +kernel
theorem dX4_availableCount_13 : decode cX4_availableCount 13 = .ok (.invokevirtual 139, 3) := by decide +kernel
theorem dX4_availableCount_16 : decode cX4_availableCount 16 = .ok (.invokestatic 142, 3) := by decide +kernel
theorem dX4_availableCount_19 : decode cX4_availableCount 19 = .ok (.goto 4, 3) := by decide +kernel
theorem dX4_availableCount_22 : decode cX4_availableCount 22 = .ok (.iconst (-1), 1) := by decide +kernel
theorem dX4_availableCount_23 : decode cX4_availableCount 23 = .ok (.ireturn, 1) := by decide +kernel
theorem dX4_usedCount_0 : decode cX4_usedCount 0 = .ok (.aload_n 0, 1) := by decide +kernel
theorem dX4_usedCount_1 : decode cX4_usedCount 1 = .ok (.iload_n 1, 1) := by decide +kernel
theorem dX4_usedCount_2 : decode cX4_usedCount 2 = .ok (.invokevirtual 77, 3) := by decide +kernel
theorem dX4_usedCount_5 : decode cX4_usedCount 5 = .ok (.ifCond .eq 17, 3) := by decide +kernel
theorem dX4_usedCount_8 : decode cX4_usedCount 8 = .ok (.aload_n 0, 1) := by decide +kernel
theorem dX4_usedCount_9 : decode cX4_usedCount 9 = .ok (.getfield 19, 3) := by decide +kernel
theorem dX4_usedCount_12 : decode cX4_usedCount 12 = .ok (.iload_n 1, 1) := by decide +kernel
theorem dX4_usedCount_13 : decode cX4_usedCount 13 = .ok (.invokevirtual 147, 3) := by decide +kernel
theorem dX4_usedCount_16 : decode cX4_usedCount 16 = .ok (.invokestatic 142, 3) := by decide +kernel
theorem dX4_usedCount_19 : decode cX4_usedCount 19 = .ok (.goto 4, 3) := by decide +kernel
theorem dX4_usedCount_22 : decode cX4_usedCount 22 = .ok (.iconst (-1), 1) := by decide +kernel
theorem dX4_usedCount_23 : decode cX4_usedCount 23 = .ok (.ireturn, 1) := by decide +kernel
theorem dX4_lockedCount_0 : decode cX4_lockedCount 0 = .ok (.aload_n 0, 1) := by decide +kernel
theorem dX4_lockedCount_1 : decode cX4_lockedCount 1 = .ok (.iload_n 1, 1) := by decide +kernel
theorem dX4_lockedCount_2 : decode cX4_lockedCount 2 = .ok (.invokevirtual 77, 3) := by decide +kernel
theorem dX4_lockedCount_5 : decode cX4_lockedCount 5 = .ok (.ifCond .ne 5, 3) := by decide +kernel
theorem dX4_lockedCount_8 : decode cX4_lockedCount 8 = .ok (.iconst (-1), 1) := by decide +kernel
theorem dX4_lockedCount_9 : decode cX4_lockedCount 9 = .ok (.ireturn, 1) := by decide +kernel
theorem dX4_lockedCount_10 : decode cX4_lockedCount 10 = .ok (.aload_n 0, 1) := by decide +kernel
theorem dX4_lockedCount_11 : decode cX4_lockedCount 11 = .ok (.getfield 19, 3) := by decide +kernel
theorem dX4_lockedCount_14 : decode cX4_lockedCount 14 = .ok (.iload_n 1, 1) := by decide +kernel
theorem dX4_lockedCount_15 : decode cX4_lockedCount 15 = .ok (.invokevirtual 147, 3) := by decide +kernel
theorem dX4_lockedCount_18 : decode cX4_lockedCount 18 = .ok (.aload_n 0, 1) := by decide +kernel
theorem dX4_lockedCount_19 : decode cX4_lockedCount 19 = .ok (.getfield 19, 3) := by decide +kernel
theorem dX4_lockedCount_22 : decode cX4_lockedCount 22 = .ok (.iload_n 1, 1) := by decide +kernel
theorem dX4_lockedCount_23 : decode cX4_lockedCount 23 = .ok (.invokevirtual 126, 3) := by decide +kernel
theorem dX4_lockedCount_26 : decode cX4_lockedCount 26 = .ok (.ior, 1) := by decide +kernel
theorem dX4_lockedCount_27 : decode cX4_lockedCount 27 = .ok (.istore_n 2, 1) := by decide +kernel
theorem dX4_lockedCount_28 : decode cX4_lockedCount 28 = .ok (.aload_n 0, 1) := by decide +kernel
theorem dX4_lockedCount_29 : decode cX4_lockedCount 29 = .ok (.getfield 19, 3) := by decide +kernel
theorem dX4_lockedCount_32 : decode cX4_lockedCount 32 = .ok (.getfield 52, 3) := by decide +kernel
theorem dX4_lockedCount_35 : decode cX4_lockedCount 35 = .ok (.iload_n 1, 1) := by decide +kernel
theorem dX4_lockedCount_36 : decode cX4_lockedCount 36 = .ok (.invokevirtual 150, 3) := by decide +kernel
theorem dX4_lockedCount_39 : decode cX4_lockedCount 39 = .ok (.iload_n 2, 1) := by decide +kernel
theorem dX4_lockedCount_40 : decode cX4_lockedCount 40 = .ok (.iconst (-1), 1) := by decide +kernel
theorem dX4_lockedCount_41 : decode cX4_lockedCount 41 = .ok (.ixor, 1) := by decide +kernel
theorem dX4_lockedCount_42 : decode cX4_lockedCount 42 = .ok (.iand, 1) := by decide +kernel
theorem dX4_lockedCount_43 : decode cX4_lockedCount 43 = .ok (.invokestatic 142, 3) := by decide +kernel
theorem dX4_lockedCount_46 : decode cX4_lockedCount 46 = .ok (.ireturn, 1) := by decide +kernel
theorem dX4_nextChannel_0 : decode cX4_nextChannel 0 = .ok (.aload_n 0, 1) := by decide +kernel
theorem dX4_nextChannel_1 : decode cX4_nextChannel 1 = .ok (.iload_n 1, 1) := by decide +kernel
theorem dX4_nextChannel_2 : decode cX4_nextChannel 2 = .ok (.invokevirtual 77, 3) := by decide +kernel
theorem dX4_nextChannel_5 : decode cX4_nextChannel 5 = .ok (.ifCond .eq 14, 3) := by decide +kernel
theorem dX4_nextChannel_8 : decode cX4_nextChannel 8 = .ok (.aload_n 0, 1) := by decide +kernel
theorem dX4_nextChannel_9 : decode cX4_nextChannel 9 = .ok (.getfield 19, 3) := by decide +kernel
theorem dX4_nextChannel_12 : decode cX4_nextChannel 12 = .ok (.iload_n 1, 1) := by decide +kernel
theorem dX4_nextChannel_13 : decode cX4_nextChannel 13 = .ok (.invokevirtual 153, 3) := by decide +kernel
theorem dX4_nextChannel_16 : decode cX4_nextChannel 16 = .ok (.goto 4, 3) := by decide +kernel
theorem dX4_nextChannel_19 : decode cX4_nextChannel 19 = .ok (.iconst (-1), 1) := by decide +kernel
theorem dX4_nextChannel_20 : decode cX4_nextChannel 20 = .ok (.ireturn, 1) := by decide +kernel
theorem dX4_nextDonor_0 : decode cX4_nextDonor 0 = .ok (.aload_n 0, 1) := by decide +kernel
theorem dX4_nextDonor_1 : decode cX4_nextDonor 1 = .ok (.iload_n 1, 1) := by decide +kernel
theorem dX4_nextDonor_2 : decode cX4_nextDonor 2 = .ok (.invokevirtual 77, 3) := by decide +kernel
theorem dX4_nextDonor_5 : decode cX4_nextDonor 5 = .ok (.ifCond .eq 14, 3) := by decide +kernel
theorem dX4_nextDonor_8 : decode cX4_nextDonor 8 = .ok (.aload_n 0, 1) := by decide +kernel
theorem dX4_nextDonor_9 : decode cX4_nextDonor 9 = .ok (.getfield 19, 3) := by decide +kernel
theorem dX4_nextDonor_12 : decode cX4_nextDonor 12 = .ok (.iload_n 1, 1) := by decide +kernel
theorem dX4_nextDonor_13 : decode cX4_nextDonor 13 = .ok (.invokevirtual 156, 3) := by decide +kernel
theorem dX4_nextDonor_16 : decode cX4_nextDonor 16 = .ok (.goto 4, 3) := by decide +kernel
theorem dX4_nextDonor_19 : decode cX4_nextDonor 19 = .ok (.iconst (-1), 1) := by decide +kernel
theorem dX4_nextDonor_20 : decode cX4_nextDonor 20 = .ok (.ireturn, 1) := by decide +kernel
theorem dX4_blockingCells_0 : decode cX4_blockingCells 0 = .ok (.iconst 0, 1) := by decide +kernel
theorem dX4_blockingCells_1 : decode cX4_blockingCells 1 = .ok (.istore_n 1, 1) := by decide +kernel
theorem dX4_blockingCells_2 : decode cX4_blockingCells 2 = .ok (.iconst 0, 1) := by decide +kernel
theorem dX4_blockingCells_3 : decode cX4_blockingCells 3 = .ok (.istore_n 2, 1) := by decide +kernel
theorem dX4_blockingCells_4 : decode cX4_blockingCells 4 = .ok (.iload_n 2, 1) := by decide +kernel
theorem dX4_blockingCells_5 : decode cX4_blockingCells 5 = .ok (.aload_n 0, 1) := by decide +kernel
theorem dX4_blockingCells_6 : decode cX4_blockingCells 6 = .ok (.getfield 19, 3) := by decide +kernel
theorem dX4_blockingCells_9 : decode cX4_blockingCells 9 = .ok (.getfield 52, 3) := by decide +kernel
theorem dX4_blockingCells_12 : decode cX4_blockingCells 12 = .ok (.getfield 74, 3) := by decide +kernel
theorem dX4_blockingCells_15 : decode cX4_blockingCells 15 = .ok (.if_icmp .ge 25, 3) := by decide +kernel
theorem dX4_blockingCells_18 : decode cX4_blockingCells 18 = .ok (.aload_n 0, 1) := by decide +kernel
theorem dX4_blockingCells_19 : decode cX4_blockingCells 19 = .ok (.getfield 19, 3) := by decide +kernel
theorem dX4_blockingCells_22 : decode cX4_blockingCells 22 = .ok (.iload_n 2, 1) := by decide +kernel
theorem dX4_blockingCells_23 : decode cX4_blockingCells 23 = .ok (.invokevirtual 153, 3) := by decide +kernel
theorem dX4_blockingCells_26 : decode cX4_blockingCells 26 = .ok (.bipush (-9), 2) := by decide +kernel
theorem dX4_blockingCells_28 : decode cX4_blockingCells 28 = .ok (.if_icmp .ne 6, 3) := by decide +kernel
theorem dX4_blockingCells_31 : decode cX4_blockingCells 31 = .ok (.iinc 1 1, 3) := by decide +kernel
theorem dX4_blockingCells_34 : decode cX4_blockingCells 34 = .ok (.iinc 2 1, 3) := by decide +kernel
theorem dX4_blockingCells_37 : decode cX4_blockingCells 37 = .ok (.goto (-33), 3) := by decide +kernel
theorem dX4_blockingCells_40 : decode cX4_blockingCells 40 = .ok (.iload_n 1, 1) := by decide +kernel
theorem dX4_blockingCells_41 : decode cX4_blockingCells 41 = .ok (.ireturn, 1) := by decide +kernel
theorem dX4_callCount_0 : decode cX4_callCount 0 = .ok (.aload_n 0, 1) := by decide +kernel
theorem dX4_callCount_1 : decode cX4_callCount 1 = .ok (.getfield 19, 3) := by decide +kernel
theorem dX4_callCount_4 : decode cX4_callCount 4 = .ok (.invokevirtual 159, 3) := by decide +kernel
theorem dX4_callCount_7 : decode cX4_callCount 7 = .ok (.ireturn, 1) := by decide +kernel
theorem dX4_attempts_0 : decode cX4_attempts 0 = .ok (.aload_n 0, 1) := by decide +kernel
theorem dX4_attempts_1 : decode cX4_attempts 1 = .ok (.getfield 19, 3) := by decide +kernel
theorem dX4_attempts_4 : decode cX4_attempts 4 = .ok (.getfield 162, 3) := by decide +kernel
theorem dX4_attempts_7 : decode cX4_attempts 7 = .ok (.ireturn, 1) := by decide +kernel
theorem dX4_blocked_0 : decode cX4_blocked 0 = .ok (.aload_n 0, 1) := by decide +kernel
theorem dX4_blocked_1 : decode cX4_blocked 1 = .ok (.getfield 19, 3) := by decide +kernel
theorem dX4_blocked_4 : decode cX4_blocked 4 = .ok (.getfield 165, 3) := by decide +kernel
theorem dX4_blocked_7 : decode cX4_blocked 7 = .ok (.ireturn, 1) := by decide +kernel
theorem dX4_blockedInFixedScheme_0 : decode cX4_blockedInFixedScheme 0 = .ok (.aload_n 0, 1) := by decide +kernel
theorem dX4_blockedInFixedScheme_1 : decode cX4_blockedInFixedScheme 1 = .ok (.getfield 19, 3) := by decide +kernel
theorem dX4_blockedInFixedScheme_4 : decode cX4_blockedInFixedScheme 4 = .ok (.getfield 168, 3) := by decide +kernel
theorem dX4_blockedInFixedScheme_7 : decode cX4_blockedInFixedScheme 7 = .ok (.ireturn, 1) := by decide +kernel
theorem dX4_dropped_0 : decode cX4_dropped 0 = .ok (.aload_n 0, 1) := by decide +kernel
theorem dX4_dropped_1 : decode cX4_dropped 1 = .ok (.getfield 19, 3) := by decide +kernel
theorem dX4_dropped_4 : decode cX4_dropped 4 = .ok (.getfield 171, 3) := by decide +kernel
theorem dX4_dropped_7 : decode cX4_dropped 7 = .ok (.ireturn, 1) := by decide +kernel
theorem dX4_droppedInFixedScheme_0 : decode cX4_droppedInFixedScheme 0 = .ok (.aload_n 0, 1) := by decide +kernel
theorem dX4_droppedInFixedScheme_1 : decode cX4_droppedInFixedScheme 1 = .ok (.getfield 19, 3) := by decide +kernel
theorem dX4_droppedInFixedScheme_4 : decode cX4_droppedInFixedScheme 4 = .ok (.getfield 174, 3) := by decide +kernel
theorem dX4_droppedInFixedScheme_7 : decode cX4_droppedInFixedScheme 7 = .ok (.ireturn, 1) := by decide +kernel
theorem dX4_borrowings_0 : decode cX4_borrowings 0 = .ok (.aload_n 0, 1) := by decide +kernel
theorem dX4_borrowings_1 : decode cX4_borrowings 1 = .ok (.getfield 19, 3) := by decide +kernel
theorem dX4_borrowings_4 : decode cX4_borrowings 4 = .ok (.getfield 177, 3) := by decide +kernel
theorem dX4_borrowings_7 : decode cX4_borrowings 7 = .ok (.ireturn, 1) := by decide +kernel
theorem dX4_returns_0 : decode cX4_returns 0 = .ok (.aload_n 0, 1) := by decide +kernel
theorem dX4_returns_1 : decode cX4_returns 1 = .ok (.getfield 19, 3) := by decide +kernel
theorem dX4_returns_4 : decode cX4_returns 4 = .ok (.getfield 180, 3) := by decide +kernel
theorem dX4_returns_7 : decode cX4_returns 7 = .ok (.ireturn, 1) := by decide +kernel
theorem dX4_appendCharacter_0 : decode cX4_appendCharacter 0 = .ok (.iload_n 1, 1) := by decide +kernel
theorem dX4_appendCharacter_1 : decode cX4_appendCharacter 1 = .ok (.iconst 0, 1) := by decide +kernel
theorem dX4_appendCharacter_2 : decode cX4_appendCharacter 2 = .ok (.sipush 255, 3) := by decide +kernel
theorem dX4_appendCharacter_5 : decode cX4_appendCharacter 5 = .ok (.invokestatic 41, 3) := by decide +kernel
theorem dX4_appendCharacter_8 : decode cX4_appendCharacter 8 = .ok (.ifCond .ne 5, 3) := by decide +kernel
theorem dX4_appendCharacter_11 : decode cX4_appendCharacter 11 = .ok (.iconst (-1), 1) := by decide +kernel
theorem dX4_appendCharacter_12 : decode cX4_appendCharacter 12 = .ok (.ireturn, 1) := by decide +kernel
theorem dX4_appendCharacter_13 : decode cX4_appendCharacter 13 = .ok (.aload_n 0, 1) := by decide +kernel
theorem dX4_appendCharacter_14 : decode cX4_appendCharacter 14 = .ok (.getfield 37, 3) := by decide +kernel
theorem dX4_appendCharacter_17 : decode cX4_appendCharacter 17 = .ok (.iload_n 1, 1) := by decide +kernel
theorem dX4_appendCharacter_18 : decode cX4_appendCharacter 18 = .ok (.invokevirtual 183, 3) := by decide +kernel
theorem dX4_appendCharacter_21 : decode cX4_appendCharacter 21 = .ok (.ifCond .eq 13, 3) := by decide +kernel
theorem dX4_appendCharacter_24 : decode cX4_appendCharacter 24 = .ok (.aload_n 0, 1) := by decide +kernel
theorem dX4_appendCharacter_25 : decode cX4_appendCharacter 25 = .ok (.getfield 37, 3) := by decide +kernel
theorem dX4_appendCharacter_28 : decode cX4_appendCharacter 28 = .ok (.getfield 186, 3) := by decide +kernel
theorem dX4_appendCharacter_31 : decode cX4_appendCharacter 31 = .ok (.goto 5, 3) := by decide +kernel
theorem dX4_appendCharacter_34 : decode cX4_appendCharacter 34 = .ok (.bipush (-3), 2) := by decide +kernel
theorem dX4_appendCharacter_36 : decode cX4_appendCharacter 36 = .ok (.ireturn, 1) := by decide +kernel
theorem dX4_clearText_0 : decode cX4_clearText 0 = .ok (.aload_n 0, 1) := by decide +kernel
theorem dX4_clearText_1 : decode cX4_clearText 1 = .ok (.getfield 37, 3) := by decide +kernel
theorem dX4_clearText_4 : decode cX4_clearText 4 = .ok (.getfield 186, 3) := by decide +kernel
theorem dX4_clearText_7 : decode cX4_clearText 7 = .ok (.istore_n 1, 1) := by decide +kernel
theorem dX4_clearText_8 : decode cX4_clearText 8 = .ok (.aload_n 0, 1) := by decide +kernel
theorem dX4_clearText_9 : decode cX4_clearText 9 = .ok (.getfield 37, 3) := by decide +kernel
theorem dX4_clearText_12 : decode cX4_clearText 12 = .ok (.iconst 0, 1) := by decide +kernel
theorem dX4_clearText_13 : decode cX4_clearText 13 = .ok (.putfield 186, 3) := by decide +kernel
theorem dX4_clearText_16 : decode cX4_clearText 16 = .ok (.iload_n 1, 1) := by decide +kernel
theorem dX4_clearText_17 : decode cX4_clearText 17 = .ok (.ireturn, 1) := by decide +kernel
theorem dX4_runScript_0 : decode cX4_runScript 0 = .ok (.aload_n 0, 1) := by decide +kernel
theorem dX4_runScript_1 : decode cX4_runScript 1 = .ok (.getfield 37, 3) := by decide +kernel
theorem dX4_runScript_4 : decode cX4_runScript 4 = .ok (.invokevirtual 189, 3) := by decide +kernel
theorem dX4_runScript_7 : decode cX4_runScript 7 = .ok (.ifCond .ne 14, 3) := by decide +kernel
theorem dX4_runScript_10 : decode cX4_runScript 10 = .ok (.bipush (-10), 2) := by decide +kernel
theorem dX4_runScript_12 : decode cX4_runScript 12 = .ok (.aload_n 0, 1) := by decide +kernel
theorem dX4_runScript_13 : decode cX4_runScript 13 = .ok (.getfield 37, 3) := by decide +kernel
theorem dX4_runScript_16 : decode cX4_runScript 16 = .ok (.getfield 193, 3) := by decide +kernel
theorem dX4_runScript_19 : decode cX4_runScript 19 = .ok (.isub, 1) := by decide +kernel
theorem dX4_runScript_20 : decode cX4_runScript 20 = .ok (.ireturn, 1) := by decide +kernel
theorem dX4_runScript_21 : decode cX4_runScript 21 = .ok (.aload_n 0, 1) := by decide +kernel
theorem dX4_runScript_22 : decode cX4_runScript 22 = .ok (.getfield 26, 3) := by decide +kernel
theorem dX4_runScript_25 : decode cX4_runScript 25 = .ok (.aload_n 0, 1) := by decide +kernel
theorem dX4_runScript_26 : decode cX4_runScript 26 = .ok (.getfield 19, 3) := by decide +kernel
theorem dX4_runScript_29 : decode cX4_runScript 29 = .ok (.invokevirtual 45, 3) := by decide +kernel
theorem dX4_runScript_32 : decode cX4_runScript 32 = .ok (.iconst 0, 1) := by decide +kernel
theorem dX4_runScript_33 : decode cX4_runScript 33 = .ok (.istore_n 1, 1) := by decide +kernel
theorem dX4_runScript_34 : decode cX4_runScript 34 = .ok (.iconst 0, 1) := by decide +kernel
theorem dX4_runScript_35 : decode cX4_runScript 35 = .ok (.istore_n 2, 1) := by decide +kernel
theorem dX4_runScript_36 : decode cX4_runScript 36 = .ok (.iload_n 2, 1) := by decide +kernel
theorem dX4_runScript_37 : decode cX4_runScript 37 = .ok (.aload_n 0, 1) := by decide +kernel
theorem dX4_runScript_38 : decode cX4_runScript 38 = .ok (.getfield 37, 3) := by decide +kernel
theorem dX4_runScript_41 : decode cX4_runScript 41 = .ok (.getfield 196, 3) := by decide +kernel
theorem dX4_runScript_44 : decode cX4_runScript 44 = .ok (.if_icmp .ge 128, 3) := by decide +kernel
theorem dX4_runScript_47 : decode cX4_runScript 47 = .ok (.iload_n 2, 1) := by decide +kernel
theorem dX4_runScript_48 : decode cX4_runScript 48 = .ok (.bipush 33, 2) := by decide +kernel
theorem dX4_runScript_50 : decode cX4_runScript 50 = .ok (.if_icmp .ge 122, 3) := by decide +kernel
theorem dX4_runScript_53 : decode cX4_runScript 53 = .ok (.aload_n 0, 1) := by decide +kernel
theorem dX4_runScript_54 : decode cX4_runScript 54 = .ok (.getfield 37, 3) := by decide +kernel
theorem dX4_runScript_57 : decode cX4_runScript 57 = .ok (.getfield 199, 3) := by decide +kernel
theorem dX4_runScript_60 : decode cX4_runScript 60 = .ok (.iload_n 2, 1) := by decide +kernel
theorem dX4_runScript_61 : decode cX4_runScript 61 = .ok (.iaload, 1) := by decide +kernel
theorem dX4_runScript_62 : decode cX4_runScript 62 = .ok (.istore_n 3, 1) := by decide +kernel
theorem dX4_runScript_63 : decode cX4_runScript 63 = .ok (.aload_n 0, 1) := by decide +kernel
theorem dX4_runScript_64 : decode cX4_runScript 64 = .ok (.getfield 37, 3) := by decide +kernel
theorem dX4_runScript_67 : decode cX4_runScript 67 = .ok (.getfield 203, 3) := by decide +kernel
theorem dX4_runScript_70 : decode cX4_runScript 70 = .ok (.iload_n 2, 1) := by decide +kernel
theorem dX4_runScript_71 : decode cX4_runScript 71 = .ok (.iaload, 1) := by decide +kernel
theorem dX4_runScript_72 : decode cX4_runScript 72 = .ok (.istore 4, 2) := by decide +kernel
theorem dX4_runScript_74 : decode cX4_runScript 74 = .ok (.aload_n 0, 1) := by decide +kernel
theorem dX4_runScript_75 : decode cX4_runScript 75 = .ok (.getfield 37, 3) := by decide +kernel
theorem dX4_runScript_78 : decode cX4_runScript 78 = .ok (.getfield 206, 3) := by decide +kernel
theorem dX4_runScript_81 : decode cX4_runScript 81 = .ok (.iload_n 2, 1) := by decide +kernel
theorem dX4_runScript_82 : decode cX4_runScript 82 = .ok (.iaload, 1) := by decide +kernel
theorem dX4_runScript_83 : decode cX4_runScript 83 = .ok (.istore 5, 2) := by decide +kernel
theorem dX4_runScript_85 : decode cX4_runScript 85 = .ok (.aload_n 0, 1) := by decide +kernel
theorem dX4_runScript_86 : decode cX4_runScript 86 = .ok (.iload_n 3, 1) := by decide +kernel
theorem dX4_runScript_87 : decode cX4_runScript 87 = .ok (.iload 4, 2) := by decide +kernel
theorem dX4_runScript_89 : decode cX4_runScript 89 = .ok (.iload 5, 2) := by decide +kernel
theorem dX4_runScript_91 : decode cX4_runScript 91 = .ok (.invokevirtual 209, 3) := by decide +kernel
theorem dX4_runScript_94 : decode cX4_runScript 94 = .ok (.ifCond .ne 72, 3) := by decide +kernel
theorem dX4_runScript_97 : decode cX4_runScript 97 = .ok (.iinc 1 1, 3) := by decide +kernel
theorem dX4_runScript_100 : decode cX4_runScript 100 = .ok (.iload_n 3, 1) := by decide +kernel
theorem dX4_runScript_101 : decode cX4_runScript 101 = .ok (.lookupswitch 53 #[(101, 40), (115, 27)], 27) := by decide +kernel
theorem dX4_runScript_128 : decode cX4_runScript 128 = .ok (.aload_n 0, 1) := by decide +kernel
theorem dX4_runScript_129 : decode cX4_runScript 129 = .ok (.getfield 19, 3) := by decide +kernel
theorem dX4_runScript_132 : decode cX4_runScript 132 = .ok (.iload 4, 2) := by decide +kernel
theorem dX4_runScript_134 : decode cX4_runScript 134 = .ok (.invokevirtual 92, 3) := by decide +kernel
theorem dX4_runScript_137 : decode cX4_runScript 137 = .ok (.pop, 1) := by decide +kernel
theorem dX4_runScript_138 : decode cX4_runScript 138 = .ok (.goto 28, 3) := by decide +kernel
theorem dX4_runScript_141 : decode cX4_runScript 141 = .ok (.aload_n 0, 1) := by decide +kernel
theorem dX4_runScript_142 : decode cX4_runScript 142 = .ok (.getfield 19, 3) := by decide +kernel
theorem dX4_runScript_145 : decode cX4_runScript 145 = .ok (.iload 4, 2) := by decide +kernel
theorem dX4_runScript_147 : decode cX4_runScript 147 = .ok (.invokevirtual 98, 3) := by decide +kernel
theorem dX4_runScript_150 : decode cX4_runScript 150 = .ok (.pop, 1) := by decide +kernel
theorem dX4_runScript_151 : decode cX4_runScript 151 = .ok (.goto 15, 3) := by decide +kernel
theorem dX4_runScript_154 : decode cX4_runScript 154 = .ok (.aload_n 0, 1) := by decide +kernel
theorem dX4_runScript_155 : decode cX4_runScript 155 = .ok (.getfield 19, 3) := by decide +kernel
theorem dX4_runScript_158 : decode cX4_runScript 158 = .ok (.iload 4, 2) := by decide +kernel
theorem dX4_runScript_160 : decode cX4_runScript 160 = .ok (.iload 5, 2) := by decide +kernel
theorem dX4_runScript_162 : decode cX4_runScript 162 = .ok (.invokevirtual 104, 3) := by decide +kernel
theorem dX4_runScript_165 : decode cX4_runScript 165 = .ok (.pop, 1) := by decide +kernel
theorem dX4_runScript_166 : decode cX4_runScript 166 = .ok (.iinc 2 1, 3) := by decide +kernel
theorem dX4_runScript_169 : decode cX4_runScript 169 = .ok (.goto (-133), 3) := by decide +kernel
theorem dX4_runScript_172 : decode cX4_runScript 172 = .ok (.aload_n 0, 1) := by decide +kernel
theorem dX4_runScript_173 : decode cX4_runScript 173 = .ok (.getfield 37, 3) := by decide +kernel
theorem dX4_runScript_176 : decode cX4_runScript 176 = .ok (.iconst 0, 1) := by decide +kernel
theorem dX4_runScript_177 : decode cX4_runScript 177 = .ok (.putfield 186, 3) := by decide +kernel
theorem dX4_runScript_180 : decode cX4_runScript 180 = .ok (.iload_n 1, 1) := by decide +kernel
theorem dX4_runScript_181 : decode cX4_runScript 181 = .ok (.ireturn, 1) := by decide +kernel
theorem dX4_undo_0 : decode cX4_undo 0 = .ok (.aload_n 0, 1) := by decide +kernel
theorem dX4_undo_1 : decode cX4_undo 1 = .ok (.getfield 26, 3) := by decide +kernel
theorem dX4_undo_4 : decode cX4_undo 4 = .ok (.aload_n 0, 1) := by decide +kernel
theorem dX4_undo_5 : decode cX4_undo 5 = .ok (.getfield 19, 3) := by decide +kernel
theorem dX4_undo_8 : decode cX4_undo 8 = .ok (.invokevirtual 213, 3) := by decide +kernel
theorem dX4_undo_11 : decode cX4_undo 11 = .ok (.ifCond .eq 13, 3) := by decide +kernel
theorem dX4_undo_14 : decode cX4_undo 14 = .ok (.aload_n 0, 1) := by decide +kernel
theorem dX4_undo_15 : decode cX4_undo 15 = .ok (.getfield 26, 3) := by decide +kernel
theorem dX4_undo_18 : decode cX4_undo 18 = .ok (.getfield 217, 3) := by decide +kernel
theorem dX4_undo_21 : decode cX4_undo 21 = .ok (.goto 5, 3) := by decide +kernel
theorem dX4_undo_24 : decode cX4_undo 24 = .ok (.bipush (-2), 2) := by decide +kernel
theorem dX4_undo_26 : decode cX4_undo 26 = .ok (.ireturn, 1) := by decide +kernel
theorem dX4_save_0 : decode cX4_save 0 = .ok (.iload_n 1, 1) := by decide +kernel
theorem dX4_save_1 : decode cX4_save 1 = .ok (.iconst 0, 1) := by decide +kernel
theorem dX4_save_2 : decode cX4_save 2 = .ok (.iconst 1, 1) := by decide +kernel
theorem dX4_save_3 : decode cX4_save 3 = .ok (.invokestatic 41, 3) := by decide +kernel
theorem dX4_save_6 : decode cX4_save 6 = .ok (.ifCond .ne 5, 3) := by decide +kernel
theorem dX4_save_9 : decode cX4_save 9 = .ok (.iconst (-1), 1) := by decide +kernel
theorem dX4_save_10 : decode cX4_save 10 = .ok (.ireturn, 1) := by decide +kernel
theorem dX4_save_11 : decode cX4_save 11 = .ok (.aload_n 0, 1) := by decide +kernel
theorem dX4_save_12 : decode cX4_save 12 = .ok (.getfield 30, 3) := by decide +kernel
theorem dX4_save_15 : decode cX4_save 15 = .ok (.iload_n 1, 1) := by decide +kernel
theorem dX4_save_16 : decode cX4_save 16 = .ok (.aaload, 1) := by decide +kernel
theorem dX4_save_17 : decode cX4_save 17 = .ok (.astore_n 2, 1) := by decide +kernel
theorem dX4_save_18 : decode cX4_save 18 = .ok (.aload_n 2, 1) := by decide +kernel
theorem dX4_save_19 : decode cX4_save 19 = .ok (.ifnonnull 25, 3) := by decide +kernel
theorem dX4_save_22 : decode cX4_save 22 = .ok (.new 14, 3) := by decide +kernel
theorem dX4_save_25 : decode cX4_save 25 = .ok (.dup, 1) := by decide +kernel
theorem dX4_save_26 : decode cX4_save 26 = .ok (.aload_n 0, 1) := by decide +kernel
theorem dX4_save_27 : decode cX4_save 27 = .ok (.getfield 19, 3) := by decide +kernel
theorem dX4_save_30 : decode cX4_save 30 = .ok (.getfield 52, 3) := by decide +kernel
theorem dX4_save_33 : decode cX4_save 33 = .ok (.invokespecial 16, 3) := by decide +kernel
theorem dX4_save_36 : decode cX4_save 36 = .ok (.astore_n 2, 1) := by decide +kernel
theorem dX4_save_37 : decode cX4_save 37 = .ok (.aload_n 0, 1) := by decide +kernel
theorem dX4_save_38 : decode cX4_save 38 = .ok (.getfield 30, 3) := by decide +kernel
theorem dX4_save_41 : decode cX4_save 41 = .ok (.iload_n 1, 1) := by decide +kernel
theorem dX4_save_42 : decode cX4_save 42 = .ok (.aload_n 2, 1) := by decide +kernel
theorem dX4_save_43 : decode cX4_save 43 = .ok (.aastore, 1) := by decide +kernel
theorem dX4_save_44 : decode cX4_save 44 = .ok (.aload_n 2, 1) := by decide +kernel
theorem dX4_save_45 : decode cX4_save 45 = .ok (.aload_n 0, 1) := by decide +kernel
theorem dX4_save_46 : decode cX4_save 46 = .ok (.getfield 19, 3) := by decide +kernel
theorem dX4_save_49 : decode cX4_save 49 = .ok (.invokevirtual 220, 3) := by decide +kernel
theorem dX4_save_52 : decode cX4_save 52 = .ok (.aload_n 0, 1) := by decide +kernel
theorem dX4_save_53 : decode cX4_save 53 = .ok (.getfield 19, 3) := by decide +kernel
theorem dX4_save_56 : decode cX4_save 56 = .ok (.invokevirtual 159, 3) := by decide +kernel
theorem dX4_save_59 : decode cX4_save 59 = .ok (.ireturn, 1) := by decide +kernel
theorem dX4_restore_0 : decode cX4_restore 0 = .ok (.iload_n 1, 1) := by decide +kernel
theorem dX4_restore_1 : decode cX4_restore 1 = .ok (.iconst 0, 1) := by decide +kernel
theorem dX4_restore_2 : decode cX4_restore 2 = .ok (.iconst 1, 1) := by decide +kernel
theorem dX4_restore_3 : decode cX4_restore 3 = .ok (.invokestatic 41, 3) := by decide +kernel
theorem dX4_restore_6 : decode cX4_restore 6 = .ok (.ifCond .ne 5, 3) := by decide +kernel
theorem dX4_restore_9 : decode cX4_restore 9 = .ok (.iconst (-1), 1) := by decide +kernel
theorem dX4_restore_10 : decode cX4_restore 10 = .ok (.ireturn, 1) := by decide +kernel
theorem dX4_restore_11 : decode cX4_restore 11 = .ok (.aload_n 0, 1) := by decide +kernel
theorem dX4_restore_12 : decode cX4_restore 12 = .ok (.getfield 30, 3) := by decide +kernel
theorem dX4_restore_15 : decode cX4_restore 15 = .ok (.iload_n 1, 1) := by decide +kernel
theorem dX4_restore_16 : decode cX4_restore 16 = .ok (.aaload, 1) := by decide +kernel
theorem dX4_restore_17 : decode cX4_restore 17 = .ok (.astore_n 2, 1) := by decide +kernel
theorem dX4_restore_18 : decode cX4_restore 18 = .ok (.aload_n 2, 1) := by decide +kernel
theorem dX4_restore_19 : decode cX4_restore 19 = .ok (.ifnonnull 6, 3) := by decide +kernel
theorem dX4_restore_22 : decode cX4_restore 22 = .ok (.bipush (-2), 2) := by decide +kernel
theorem dX4_restore_24 : decode cX4_restore 24 = .ok (.ireturn, 1) := by decide +kernel
theorem dX4_restore_25 : decode cX4_restore 25 = .ok (.aload_n 0, 1) := by decide +kernel
theorem dX4_restore_26 : decode cX4_restore 26 = .ok (.getfield 19, 3) := by decide +kernel
theorem dX4_restore_29 : decode cX4_restore 29 = .ok (.aload_n 2, 1) := by decide +kernel
theorem dX4_restore_30 : decode cX4_restore 30 = .ok (.invokevirtual 220, 3) := by decide +kernel
theorem dX4_restore_33 : decode cX4_restore 33 = .ok (.aload_n 0, 1) := by decide +kernel
theorem dX4_restore_34 : decode cX4_restore 34 = .ok (.getfield 26, 3) := by decide +kernel
theorem dX4_restore_37 : decode cX4_restore 37 = .ok (.iconst 0, 1) := by decide +kernel
theorem dX4_restore_38 : decode cX4_restore 38 = .ok (.putfield 217, 3) := by decide +kernel
theorem dX4_restore_41 : decode cX4_restore 41 = .ok (.aload_n 0, 1) := by decide +kernel
theorem dX4_restore_42 : decode cX4_restore 42 = .ok (.getfield 19, 3) := by decide +kernel
theorem dX4_restore_45 : decode cX4_restore 45 = .ok (.invokevirtual 159, 3) := by decide +kernel
theorem dX4_restore_48 : decode cX4_restore 48 = .ok (.ireturn, 1) := by decide +kernel
theorem dX4_isCell_0 : decode cX4_isCell 0 = .ok (.aload_n 0, 1) := by decide +kernel
theorem dX4_isCell_1 : decode cX4_isCell 1 = .ok (.getfield 19, 3) := by decide +kernel
theorem dX4_isCell_4 : decode cX4_isCell 4 = .ok (.getfield 52, 3) := by decide +kernel
theorem dX4_isCell_7 : decode cX4_isCell 7 = .ok (.iload_n 1, 1) := by decide +kernel
theorem dX4_isCell_8 : decode cX4_isCell 8 = .ok (.invokevirtual 223, 3) := by decide +kernel
theorem dX4_isCell_11 : decode cX4_isCell 11 = .ok (.ireturn, 1) := by decide +kernel
theorem dX4_isChannel_0 : decode cX4_isChannel 0 = .ok (.iload_n 1, 1) := by decide +kernel
theorem dX4_isChannel_1 : decode cX4_isChannel 1 = .ok (.iconst 0, 1) := by decide +kernel
theorem dX4_isChannel_2 : decode cX4_isChannel 2 = .ok (.aload_n 0, 1) := by decide +kernel
theorem dX4_isChannel_3 : decode cX4_isChannel 3 = .ok (.getfield 19, 3) := by decide +kernel
theorem dX4_isChannel_6 : decode cX4_isChannel 6 = .ok (.getfield 52, 3) := by decide +kernel
theorem dX4_isChannel_9 : decode cX4_isChannel 9 = .ok (.getfield 56, 3) := by decide +kernel
theorem dX4_isChannel_12 : decode cX4_isChannel 12 = .ok (.iconst 1, 1) := by decide +kernel
theorem dX4_isChannel_13 : decode cX4_isChannel 13 = .ok (.isub, 1) := by decide +kernel
theorem dX4_isChannel_14 : decode cX4_isChannel 14 = .ok (.invokestatic 41, 3) := by decide +kernel
theorem dX4_isChannel_17 : decode cX4_isChannel 17 = .ok (.ireturn, 1) := by decide +kernel
theorem dX4_commandError_0 : decode cX4_commandError 0 = .ok (.iload_n 1, 1) := by decide +kernel
theorem dX4_commandError_1 : decode cX4_commandError 1 = .ok (.lookupswitch 54 #[(101, 36), (115, 27)], 27) := by decide +kernel
theorem dX4_commandError_28 : decode cX4_commandError 28 = .ok (.aload_n 0, 1) := by decide +kernel
theorem dX4_commandError_29 : decode cX4_commandError 29 = .ok (.getfield 19, 3) := by decide +kernel
theorem dX4_commandError_32 : decode cX4_commandError 32 = .ok (.iload_n 2, 1) := by decide +kernel
theorem dX4_commandError_33 : decode cX4_commandError 33 = .ok (.invokevirtual 89, 3) := by decide +kernel
theorem dX4_commandError_36 : decode cX4_commandError 36 = .ok (.ireturn, 1) := by decide +kernel
theorem dX4_commandError_37 : decode cX4_commandError 37 = .ok (.aload_n 0, 1) := by decide +kernel
theorem dX4_commandError_38 : decode cX4_commandError 38 = .ok (.getfield 19, 3) := by decide +kernel
theorem dX4_commandError_41 : decode cX4_commandError 41 = .ok (.iload_n 2, 1) := by decide +kernel
theorem dX4_commandError_42 : decode cX4_commandError 42 = .ok (.invokevirtual 95, 3) := by decide +kernel
theorem dX4_commandError_45 : decode cX4_commandError 45 = .ok (.ifCond .eq 7, 3) := by decide +kernel
theorem dX4_commandError_48 : decode cX4_commandError 48 = .ok (.iconst 0, 1) := by decide +kernel
theorem dX4_commandError_49 : decode cX4_commandError 49 = .ok (.goto 5, 3) := by decide +kernel
theorem dX4_commandError_52 : decode cX4_commandError 52 = .ok (.bipush (-4), 2) := by decide +kernel
theorem dX4_commandError_54 : decode cX4_commandError 54 = .ok (.ireturn, 1) := by decide +kernel
theorem dX4_commandError_55 : decode cX4_commandError 55 = .ok (.aload_n 0, 1) := by decide +kernel
theorem dX4_commandError_56 : decode cX4_commandError 56 = .ok (.getfield 19, 3) := by decide +kernel
theorem dX4_commandError_59 : decode cX4_commandError 59 = .ok (.iload_n 2, 1) := by decide +kernel
theorem dX4_commandError_60 : decode cX4_commandError 60 = .ok (.iload_n 3, 1) := by decide +kernel
theorem dX4_commandError_61 : decode cX4_commandError 61 = .ok (.invokevirtual 101, 3) := by decide +kernel
theorem dX4_commandError_64 : decode cX4_commandError 64 = .ok (.ireturn, 1) := by decide +kernel
theorem dX4_isBetween_0 : decode cX4_isBetween 0 = .ok (.iload_n 0, 1) := by decide +kernel
theorem dX4_isBetween_1 : decode cX4_isBetween 1 = .ok (.iload_n 1, 1) := by decide +kernel
theorem dX4_isBetween_2 : decode cX4_isBetween 2 = .ok (.if_icmp .lt 12, 3) := by decide +kernel
theorem dX4_isBetween_5 : decode cX4_isBetween 5 = .ok (.iload_n 0, 1) := by decide +kernel
theorem dX4_isBetween_6 : decode cX4_isBetween 6 = .ok (.iload_n 2, 1) := by decide +kernel
theorem dX4_isBetween_7 : decode cX4_isBetween 7 = .ok (.if_icmp .gt 7, 3) := by decide +kernel
theorem dX4_isBetween_10 : decode cX4_isBetween 10 = .ok (.iconst 1, 1) := by decide +kernel
theorem dX4_isBetween_11 : decode cX4_isBetween 11 = .ok (.goto 4, 3) := by decide +kernel
theorem dX4_isBetween_14 : decode cX4_isBetween 14 = .ok (.iconst 0, 1) := by decide +kernel
theorem dX4_isBetween_15 : decode cX4_isBetween 15 = .ok (.ireturn, 1) := by decide +kernel
theorem dX4_asNumber_0 : decode cX4_asNumber 0 = .ok (.iload_n 0, 1) := by decide +kernel
theorem dX4_asNumber_1 : decode cX4_asNumber 1 = .ok (.ifCond .eq 7, 3) := by decide +kernel
theorem dX4_asNumber_4 : decode cX4_asNumber 4 = .ok (.iconst 1, 1) := by decide +kernel
theorem dX4_asNumber_5 : decode cX4_asNumber 5 = .ok (.goto 4, 3) := by decide +kernel
theorem dX4_asNumber_8 : decode cX4_asNumber 8 = .ok (.iconst 0, 1) := by decide +kernel
theorem dX4_asNumber_9 : decode cX4_asNumber 9 = .ok (.ireturn, 1) := by decide +kernel
theorem dX4_contains_0 : decode cX4_contains 0 = .ok (.iload_n 0, 1) := by decide +kernel
theorem dX4_contains_1 : decode cX4_contains 1 = .ok (.iload_n 1, 1) := by decide +kernel
theorem dX4_contains_2 : decode cX4_contains 2 = .ok (.ishr, 1) := by decide +kernel
theorem dX4_contains_3 : decode cX4_contains 3 = .ok (.iconst 1, 1) := by decide +kernel
theorem dX4_contains_4 : decode cX4_contains 4 = .ok (.iand, 1) := by decide +kernel
theorem dX4_contains_5 : decode cX4_contains 5 = .ok (.ifCond .eq 7, 3) := by decide +kernel
theorem dX4_contains_8 : decode cX4_contains 8 = .ok (.iconst 1, 1) := by decide +kernel
theorem dX4_contains_9 : decode cX4_contains 9 = .ok (.goto 4, 3) := by decide +kernel
theorem dX4_contains_12 : decode cX4_contains 12 = .ok (.iconst 0, 1) := by decide +kernel
theorem dX4_contains_13 : decode cX4_contains 13 = .ok (.ireturn, 1) := by decide +kernel
theorem dX5_init_0 : decode cX5_init 0 = .ok (.aload_n 0, 1) := by decide +kernel
theorem dX5_init_1 : decode cX5_init 1 = .ok (.invokespecial 1, 3) := by decide +kernel
theorem dX5_init_4 : decode cX5_init 4 = .ok (.aload_n 0, 1) := by decide +kernel
theorem dX5_init_5 : decode cX5_init 5 = .ok (.sipush 194, 3) := by decide +kernel
theorem dX5_init_8 : decode cX5_init 8 = .ok (.newarray .int, 2) := by decide +kernel
theorem dX5_init_10 : decode cX5_init 10 = .ok (.putfield 7, 3) := by decide +kernel
theorem dX5_init_13 : decode cX5_init 13 = .ok (.aload_n 0, 1) := by decide +kernel
theorem dX5_init_14 : decode cX5_init 14 = .ok (.sipush 1164, 3) := by decide +kernel
theorem dX5_init_17 : decode cX5_init 17 = .ok (.newarray .int, 2) := by decide +kernel
theorem dX5_init_19 : decode cX5_init 19 = .ok (.putfield 13, 3) := by decide +kernel
theorem dX5_init_22 : decode cX5_init 22 = .ok (.aload_n 0, 1) := by decide +kernel
theorem dX5_init_23 : decode cX5_init 23 = .ok (.sipush 388, 3) := by decide +kernel
theorem dX5_init_26 : decode cX5_init 26 = .ok (.newarray .int, 2) := by decide +kernel
theorem dX5_init_28 : decode cX5_init 28 = .ok (.putfield 16, 3) := by decide +kernel
theorem dX5_init_31 : decode cX5_init 31 = .ok (.aload_n 0, 1) := by decide +kernel
theorem dX5_init_32 : decode cX5_init 32 = .ok (.iconst 2, 1) := by decide +kernel
theorem dX5_init_33 : decode cX5_init 33 = .ok (.newarray .boolean, 2) := by decide +kernel
theorem dX5_init_35 : decode cX5_init 35 = .ok (.putfield 19, 3) := by decide +kernel
theorem dX5_init_38 : decode cX5_init 38 = .ok (.aload_n 0, 1) := by decide +kernel
theorem dX5_init_39 : decode cX5_init 39 = .ok (.bipush 100, 2) := by decide +kernel
theorem dX5_init_41 : decode cX5_init 41 = .ok (.newarray .byte, 2) := by decide +kernel
theorem dX5_init_43 : decode cX5_init 43 = .ok (.putfield 23, 3) := by decide +kernel
theorem dX5_init_46 : decode cX5_init 46 = .ok (.aload_n 0, 1) := by decide +kernel
theorem dX5_init_47 : decode cX5_init 47 = .ok (.bipush 28, 2) := by decide +kernel
theorem dX5_init_49 : decode cX5_init 49 = .ok (.newarray .boolean, 2) := by decide +kernel
theorem dX5_init_51 : decode cX5_init 51 = .ok (.putfield 27, 3) := by decide +kernel
theorem dX5_init_54 : decode cX5_init 54 = .ok (.aload_n 0, 1) := by decide +kernel
theorem dX5_init_55 : decode cX5_init 55 = .ok (.getfield 7, 3) := by decide +kernel
theorem dX5_init_58 : decode cX5_init 58 = .ok (.iconst 0, 1) := by decide +kernel
theorem dX5_init_59 : decode cX5_init 59 = .ok (.iconst 3, 1) := by decide +kernel
theorem dX5_init_60 : decode cX5_init 60 = .ok (.iastore, 1) := by decide +kernel
theorem dX5_init_61 : decode cX5_init 61 = .ok (.aload_n 0, 1) := by decide +kernel
theorem dX5_init_62 : decode cX5_init 62 = .ok (.getfield 7, 3) := by decide +kernel
theorem dX5_init_65 : decode cX5_init 65 = .ok (.iconst 1, 1) := by decide +kernel
theorem dX5_init_66 : decode cX5_init 66 = .ok (.iconst 4, 1) := by decide +kernel
theorem dX5_init_67 : decode cX5_init 67 = .ok (.iastore, 1) := by decide +kernel
theorem dX5_init_68 : decode cX5_init 68 = .ok (.aload_n 0, 1) := by decide +kernel
theorem dX5_init_69 : decode cX5_init 69 = .ok (.getfield 7, 3) := by decide +kernel
theorem dX5_init_72 : decode cX5_init 72 = .ok (.iconst 2, 1) := by decide +kernel
theorem dX5_init_73 : decode cX5_init 73 = .ok (.iconst 2, 1) := by decide +kernel
theorem dX5_init_74 : decode cX5_init 74 = .ok (.iastore, 1) := by decide +kernel
theorem dX5_init_75 : decode cX5_init 75 = .ok (.aload_n 0, 1) := by decide +kernel
theorem dX5_init_76 : decode cX5_init 76 = .ok (.getfield 7, 3) := by decide +kernel
theorem dX5_init_79 : decode cX5_init 79 = .ok (.iconst 3, 1) := by decide +kernel
theorem dX5_init_80 : decode cX5_init 80 = .ok (.iconst 2, 1) := by decide +kernel
theorem dX5_init_81 : decode cX5_init 81 = .ok (.iastore, 1) := by decide +kernel
theorem dX5_init_82 : decode cX5_init 82 = .ok (.aload_n 0, 1) := by decide +kernel
theorem dX5_init_83 : decode cX5_init 83 = .ok (.getfield 7, 3) := by decide +kernel
theorem dX5_init_86 : decode cX5_init 86 = .ok (.bipush 6, 2) := by decide +kernel
theorem dX5_init_88 : decode cX5_init 88 = .ok (.iconst 1, 1) := by decide +kernel
theorem dX5_init_89 : decode cX5_init 89 = .ok (.iastore, 1) := by decide +kernel
theorem dX5_init_90 : decode cX5_init 90 = .ok (.return_, 1) := by decide +kernel
theorem dX5_in_0 : decode cX5_in 0 = .ok (.iload_n 0, 1) := by decide +kernel
theorem dX5_in_1 : decode cX5_in 1 = .ok (.iload_n 1, 1) := by decide +kernel
theorem dX5_in_2 : decode cX5_in 2 = .ok (.if_icmp .lt 12, 3) := by decide +kernel
theorem dX5_in_5 : decode cX5_in 5 = .ok (.iload_n 0, 1) := by decide +kernel
theorem dX5_in_6 : decode cX5_in 6 = .ok (.iload_n 2, 1) := by decide +kernel
theorem dX5_in_7 : decode cX5_in 7 = .ok (.if_icmp .gt 7, 3) := by decide +kernel
theorem dX5_in_10 : decode cX5_in 10 = .ok (.iconst 1, 1) := by decide +kernel
theorem dX5_in_11 : decode cX5_in 11 = .ok (.goto 4, 3) := by decide +kernel
theorem dX5_in_14 : decode cX5_in 14 = .ok (.iconst 0, 1) := by decide +kernel
theorem dX5_in_15 : decode cX5_in 15 = .ok (.ireturn, 1) := by decide +kernel
theorem dX5_note_0 : decode cX5_note 0 = .ok (.aload_n 0, 1) := by decide +kernel
theorem dX5_note_1 : decode cX5_note 1 = .ok (.getfield 30, 3) := by decide +kernel
theorem dX5_note_4 : decode cX5_note 4 = .ok (.bipush 6, 2) := by decide +kernel
theorem dX5_note_6 : decode cX5_note 6 = .ok (.if_icmp .ne 44, 3) := by decide +kernel
theorem dX5_note_9 : decode cX5_note 9 = .ok (.iconst 0, 1) := by decide +kernel
theorem dX5_note_10 : decode cX5_note 10 = .ok (.istore_n 1, 1) := by decide +kernel
theorem dX5_note_11 : decode cX5_note 11 = .ok (.iload_n 1, 1) := by decide +kernel
theorem dX5_note_12 : decode cX5_note 12 = .ok (.sipush 970, 3) := by decide +kernel
theorem dX5_note_15 : decode cX5_note 15 = .ok (.if_icmp .ge 25, 3) := by decide +kernel
theorem dX5_note_18 : decode cX5_note 18 = .ok (.aload_n 0, 1) := by decide +kernel
theorem dX5_note_19 : decode cX5_note 19 = .ok (.getfield 13, 3) := by decide +kernel
theorem dX5_note_22 : decode cX5_note 22 = .ok (.iload_n 1, 1) := by decide +kernel
theorem dX5_note_23 : decode cX5_note 23 = .ok (.aload_n 0, 1) := by decide +kernel
theorem dX5_note_24 : decode cX5_note 24 = .ok (.getfield 13, 3) := by decide +kernel
theorem dX5_note_27 : decode cX5_note 27 = .ok (.iload_n 1, 1) := by decide +kernel
theorem dX5_note_28 : decode cX5_note 28 = .ok (.sipush 194, 3) := by decide +kernel
theorem dX5_note_31 : decode cX5_note 31 = .ok (.iadd, 1) := by decide +kernel
theorem dX5_note_32 : decode cX5_note 32 = .ok (.iaload, 1) := by decide +kernel
theorem dX5_note_33 : decode cX5_note 33 = .ok (.iastore, 1) := by decide +kernel
theorem dX5_note_34 : decode cX5_note 34 = .ok (.iinc 1 1, 3) := by decide +kernel
theorem dX5_note_37 : decode cX5_note 37 = .ok (.goto (-26), 3) := by decide +kernel
theorem dX5_note_40 : decode cX5_note 40 = .ok (.aload_n 0, 1) := by decide +kernel
theorem dX5_note_41 : decode cX5_note 41 = .ok (.dup, 1) := by decide +kernel
theorem dX5_note_42 : decode cX5_note 42 = .ok (.getfield 30, 3) := by decide +kernel
theorem dX5_note_45 : decode cX5_note 45 = .ok (.iconst 1, 1) := by decide +kernel
theorem dX5_note_46 : decode cX5_note 46 = .ok (.isub, 1) := by decide +kernel
theorem dX5_note_47 : decode cX5_note 47 = .ok (.putfield 30, 3) := by decide +kernel
theorem dX5_note_50 : decode cX5_note 50 = .ok (.iconst 0, 1) := by decide +kernel
theorem dX5_note_51 : decode cX5_note 51 = .ok (.istore_n 1, 1) := by decide +kernel
theorem dX5_note_52 : decode cX5_note 52 = .ok (.iload_n 1, 1) := by decide +kernel
theorem dX5_note_53 : decode cX5_note 53 = .ok (.sipush 194, 3) := by decide +kernel
theorem dX5_note_56 : decode cX5_note 56 = .ok (.if_icmp .ge 30, 3) := by decide +kernel
theorem dX5_note_59 : decode cX5_note 59 = .ok (.aload_n 0, 1) := by decide +kernel
theorem dX5_note_60 : decode cX5_note 60 = .ok (.getfield 13, 3) := by decide +kernel
theorem dX5_note_63 : decode cX5_note 63 = .ok (.sipush 194, 3) := by decide +kernel
theorem dX5_note_66 : decode cX5_note 66 = .ok (.aload_n 0, 1) := by decide +kernel
theorem dX5_note_67 : decode cX5_note 67 = .ok (.getfield 30, 3) := by decide +kernel
theorem dX5_note_70 : decode cX5_note 70 = .ok (.imul, 1) := by decide +kernel
theorem dX5_note_71 : decode cX5_note 71 = .ok (.iload_n 1, 1) := by decide +kernel
theorem dX5_note_72 : decode cX5_note 72 = .ok (.iadd, 1) := by decide +kernel
theorem dX5_note_73 : decode cX5_note 73 = .ok (.aload_n 0, 1) := by decide +kernel
theorem dX5_note_74 : decode cX5_note 74 = .ok (.getfield 7, 3) := by decide +kernel
theorem dX5_note_77 : decode cX5_note 77 = .ok (.iload_n 1, 1) := by decide +kernel
theorem dX5_note_78 : decode cX5_note 78 = .ok (.iaload, 1) := by decide +kernel
theorem dX5_note_79 : decode cX5_note 79 = .ok (.iastore, 1) := by decide +kernel
theorem dX5_note_80 : decode cX5_note 80 = .ok (.iinc 1 1, 3) := by decide +kernel
theorem dX5_note_83 : decode cX5_note 83 = .ok (.goto (-31), 3) := by decide +kernel
theorem dX5_note_86 : decode cX5_note 86 = .ok (.aload_n 0, 1) := by decide +kernel
theorem dX5_note_87 : decode cX5_note 87 = .ok (.dup, 1) := by decide +kernel
theorem dX5_note_88 : decode cX5_note 88 = .ok (.getfield 30, 3) := by decide +kernel
theorem dX5_note_91 : decode cX5_note 91 = .ok (.iconst 1, 1) := by decide +kernel
theorem dX5_note_92 : decode cX5_note 92 = .ok (.iadd, 1) := by decide +kernel
theorem dX5_note_93 : decode cX5_note 93 = .ok (.putfield 30, 3) := by decide +kernel
theorem dX5_note_96 : decode cX5_note 96 = .ok (.return_, 1) := by decide +kernel
theorem dX5_undo_0 : decode cX5_undo 0 = .ok (.aload_n 0, 1) := by decide +kernel
theorem dX5_undo_1 : decode cX5_undo 1 = .ok (.getfield 30, 3) := by decide +kernel
theorem dX5_undo_4 : decode cX5_undo 4 = .ok (.ifCond .ne 6, 3) := by decide +kernel
theorem dX5_undo_7 : decode cX5_undo 7 = .ok (.bipush (-2), 2) := by decide +kernel
theorem dX5_undo_9 : decode cX5_undo 9 = .ok (.ireturn, 1) := by decide +kernel
theorem dX5_undo_10 : decode cX5_undo 10 = .ok (.aload_n 0, 1) := by decide +kernel
theorem dX5_undo_11 : decode cX5_undo 11 = .ok (.dup, 1) := by decide +kernel
theorem dX5_undo_12 : decode cX5_undo 12 = .ok (.getfield 30, 3) := by decide +kernel
theorem dX5_undo_15 : decode cX5_undo 15 = .ok (.iconst 1, 1) := by decide +kernel
theorem dX5_undo_16 : decode cX5_undo 16 = .ok (.isub, 1) := by decide +kernel
theorem dX5_undo_17 : decode cX5_undo 17 = .ok (.putfield 30, 3) := by decide +kernel
theorem dX5_undo_20 : decode cX5_undo 20 = .ok (.iconst 0, 1) := by decide +kernel
theorem dX5_undo_21 : decode cX5_undo 21 = .ok (.istore_n 1, 1) := by decide +kernel
theorem dX5_undo_22 : decode cX5_undo 22 = .ok (.iload_n 1, 1) := by decide +kernel
theorem dX5_undo_23 : decode cX5_undo 23 = .ok (.sipush 194, 3) := by decide +kernel
theorem dX5_undo_26 : decode cX5_undo 26 = .ok (.if_icmp .ge 30, 3) := by decide +kernel
theorem dX5_undo_29 : decode cX5_undo 29 = .ok (.aload_n 0, 1) := by decide +kernel
theorem dX5_undo_30 : decode cX5_undo 30 = .ok (.getfield 7, 3) := by decide +kernel
theorem dX5_undo_33 : decode cX5_undo 33 = .ok (.iload_n 1, 1) := by decide +kernel
theorem dX5_undo_34 : decode cX5_undo 34 = .ok (.aload_n 0, 1) := by decide +kernel
theorem dX5_undo_35 : decode cX5_undo 35 = .ok (.getfield 13, 3) := by decide +kernel
theorem dX5_undo_38 : decode cX5_undo 38 = .ok (.sipush 194, 3) := by decide +kernel
theorem dX5_undo_41 : decode cX5_undo 41 = .ok (.aload_n 0, 1) := by decide +kernel
theorem dX5_undo_42 : decode cX5_undo 42 = .ok (.getfield 30, 3) := by decide +kernel
theorem dX5_undo_45 : decode cX5_undo 45 = .ok (.imul, 1) := by decide +kernel
theorem dX5_undo_46 : decode cX5_undo 46 = .ok (.iload_n 1, 1) := by decide +kernel
theorem dX5_undo_47 : decode cX5_undo 47 = .ok (.iadd, 1) := by decide +kernel
theorem dX5_undo_48 : decode cX5_undo 48 = .ok (.iaload, 1) := by decide +kernel
theorem dX5_undo_49 : decode cX5_undo 49 = .ok (.iastore, 1) := by decide +kernel
theorem dX5_undo_50 : decode cX5_undo 50 = .ok (.iinc 1 1, 3) := by decide +kernel
theorem dX5_undo_53 : decode cX5_undo 53 = .ok (.goto (-31), 3) := by decide +kernel
theorem dX5_undo_56 : decode cX5_undo 56 = .ok (.aload_n 0, 1) := by decide +kernel
theorem dX5_undo_57 : decode cX5_undo 57 = .ok (.getfield 30, 3) := by decide +kernel
theorem dX5_undo_60 : decode cX5_undo 60 = .ok (.ireturn, 1) := by decide +kernel
theorem dX5_save_0 : decode cX5_save 0 = .ok (.iload_n 1, 1) := by decide +kernel
theorem dX5_save_1 : decode cX5_save 1 = .ok (.iconst 0, 1) := by decide +kernel
theorem dX5_save_2 : decode cX5_save 2 = .ok (.iconst 1, 1) := by decide +kernel
theorem dX5_save_3 : decode cX5_save 3 = .ok (.invokestatic 34, 3) := by decide +kernel
theorem dX5_save_6 : decode cX5_save 6 = .ok (.ifCond .ne 5, 3) := by decide +kernel
theorem dX5_save_9 : decode cX5_save 9 = .ok (.iconst (-1), 1) := by decide +kernel
theorem dX5_save_10 : decode cX5_save 10 = .ok (.ireturn, 1) := by decide +kernel
theorem dX5_save_11 : decode cX5_save 11 = .ok (.iconst 0, 1) := by decide +kernel
theorem dX5_save_12 : decode cX5_save 12 = .ok (.istore_n 2, 1) := by decide +kernel
theorem dX5_save_13 : decode cX5_save 13 = .ok (.iload_n 2, 1) := by decide +kernel
theorem dX5_save_14 : decode cX5_save 14 = .ok (.sipush 194, 3) := by decide +kernel
theorem dX5_save_17 : decode cX5_save 17 = .ok (.if_icmp .ge 27, 3) := by decide +kernel
theorem dX5_save_20 : decode cX5_save 20 = .ok (.aload_n 0, 1) := by decide +kernel
theorem dX5_save_21 : decode cX5_save 21 = .ok (.getfield 16, 3) := by decide +kernel
theorem dX5_save_24 : decode cX5_save 24 = .ok (.sipush 194, 3) := by decide +kernel
theorem dX5_save_27 : decode cX5_save 27 = .ok (.iload_n 1, 1) := by decide +kernel
theorem dX5_save_28 : decode cX5_save 28 = .ok (.imul, 1) := by decide +kernel
theorem dX5_save_29 : decode cX5_save 29 = .ok (.iload_n 2, 1) := by decide +kernel
theorem dX5_save_30 : decode cX5_save 30 = .ok (.iadd, 1) := by decide +kernel
theorem dX5_save_31 : decode cX5_save 31 = .ok (.aload_n 0, 1) := by decide +kernel
theorem dX5_save_32 : decode cX5_save 32 = .ok (.getfield 7, 3) := by decide +kernel
theorem dX5_save_35 : decode cX5_save 35 = .ok (.iload_n 2, 1) := by decide +kernel
theorem dX5_save_36 : decode cX5_save 36 = .ok (.iaload, 1) := by decide +kernel
theorem dX5_save_37 : decode cX5_save 37 = .ok (.iastore, 1) := by decide +kernel
theorem dX5_save_38 : decode cX5_save 38 = .ok (.iinc 2 1, 3) := by decide +kernel
theorem dX5_save_41 : decode cX5_save 41 = .ok (.goto (-28), 3) := by decide +kernel
theorem dX5_save_44 : decode cX5_save 44 = .ok (.aload_n 0, 1) := by decide +kernel
theorem dX5_save_45 : decode cX5_save 45 = .ok (.getfield 19, 3) := by decide +kernel
theorem dX5_save_48 : decode cX5_save 48 = .ok (.iload_n 1, 1) := by decide +kernel
theorem dX5_save_49 : decode cX5_save 49 = .ok (.iconst 1, 1) := by decide +kernel
theorem dX5_save_50 : decode cX5_save 50 = .ok (.bastore, 1) := by decide +kernel
theorem dX5_save_51 : decode cX5_save 51 = .ok (.aload_n 0, 1) := by decide +kernel
theorem dX5_save_52 : decode cX5_save 52 = .ok (.invokevirtual 38, 3) := by decide +kernel
theorem dX5_save_55 : decode cX5_save 55 = .ok (.ireturn, 1) := by decide +kernel
theorem dX5_restore_0 : decode cX5_restore 0 = .ok (.iload_n 1, 1) := by decide +kernel
theorem dX5_restore_1 : decode cX5_restore 1 = .ok (.iconst 0, 1) := by decide +kernel
theorem dX5_restore_2 : decode cX5_restore 2 = .ok (.iconst 1, 1) := by decide +kernel
theorem dX5_restore_3 : decode cX5_restore 3 = .ok (.invokestatic 34, 3) := by decide +kernel
theorem dX5_restore_6 : decode cX5_restore 6 = .ok (.ifCond .ne 5, 3) := by decide +kernel
theorem dX5_restore_9 : decode cX5_restore 9 = .ok (.iconst (-1), 1) := by decide +kernel
theorem dX5_restore_10 : decode cX5_restore 10 = .ok (.ireturn, 1) := by decide +kernel
theorem dX5_restore_11 : decode cX5_restore 11 = .ok (.aload_n 0, 1) := by decide +kernel
theorem dX5_restore_12 : decode cX5_restore 12 = .ok (.getfield 19, 3) := by decide +kernel
theorem dX5_restore_15 : decode cX5_restore 15 = .ok (.iload_n 1, 1) := by decide +kernel
theorem dX5_restore_16 : decode cX5_restore 16 = .ok (.baload, 1) := by decide +kernel
theorem dX5_restore_17 : decode cX5_restore 17 = .ok (.ifCond .ne 6, 3) := by decide +kernel
theorem dX5_restore_20 : decode cX5_restore 20 = .ok (.bipush (-2), 2) := by decide +kernel
theorem dX5_restore_22 : decode cX5_restore 22 = .ok (.ireturn, 1) := by decide +kernel
theorem dX5_restore_23 : decode cX5_restore 23 = .ok (.iconst 0, 1) := by decide +kernel
theorem dX5_restore_24 : decode cX5_restore 24 = .ok (.istore_n 2, 1) := by decide +kernel
theorem dX5_restore_25 : decode cX5_restore 25 = .ok (.iload_n 2, 1) := by decide +kernel
theorem dX5_restore_26 : decode cX5_restore 26 = .ok (.sipush 194, 3) := by decide +kernel
theorem dX5_restore_29 : decode cX5_restore 29 = .ok (.if_icmp .ge 27, 3) := by decide +kernel
theorem dX5_restore_32 : decode cX5_restore 32 = .ok (.aload_n 0, 1) := by decide +kernel
theorem dX5_restore_33 : decode cX5_restore 33 = .ok (.getfield 7, 3) := by decide +kernel
theorem dX5_restore_36 : decode cX5_restore 36 = .ok (.iload_n 2, 1) := by decide +kernel
theorem dX5_restore_37 : decode cX5_restore 37 = .ok (.aload_n 0, 1) := by decide +kernel
theorem dX5_restore_38 : decode cX5_restore 38 = .ok (.getfield 16, 3) := by decide +kernel
theorem dX5_restore_41 : decode cX5_restore 41 = .ok (.sipush 194, 3) := by decide +kernel
theorem dX5_restore_44 : decode cX5_restore 44 = .ok (.iload_n 1, 1) := by decide +kernel
theorem dX5_restore_45 : decode cX5_restore 45 = .ok (.imul, 1) := by decide +kernel
theorem dX5_restore_46 : decode cX5_restore 46 = .ok (.iload_n 2, 1) := by decide +kernel
theorem dX5_restore_47 : decode cX5_restore 47 = .ok (.iadd, 1) := by decide +kernel
theorem dX5_restore_48 : decode cX5_restore 48 = .ok (.iaload, 1) := by decide +kernel
theorem dX5_restore_49 : decode cX5_restore 49 = .ok (.iastore, 1) := by decide +kernel
theorem dX5_restore_50 : decode cX5_restore 50 = .ok (.iinc 2 1, 3) := by decide +kernel
theorem dX5_restore_53 : decode cX5_restore 53 = .ok (.goto (-28), 3) := by decide +kernel
theorem dX5_restore_56 : decode cX5_restore 56 = .ok (.aload_n 0, 1) := by decide +kernel
theorem dX5_restore_57 : decode cX5_restore 57 = .ok (.iconst 0, 1) := by decide +kernel
theorem dX5_restore_58 : decode cX5_restore 58 = .ok (.putfield 30, 3) := by decide +kernel
theorem dX5_restore_61 : decode cX5_restore 61 = .ok (.aload_n 0, 1) := by decide +kernel
theorem dX5_restore_62 : decode cX5_restore 62 = .ok (.invokevirtual 38, 3) := by decide +kernel
theorem dX5_restore_65 : decode cX5_restore 65 = .ok (.ireturn, 1) := by decide +kernel
theorem dX5_cells_0 : decode cX5_cells 0 = .ok (.aload_n 0, 1) := by decide +kernel
theorem dX5_cells_1 : decode cX5_cells 1 = .ok (.getfield 7, 3) := by decide +kernel
theorem dX5_cells_4 : decode cX5_cells 4 = .ok (.iconst 0, 1) := by decide +kernel
theorem dX5_cells_5 : decode cX5_cells 5 = .ok (.iaload, 1) := by decide +kernel
theorem dX5_cells_6 : decode cX5_cells 6 = .ok (.aload_n 0, 1) := by decide +kernel
theorem dX5_cells_7 : decode cX5_cells 7 = .ok (.getfield 7, 3) := by decide +kernel
theorem dX5_cells_10 : decode cX5_cells 10 = .ok (.iconst 1, 1) := by decide +kernel
theorem dX5_cells_11 : decode cX5_cells 11 = .ok (.iaload, 1) := by decide +kernel
theorem dX5_cells_12 : decode cX5_cells 12 = .ok (.imul, 1) := by decide +kernel
theorem dX5_cells_13 : decode cX5_cells 13 = .ok (.ireturn, 1) := by decide +kernel
theorem dX5_isCell_0 : decode cX5_isCell 0 = .ok (.iload_n 1, 1) := by decide +kernel
theorem dX5_isCell_1 : decode cX5_isCell 1 = .ok (.iconst 0, 1) := by decide +kernel
theorem dX5_isCell_2 : decode cX5_isCell 2 = .ok (.aload_n 0, 1) := by decide +kernel
theorem dX5_isCell_3 : decode cX5_isCell 3 = .ok (.invokevirtual 42, 3) := by decide +kernel
theorem dX5_isCell_6 : decode cX5_isCell 6 = .ok (.iconst 1, 1) := by decide +kernel
theorem dX5_isCell_7 : decode cX5_isCell 7 = .ok (.isub, 1) := by decide +kernel
theorem dX5_isCell_8 : decode cX5_isCell 8 = .ok (.invokestatic 34, 3) := by decide +kernel
theorem dX5_isCell_11 : decode cX5_isCell 11 = .ok (.ireturn, 1) := by decide +kernel
theorem dX5_groups_0 : decode cX5_groups 0 = .ok (.aload_n 0, 1) := by decide +kernel
theorem dX5_groups_1 : decode cX5_groups 1 = .ok (.getfield 7, 3) := by decide +kernel
theorem dX5_groups_4 : decode cX5_groups 4 = .ok (.iconst 2, 1) := by decide +kernel
theorem dX5_groups_5 : decode cX5_groups 5 = .ok (.iaload, 1) := by decide +kernel
theorem dX5_groups_6 : decode cX5_groups 6 = .ok (.iconst 2, 1) := by decide +kernel
theorem dX5_groups_7 : decode cX5_groups 7 = .ok (.if_icmp .ne 7, 3) := by decide +kernel
theorem dX5_groups_10 : decode cX5_groups 10 = .ok (.iconst 3, 1) := by decide +kernel
theorem dX5_groups_11 : decode cX5_groups 11 = .ok (.goto 5, 3) := by decide +kernel
theorem dX5_groups_14 : decode cX5_groups 14 = .ok (.bipush 7, 2) := by decide +kernel
theorem dX5_groups_16 : decode cX5_groups 16 = .ok (.ireturn, 1) := by decide +kernel
theorem dX5_channels_0 : decode cX5_channels 0 = .ok (.aload_n 0, 1) := by decide +kernel
theorem dX5_channels_1 : decode cX5_channels 1 = .ok (.invokevirtual 45, 3) := by decide +kernel
theorem dX5_channels_4 : decode cX5_channels 4 = .ok (.aload_n 0, 1) := by decide +kernel
theorem dX5_channels_5 : decode cX5_channels 5 = .ok (.getfield 7, 3) := by decide +kernel
theorem dX5_channels_8 : decode cX5_channels 8 = .ok (.iconst 3, 1) := by decide +kernel
theorem dX5_channels_9 : decode cX5_channels 9 = .ok (.iaload, 1) := by decide +kernel
theorem dX5_channels_10 : decode cX5_channels 10 = .ok (.imul, 1) := by decide +kernel
theorem dX5_channels_11 : decode cX5_channels 11 = .ok (.ireturn, 1) := by decide +kernel
theorem dX5_isChannel_0 : decode cX5_isChannel 0 = .ok (.iload_n 1, 1) := by decide +kernel
theorem dX5_isChannel_1 : decode cX5_isChannel 1 = .ok (.iconst 0, 1) := by decide +kernel
theorem dX5_isChannel_2 : decode cX5_isChannel 2 = .ok (.aload_n 0, 1) := by decide +kernel
theorem dX5_isChannel_3 : decode cX5_isChannel 3 = .ok (.invokevirtual 48, 3) := by decide +kernel
theorem dX5_isChannel_6 : decode cX5_isChannel 6 = .ok (.iconst 1, 1) := by decide +kernel
theorem dX5_isChannel_7 : decode cX5_isChannel 7 = .ok (.isub, 1) := by decide +kernel
theorem dX5_isChannel_8 : decode cX5_isChannel 8 = .ok (.invokestatic 34, 3) := by decide +kernel
theorem dX5_isChannel_11 : decode cX5_isChannel 11 = .ok (.ireturn, 1) := by decide +kernel
theorem dX5_group_0 : decode cX5_group 0 = .ok (.iload_n 1, 1) := by decide +kernel
theorem dX5_group_1 : decode cX5_group 1 = .ok (.aload_n 0, 1) := by decide +kernel
theorem dX5_group_2 : decode cX5_group 2 = .ok (.getfield 7, 3) := by decide +kernel
theorem dX5_group_5 : decode cX5_group 5 = .ok (.iconst 1, 1) := by decide +kernel
theorem dX5_group_6 : decode cX5_group 6 = .ok (.iaload, 1) := by decide +kernel
theorem dX5_group_7 : decode cX5_group 7 = .ok (.idiv, 1) := by decide +kernel
theorem dX5_group_8 : decode cX5_group 8 = .ok (.istore_n 2, 1) := by decide +kernel
theorem dX5_group_9 : decode cX5_group 9 = .ok (.iload_n 1, 1) := by decide +kernel
theorem dX5_group_10 : decode cX5_group 10 = .ok (.aload_n 0, 1) := by decide +kernel
theorem dX5_group_11 : decode cX5_group 11 = .ok (.getfield 7, 3) := by decide +kernel
theorem dX5_group_14 : decode cX5_group 14 = .ok (.iconst 1, 1) := by decide +kernel
theorem dX5_group_15 : decode cX5_group 15 = .ok (.iaload, 1) := by decide +kernel
theorem dX5_group_16 : decode cX5_group 16 = .ok (.irem, 1) := by decide +kernel
theorem dX5_group_17 : decode cX5_group 17 = .ok (.istore_n 3, 1) := by decide +kernel
theorem dX5_group_18 : decode cX5_group 18 = .ok (.aload_n 0, 1) := by decide +kernel
theorem dX5_group_19 : decode cX5_group 19 = .ok (.getfield 7, 3) := by decide +kernel
theorem dX5_group_22 : decode cX5_group 22 = .ok (.iconst 2, 1) := by decide +kernel
theorem dX5_group_23 : decode cX5_group 23 = .ok (.iaload, 1) := by decide +kernel
theorem dX5_group_24 : decode cX5_group 24 = .ok (.iconst 2, 1) := by decide +kernel
theorem dX5_group_25 : decode cX5_group 25 = .ok (.if_icmp .ne 13, 3) := by decide +kernel
theorem dX5_group_28 : decode cX5_group 28 = .ok (.iload_n 2, 1) := by decide +kernel
theorem dX5_group_29 : decode cX5_group 29 = .ok (.iconst 2, 1) := by decide +kernel
theorem dX5_group_30 : decode cX5_group 30 = .ok (.iload_n 3, 1) := by decide +kernel
theorem dX5_group_31 : decode cX5_group 31 = .ok (.imul, 1) := by decide +kernel
theorem dX5_group_32 : decode cX5_group 32 = .ok (.iadd, 1) := by decide +kernel
theorem dX5_group_33 : decode cX5_group 33 = .ok (.iconst 3, 1) := by decide +kernel
end
section
theorem dX5_group_34 : decode cX5_group 34 = .ok (.irem, 1) := by decide +kernel
theorem dX5_group_35 : decode cX5_group 35 = .ok (.goto 11, 3) := by decide +kernel
theorem dX5_group_38 : decode cX5_group 38 = .ok (.iload_n 2, 1) := by decide +kernel
theorem dX5_group_39 : decode cX5_group 39 = .ok (.iconst 3, 1) := by decide +kernel
theorem dX5_group_40 : decode cX5_group 40 = .ok (.iload_n 3, 1) := by decide +kernel
theorem dX5_group_41 : decode cX5_group 41 = .ok (.imul, 1) := by decide +kernel
theorem dX5_group_42 : decode cX5_group 42 = .ok (.iadd, 1) := by decide +kernel
theorem dX5_group_43 : decode cX5_group 43 = .ok (.bipush 7, 2) := by decide +kernel
theorem dX5_group_45 : decode cX5_group 45 = .ok (.irem, 1) := by decide +kernel
theorem dX5_group_46 : decode cX5_group 46 = .ok (.ireturn, 1) := by decide +kernel
theorem dX5_size_0 : decode cX5_size 0 = .ok (.iload_n 0, 1) := by decide +kernel
theorem dX5_size_1 : decode cX5_size 1 = .ok (.ifCond .ge 8, 3) := by decide +kernel
theorem dX5_size_4 : decode cX5_size 4 = .ok (.iload_n 0, 1) := by decide +kernel
theorem dX5_size_5 : decode cX5_size 5 = .ok (.ineg, 1) := by decide +kernel
theorem dX5_size_6 : decode cX5_size 6 = .ok (.goto 4, 3) := by decide +kernel
theorem dX5_size_9 : decode cX5_size 9 = .ok (.iload_n 0, 1) := by decide +kernel
theorem dX5_size_10 : decode cX5_size 10 = .ok (.ireturn, 1) := by decide +kernel
theorem dX5_far_0 : decode cX5_far 0 = .ok (.iload_n 1, 1) := by decide +kernel
theorem dX5_far_1 : decode cX5_far 1 = .ok (.aload_n 0, 1) := by decide +kernel
theorem dX5_far_2 : decode cX5_far 2 = .ok (.getfield 7, 3) := by decide +kernel
theorem dX5_far_5 : decode cX5_far 5 = .ok (.iconst 1, 1) := by decide +kernel
theorem dX5_far_6 : decode cX5_far 6 = .ok (.iaload, 1) := by decide +kernel
theorem dX5_far_7 : decode cX5_far 7 = .ok (.idiv, 1) := by decide +kernel
theorem dX5_far_8 : decode cX5_far 8 = .ok (.iload_n 2, 1) := by decide +kernel
theorem dX5_far_9 : decode cX5_far 9 = .ok (.aload_n 0, 1) := by decide +kernel
theorem dX5_far_10 : decode cX5_far 10 = .ok (.getfield 7, 3) := by decide +kernel
theorem dX5_far_13 : decode cX5_far 13 = .ok (.iconst 1, 1) := by decide +kernel
theorem dX5_far_14 : decode cX5_far 14 = .ok (.iaload, 1) := by decide +kernel
theorem dX5_far_15 : decode cX5_far 15 = .ok (.idiv, 1) := by decide +kernel
theorem dX5_far_16 : decode cX5_far 16 = .ok (.isub, 1) := by decide +kernel
theorem dX5_far_17 : decode cX5_far 17 = .ok (.istore_n 3, 1) := by decide +kernel
theorem dX5_far_18 : decode cX5_far 18 = .ok (.iload_n 1, 1) := by decide +kernel
theorem dX5_far_19 : decode cX5_far 19 = .ok (.aload_n 0, 1) := by decide +kernel
theorem dX5_far_20 : decode cX5_far 20 = .ok (.getfield 7, 3) := by decide +kernel
theorem dX5_far_23 : decode cX5_far 23 = .ok (.iconst 1, 1) := by decide +kernel
theorem dX5_far_24 : decode cX5_far 24 = .ok (.iaload, 1) := by decide +kernel
theorem dX5_far_25 : decode cX5_far 25 = .ok (.irem, 1) := by decide +kernel
theorem dX5_far_26 : decode cX5_far 26 = .ok (.iload_n 2, 1) := by decide +kernel
theorem dX5_far_27 : decode cX5_far 27 = .ok (.aload_n 0, 1) := by decide +kernel
theorem dX5_far_28 : decode cX5_far 28 = .ok (.getfield 7, 3) := by decide +kernel
theorem dX5_far_31 : decode cX5_far 31 = .ok (.iconst 1, 1) := by decide +kernel
theorem dX5_far_32 : decode cX5_far 32 = .ok (.iaload, 1) := by decide +kernel
theorem dX5_far_33 : decode cX5_far 33 = .ok (.irem, 1) := by decide +kernel
theorem dX5_far_34 : decode cX5_far 34 = .ok (.isub, 1) := by decide +kernel
theorem dX5_far_35 : decode cX5_far 35 = .ok (.istore 4, 2) := by decide +kernel
theorem dX5_far_37 : decode cX5_far 37 = .ok (.iload_n 3, 1) := by decide +kernel
theorem dX5_far_38 : decode cX5_far 38 = .ok (.invokestatic 51, 3) := by decide +kernel
theorem dX5_far_41 : decode cX5_far 41 = .ok (.iload 4, 2) := by decide +kernel
theorem dX5_far_43 : decode cX5_far 43 = .ok (.invokestatic 51, 3) := by decide +kernel
theorem dX5_far_46 : decode cX5_far 46 = .ok (.if_icmp .le 10, 3) := by decide +kernel
theorem dX5_far_49 : decode cX5_far 49 = .ok (.iload_n 3, 1) := by decide +kernel
theorem dX5_far_50 : decode cX5_far 50 = .ok (.invokestatic 51, 3) := by decide +kernel
theorem dX5_far_53 : decode cX5_far 53 = .ok (.goto 8, 3) := by decide +kernel
theorem dX5_far_56 : decode cX5_far 56 = .ok (.iload 4, 2) := by decide +kernel
theorem dX5_far_58 : decode cX5_far 58 = .ok (.invokestatic 51, 3) := by decide +kernel
theorem dX5_far_61 : decode cX5_far 61 = .ok (.istore 5, 2) := by decide +kernel
theorem dX5_far_63 : decode cX5_far 63 = .ok (.iload_n 3, 1) := by decide +kernel
theorem dX5_far_64 : decode cX5_far 64 = .ok (.iload 4, 2) := by decide +kernel
theorem dX5_far_66 : decode cX5_far 66 = .ok (.iadd, 1) := by decide +kernel
theorem dX5_far_67 : decode cX5_far 67 = .ok (.invokestatic 51, 3) := by decide +kernel
theorem dX5_far_70 : decode cX5_far 70 = .ok (.iload 5, 2) := by decide +kernel
theorem dX5_far_72 : decode cX5_far 72 = .ok (.if_icmp .le 13, 3) := by decide +kernel
theorem dX5_far_75 : decode cX5_far 75 = .ok (.iload_n 3, 1) := by decide +kernel
theorem dX5_far_76 : decode cX5_far 76 = .ok (.iload 4, 2) := by decide +kernel
theorem dX5_far_78 : decode cX5_far 78 = .ok (.iadd, 1) := by decide +kernel
theorem dX5_far_79 : decode cX5_far 79 = .ok (.invokestatic 51, 3) := by decide +kernel
theorem dX5_far_82 : decode cX5_far 82 = .ok (.goto 5, 3) := by decide +kernel
theorem dX5_far_85 : decode cX5_far 85 = .ok (.iload 5, 2) := by decide +kernel
theorem dX5_far_87 : decode cX5_far 87 = .ok (.ireturn, 1) := by decide +kernel
theorem dX5_isNominal_0 : decode cX5_isNominal 0 = .ok (.iload_n 2, 1) := by decide +kernel
theorem dX5_isNominal_1 : decode cX5_isNominal 1 = .ok (.aload_n 0, 1) := by decide +kernel
theorem dX5_isNominal_2 : decode cX5_isNominal 2 = .ok (.invokevirtual 45, 3) := by decide +kernel
theorem dX5_isNominal_5 : decode cX5_isNominal 5 = .ok (.irem, 1) := by decide +kernel
theorem dX5_isNominal_6 : decode cX5_isNominal 6 = .ok (.aload_n 0, 1) := by decide +kernel
theorem dX5_isNominal_7 : decode cX5_isNominal 7 = .ok (.iload_n 1, 1) := by decide +kernel
theorem dX5_isNominal_8 : decode cX5_isNominal 8 = .ok (.invokevirtual 55, 3) := by decide +kernel
theorem dX5_isNominal_11 : decode cX5_isNominal 11 = .ok (.if_icmp .ne 7, 3) := by decide +kernel
theorem dX5_isNominal_14 : decode cX5_isNominal 14 = .ok (.iconst 1, 1) := by decide +kernel
theorem dX5_isNominal_15 : decode cX5_isNominal 15 = .ok (.goto 4, 3) := by decide +kernel
theorem dX5_isNominal_18 : decode cX5_isNominal 18 = .ok (.iconst 0, 1) := by decide +kernel
theorem dX5_isNominal_19 : decode cX5_isNominal 19 = .ok (.ireturn, 1) := by decide +kernel
theorem dX5_uses_0 : decode cX5_uses 0 = .ok (.iconst 0, 1) := by decide +kernel
theorem dX5_uses_1 : decode cX5_uses 1 = .ok (.istore_n 3, 1) := by decide +kernel
theorem dX5_uses_2 : decode cX5_uses 2 = .ok (.iconst 0, 1) := by decide +kernel
theorem dX5_uses_3 : decode cX5_uses 3 = .ok (.istore 4, 2) := by decide +kernel
theorem dX5_uses_5 : decode cX5_uses 5 = .ok (.iload 4, 2) := by decide +kernel
theorem dX5_uses_7 : decode cX5_uses 7 = .ok (.bipush 60, 2) := by decide +kernel
theorem dX5_uses_9 : decode cX5_uses 9 = .ok (.if_icmp .ge 51, 3) := by decide +kernel
theorem dX5_uses_12 : decode cX5_uses 12 = .ok (.iload_n 3, 1) := by decide +kernel
theorem dX5_uses_13 : decode cX5_uses 13 = .ok (.ifCond .ne 35, 3) := by decide +kernel
theorem dX5_uses_16 : decode cX5_uses 16 = .ok (.aload_n 0, 1) := by decide +kernel
theorem dX5_uses_17 : decode cX5_uses 17 = .ok (.getfield 7, 3) := by decide +kernel
theorem dX5_uses_20 : decode cX5_uses 20 = .ok (.bipush 14, 2) := by decide +kernel
theorem dX5_uses_22 : decode cX5_uses 22 = .ok (.iload 4, 2) := by decide +kernel
theorem dX5_uses_24 : decode cX5_uses 24 = .ok (.iadd, 1) := by decide +kernel
theorem dX5_uses_25 : decode cX5_uses 25 = .ok (.iaload, 1) := by decide +kernel
theorem dX5_uses_26 : decode cX5_uses 26 = .ok (.iload_n 1, 1) := by decide +kernel
theorem dX5_uses_27 : decode cX5_uses 27 = .ok (.iconst 1, 1) := by decide +kernel
theorem dX5_uses_28 : decode cX5_uses 28 = .ok (.iadd, 1) := by decide +kernel
theorem dX5_uses_29 : decode cX5_uses 29 = .ok (.if_icmp .ne 23, 3) := by decide +kernel
theorem dX5_uses_32 : decode cX5_uses 32 = .ok (.aload_n 0, 1) := by decide +kernel
theorem dX5_uses_33 : decode cX5_uses 33 = .ok (.getfield 7, 3) := by decide +kernel
theorem dX5_uses_36 : decode cX5_uses 36 = .ok (.bipush 74, 2) := by decide +kernel
theorem dX5_uses_38 : decode cX5_uses 38 = .ok (.iload 4, 2) := by decide +kernel
theorem dX5_uses_40 : decode cX5_uses 40 = .ok (.iadd, 1) := by decide +kernel
theorem dX5_uses_41 : decode cX5_uses 41 = .ok (.iaload, 1) := by decide +kernel
theorem dX5_uses_42 : decode cX5_uses 42 = .ok (.iload_n 2, 1) := by decide +kernel
theorem dX5_uses_43 : decode cX5_uses 43 = .ok (.iconst 1, 1) := by decide +kernel
theorem dX5_uses_44 : decode cX5_uses 44 = .ok (.iadd, 1) := by decide +kernel
theorem dX5_uses_45 : decode cX5_uses 45 = .ok (.if_icmp .ne 7, 3) := by decide +kernel
theorem dX5_uses_48 : decode cX5_uses 48 = .ok (.iconst 1, 1) := by decide +kernel
theorem dX5_uses_49 : decode cX5_uses 49 = .ok (.goto 4, 3) := by decide +kernel
theorem dX5_uses_52 : decode cX5_uses 52 = .ok (.iconst 0, 1) := by decide +kernel
theorem dX5_uses_53 : decode cX5_uses 53 = .ok (.istore_n 3, 1) := by decide +kernel
theorem dX5_uses_54 : decode cX5_uses 54 = .ok (.iinc 4 1, 3) := by decide +kernel
theorem dX5_uses_57 : decode cX5_uses 57 = .ok (.goto (-52), 3) := by decide +kernel
theorem dX5_uses_60 : decode cX5_uses 60 = .ok (.iload_n 3, 1) := by decide +kernel
theorem dX5_uses_61 : decode cX5_uses 61 = .ok (.ireturn, 1) := by decide +kernel
theorem dX5_locks_0 : decode cX5_locks 0 = .ok (.iconst 0, 1) := by decide +kernel
theorem dX5_locks_1 : decode cX5_locks 1 = .ok (.istore_n 3, 1) := by decide +kernel
theorem dX5_locks_2 : decode cX5_locks 2 = .ok (.iconst 0, 1) := by decide +kernel
theorem dX5_locks_3 : decode cX5_locks 3 = .ok (.istore 4, 2) := by decide +kernel
theorem dX5_locks_5 : decode cX5_locks 5 = .ok (.iload 4, 2) := by decide +kernel
theorem dX5_locks_7 : decode cX5_locks 7 = .ok (.aload_n 0, 1) := by decide +kernel
theorem dX5_locks_8 : decode cX5_locks 8 = .ok (.invokevirtual 42, 3) := by decide +kernel
theorem dX5_locks_11 : decode cX5_locks 11 = .ok (.if_icmp .ge 49, 3) := by decide +kernel
theorem dX5_locks_14 : decode cX5_locks 14 = .ok (.iload_n 3, 1) := by decide +kernel
theorem dX5_locks_15 : decode cX5_locks 15 = .ok (.iload 4, 2) := by decide +kernel
theorem dX5_locks_17 : decode cX5_locks 17 = .ok (.iload_n 1, 1) := by decide +kernel
theorem dX5_locks_18 : decode cX5_locks 18 = .ok (.if_icmp .eq 33, 3) := by decide +kernel
theorem dX5_locks_21 : decode cX5_locks 21 = .ok (.aload_n 0, 1) := by decide +kernel
theorem dX5_locks_22 : decode cX5_locks 22 = .ok (.iload 4, 2) := by decide +kernel
theorem dX5_locks_24 : decode cX5_locks 24 = .ok (.iload_n 1, 1) := by decide +kernel
theorem dX5_locks_25 : decode cX5_locks 25 = .ok (.invokevirtual 58, 3) := by decide +kernel
theorem dX5_locks_28 : decode cX5_locks 28 = .ok (.aload_n 0, 1) := by decide +kernel
theorem dX5_locks_29 : decode cX5_locks 29 = .ok (.getfield 7, 3) := by decide +kernel
theorem dX5_locks_32 : decode cX5_locks 32 = .ok (.iconst 2, 1) := by decide +kernel
theorem dX5_locks_33 : decode cX5_locks 33 = .ok (.iaload, 1) := by decide +kernel
theorem dX5_locks_34 : decode cX5_locks 34 = .ok (.if_icmp .ge 17, 3) := by decide +kernel
theorem dX5_locks_37 : decode cX5_locks 37 = .ok (.aload_n 0, 1) := by decide +kernel
theorem dX5_locks_38 : decode cX5_locks 38 = .ok (.iload 4, 2) := by decide +kernel
theorem dX5_locks_40 : decode cX5_locks 40 = .ok (.iload_n 2, 1) := by decide +kernel
theorem dX5_locks_41 : decode cX5_locks 41 = .ok (.invokevirtual 62, 3) := by decide +kernel
theorem dX5_locks_44 : decode cX5_locks 44 = .ok (.ifCond .eq 7, 3) := by decide +kernel
theorem dX5_locks_47 : decode cX5_locks 47 = .ok (.iconst 1, 1) := by decide +kernel
theorem dX5_locks_48 : decode cX5_locks 48 = .ok (.goto 4, 3) := by decide +kernel
theorem dX5_locks_51 : decode cX5_locks 51 = .ok (.iconst 0, 1) := by decide +kernel
theorem dX5_locks_52 : decode cX5_locks 52 = .ok (.iadd, 1) := by decide +kernel
theorem dX5_locks_53 : decode cX5_locks 53 = .ok (.istore_n 3, 1) := by decide +kernel
theorem dX5_locks_54 : decode cX5_locks 54 = .ok (.iinc 4 1, 3) := by decide +kernel
theorem dX5_locks_57 : decode cX5_locks 57 = .ok (.goto (-52), 3) := by decide +kernel
theorem dX5_locks_60 : decode cX5_locks 60 = .ok (.iload_n 3, 1) := by decide +kernel
theorem dX5_locks_61 : decode cX5_locks 61 = .ok (.ireturn, 1) := by decide +kernel
theorem dX5_available_0 : decode cX5_available 0 = .ok (.aload_n 0, 1) := by decide +kernel
theorem dX5_available_1 : decode cX5_available 1 = .ok (.iload_n 1, 1) := by decide +kernel
theorem dX5_available_2 : decode cX5_available 2 = .ok (.iload_n 2, 1) := by decide +kernel
theorem dX5_available_3 : decode cX5_available 3 = .ok (.invokevirtual 62, 3) := by decide +kernel
theorem dX5_available_6 : decode cX5_available 6 = .ok (.ifCond .ne 16, 3) := by decide +kernel
theorem dX5_available_9 : decode cX5_available 9 = .ok (.aload_n 0, 1) := by decide +kernel
theorem dX5_available_10 : decode cX5_available 10 = .ok (.iload_n 1, 1) := by decide +kernel
theorem dX5_available_11 : decode cX5_available 11 = .ok (.iload_n 2, 1) := by decide +kernel
theorem dX5_available_12 : decode cX5_available 12 = .ok (.invokevirtual 66, 3) := by decide +kernel
theorem dX5_available_15 : decode cX5_available 15 = .ok (.ifCond .ne 7, 3) := by decide +kernel
theorem dX5_available_18 : decode cX5_available 18 = .ok (.iconst 1, 1) := by decide +kernel
theorem dX5_available_19 : decode cX5_available 19 = .ok (.goto 4, 3) := by decide +kernel
theorem dX5_available_22 : decode cX5_available 22 = .ok (.iconst 0, 1) := by decide +kernel
theorem dX5_available_23 : decode cX5_available 23 = .ok (.ireturn, 1) := by decide +kernel
theorem dX5_burdenOf_0 : decode cX5_burdenOf 0 = .ok (.iconst 0, 1) := by decide +kernel
theorem dX5_burdenOf_1 : decode cX5_burdenOf 1 = .ok (.istore_n 3, 1) := by decide +kernel
theorem dX5_burdenOf_2 : decode cX5_burdenOf 2 = .ok (.iconst 0, 1) := by decide +kernel
theorem dX5_burdenOf_3 : decode cX5_burdenOf 3 = .ok (.istore 4, 2) := by decide +kernel
theorem dX5_burdenOf_5 : decode cX5_burdenOf 5 = .ok (.iload 4, 2) := by decide +kernel
theorem dX5_burdenOf_7 : decode cX5_burdenOf 7 = .ok (.aload_n 0, 1) := by decide +kernel
theorem dX5_burdenOf_8 : decode cX5_burdenOf 8 = .ok (.invokevirtual 42, 3) := by decide +kernel
theorem dX5_burdenOf_11 : decode cX5_burdenOf 11 = .ok (.if_icmp .ge 49, 3) := by decide +kernel
theorem dX5_burdenOf_14 : decode cX5_burdenOf 14 = .ok (.iload_n 3, 1) := by decide +kernel
theorem dX5_burdenOf_15 : decode cX5_burdenOf 15 = .ok (.iload 4, 2) := by decide +kernel
theorem dX5_burdenOf_17 : decode cX5_burdenOf 17 = .ok (.iload_n 1, 1) := by decide +kernel
theorem dX5_burdenOf_18 : decode cX5_burdenOf 18 = .ok (.if_icmp .eq 33, 3) := by decide +kernel
theorem dX5_burdenOf_21 : decode cX5_burdenOf 21 = .ok (.aload_n 0, 1) := by decide +kernel
theorem dX5_burdenOf_22 : decode cX5_burdenOf 22 = .ok (.iload 4, 2) := by decide +kernel
theorem dX5_burdenOf_24 : decode cX5_burdenOf 24 = .ok (.iload_n 1, 1) := by decide +kernel
theorem dX5_burdenOf_25 : decode cX5_burdenOf 25 = .ok (.invokevirtual 58, 3) := by decide +kernel
theorem dX5_burdenOf_28 : decode cX5_burdenOf 28 = .ok (.aload_n 0, 1) := by decide +kernel
theorem dX5_burdenOf_29 : decode cX5_burdenOf 29 = .ok (.getfield 7, 3) := by decide +kernel
theorem dX5_burdenOf_32 : decode cX5_burdenOf 32 = .ok (.iconst 2, 1) := by decide +kernel
theorem dX5_burdenOf_33 : decode cX5_burdenOf 33 = .ok (.iaload, 1) := by decide +kernel
theorem dX5_burdenOf_34 : decode cX5_burdenOf 34 = .ok (.if_icmp .ge 17, 3) := by decide +kernel
theorem dX5_burdenOf_37 : decode cX5_burdenOf 37 = .ok (.aload_n 0, 1) := by decide +kernel
theorem dX5_burdenOf_38 : decode cX5_burdenOf 38 = .ok (.iload 4, 2) := by decide +kernel
theorem dX5_burdenOf_40 : decode cX5_burdenOf 40 = .ok (.iload_n 2, 1) := by decide +kernel
theorem dX5_burdenOf_41 : decode cX5_burdenOf 41 = .ok (.invokevirtual 69, 3) := by decide +kernel
theorem dX5_burdenOf_44 : decode cX5_burdenOf 44 = .ok (.ifCond .eq 7, 3) := by decide +kernel
theorem dX5_burdenOf_47 : decode cX5_burdenOf 47 = .ok (.iconst 1, 1) := by decide +kernel
theorem dX5_burdenOf_48 : decode cX5_burdenOf 48 = .ok (.goto 4, 3) := by decide +kernel
theorem dX5_burdenOf_51 : decode cX5_burdenOf 51 = .ok (.iconst 0, 1) := by decide +kernel
theorem dX5_burdenOf_52 : decode cX5_burdenOf 52 = .ok (.iadd, 1) := by decide +kernel
theorem dX5_burdenOf_53 : decode cX5_burdenOf 53 = .ok (.istore_n 3, 1) := by decide +kernel
theorem dX5_burdenOf_54 : decode cX5_burdenOf 54 = .ok (.iinc 4 1, 3) := by decide +kernel
theorem dX5_burdenOf_57 : decode cX5_burdenOf 57 = .ok (.goto (-52), 3) := by decide +kernel
theorem dX5_burdenOf_60 : decode cX5_burdenOf 60 = .ok (.iload_n 3, 1) := by decide +kernel
theorem dX5_burdenOf_61 : decode cX5_burdenOf 61 = .ok (.ireturn, 1) := by decide +kernel
theorem dX5_availables_0 : decode cX5_availables 0 = .ok (.iconst 0, 1) := by decide +kernel
theorem dX5_availables_1 : decode cX5_availables 1 = .ok (.istore_n 2, 1) := by decide +kernel
theorem dX5_availables_2 : decode cX5_availables 2 = .ok (.iconst 0, 1) := by decide +kernel
theorem dX5_availables_3 : decode cX5_availables 3 = .ok (.istore_n 3, 1) := by decide +kernel
theorem dX5_availables_4 : decode cX5_availables 4 = .ok (.iload_n 3, 1) := by decide +kernel
theorem dX5_availables_5 : decode cX5_availables 5 = .ok (.aload_n 0, 1) := by decide +kernel
theorem dX5_availables_6 : decode cX5_availables 6 = .ok (.invokevirtual 48, 3) := by decide +kernel
theorem dX5_availables_9 : decode cX5_availables 9 = .ok (.if_icmp .ge 35, 3) := by decide +kernel
theorem dX5_availables_12 : decode cX5_availables 12 = .ok (.iload_n 2, 1) := by decide +kernel
theorem dX5_availables_13 : decode cX5_availables 13 = .ok (.aload_n 0, 1) := by decide +kernel
theorem dX5_availables_14 : decode cX5_availables 14 = .ok (.iload_n 1, 1) := by decide +kernel
theorem dX5_availables_15 : decode cX5_availables 15 = .ok (.iload_n 3, 1) := by decide +kernel
theorem dX5_availables_16 : decode cX5_availables 16 = .ok (.invokevirtual 69, 3) := by decide +kernel
theorem dX5_availables_19 : decode cX5_availables 19 = .ok (.ifCond .eq 16, 3) := by decide +kernel
theorem dX5_availables_22 : decode cX5_availables 22 = .ok (.aload_n 0, 1) := by decide +kernel
theorem dX5_availables_23 : decode cX5_availables 23 = .ok (.iload_n 1, 1) := by decide +kernel
theorem dX5_availables_24 : decode cX5_availables 24 = .ok (.iload_n 3, 1) := by decide +kernel
theorem dX5_availables_25 : decode cX5_availables 25 = .ok (.invokevirtual 72, 3) := by decide +kernel
theorem dX5_availables_28 : decode cX5_availables 28 = .ok (.ifCond .eq 7, 3) := by decide +kernel
theorem dX5_availables_31 : decode cX5_availables 31 = .ok (.iconst 1, 1) := by decide +kernel
theorem dX5_availables_32 : decode cX5_availables 32 = .ok (.goto 4, 3) := by decide +kernel
theorem dX5_availables_35 : decode cX5_availables 35 = .ok (.iconst 0, 1) := by decide +kernel
theorem dX5_availables_36 : decode cX5_availables 36 = .ok (.iadd, 1) := by decide +kernel
theorem dX5_availables_37 : decode cX5_availables 37 = .ok (.istore_n 2, 1) := by decide +kernel
theorem dX5_availables_38 : decode cX5_availables 38 = .ok (.iinc 3 1, 3) := by decide +kernel
theorem dX5_availables_41 : decode cX5_availables 41 = .ok (.goto (-37), 3) := by decide +kernel
theorem dX5_availables_44 : decode cX5_availables 44 = .ok (.iload_n 2, 1) := by decide +kernel
theorem dX5_availables_45 : decode cX5_availables 45 = .ok (.ireturn, 1) := by decide +kernel
theorem dX5_nominal_0 : decode cX5_nominal 0 = .ok (.iconst 0, 1) := by decide +kernel
theorem dX5_nominal_1 : decode cX5_nominal 1 = .ok (.istore_n 2, 1) := by decide +kernel
theorem dX5_nominal_2 : decode cX5_nominal 2 = .ok (.iload_n 2, 1) := by decide +kernel
theorem dX5_nominal_3 : decode cX5_nominal 3 = .ok (.aload_n 0, 1) := by decide +kernel
theorem dX5_nominal_4 : decode cX5_nominal 4 = .ok (.invokevirtual 48, 3) := by decide +kernel
theorem dX5_nominal_7 : decode cX5_nominal 7 = .ok (.if_icmp .ge 29, 3) := by decide +kernel
theorem dX5_nominal_10 : decode cX5_nominal 10 = .ok (.aload_n 0, 1) := by decide +kernel
theorem dX5_nominal_11 : decode cX5_nominal 11 = .ok (.iload_n 1, 1) := by decide +kernel
theorem dX5_nominal_12 : decode cX5_nominal 12 = .ok (.iload_n 2, 1) := by decide +kernel
theorem dX5_nominal_13 : decode cX5_nominal 13 = .ok (.invokevirtual 69, 3) := by decide +kernel
theorem dX5_nominal_16 : decode cX5_nominal 16 = .ok (.ifCond .eq 14, 3) := by decide +kernel
theorem dX5_nominal_19 : decode cX5_nominal 19 = .ok (.aload_n 0, 1) := by decide +kernel
theorem dX5_nominal_20 : decode cX5_nominal 20 = .ok (.iload_n 1, 1) := by decide +kernel
theorem dX5_nominal_21 : decode cX5_nominal 21 = .ok (.iload_n 2, 1) := by decide +kernel
theorem dX5_nominal_22 : decode cX5_nominal 22 = .ok (.invokevirtual 72, 3) := by decide +kernel
theorem dX5_nominal_25 : decode cX5_nominal 25 = .ok (.ifCond .eq 5, 3) := by decide +kernel
theorem dX5_nominal_28 : decode cX5_nominal 28 = .ok (.iload_n 2, 1) := by decide +kernel
theorem dX5_nominal_29 : decode cX5_nominal 29 = .ok (.ireturn, 1) := by decide +kernel
theorem dX5_nominal_30 : decode cX5_nominal 30 = .ok (.iinc 2 1, 3) := by decide +kernel
theorem dX5_nominal_33 : decode cX5_nominal 33 = .ok (.goto (-31), 3) := by decide +kernel
theorem dX5_nominal_36 : decode cX5_nominal 36 = .ok (.bipush (-9), 2) := by decide +kernel
theorem dX5_nominal_38 : decode cX5_nominal 38 = .ok (.ireturn, 1) := by decide +kernel
theorem dX5_choose_0 : decode cX5_choose 0 = .ok (.aload_n 0, 1) := by decide +kernel
theorem dX5_choose_1 : decode cX5_choose 1 = .ok (.bipush (-9), 2) := by decide +kernel
theorem dX5_choose_3 : decode cX5_choose 3 = .ok (.putfield 75, 3) := by decide +kernel
theorem dX5_choose_6 : decode cX5_choose 6 = .ok (.aload_n 0, 1) := by decide +kernel
theorem dX5_choose_7 : decode cX5_choose 7 = .ok (.iload_n 1, 1) := by decide +kernel
theorem dX5_choose_8 : decode cX5_choose 8 = .ok (.invokevirtual 78, 3) := by decide +kernel
theorem dX5_choose_11 : decode cX5_choose 11 = .ok (.istore_n 2, 1) := by decide +kernel
theorem dX5_choose_12 : decode cX5_choose 12 = .ok (.iload_n 2, 1) := by decide +kernel
theorem dX5_choose_13 : decode cX5_choose 13 = .ok (.bipush (-9), 2) := by decide +kernel
theorem dX5_choose_15 : decode cX5_choose 15 = .ok (.if_icmp .eq 5, 3) := by decide +kernel
theorem dX5_choose_18 : decode cX5_choose 18 = .ok (.iload_n 2, 1) := by decide +kernel
theorem dX5_choose_19 : decode cX5_choose 19 = .ok (.ireturn, 1) := by decide +kernel
theorem dX5_choose_20 : decode cX5_choose 20 = .ok (.iconst 0, 1) := by decide +kernel
theorem dX5_choose_21 : decode cX5_choose 21 = .ok (.istore_n 3, 1) := by decide +kernel
theorem dX5_choose_22 : decode cX5_choose 22 = .ok (.iload_n 3, 1) := by decide +kernel
theorem dX5_choose_23 : decode cX5_choose 23 = .ok (.aload_n 0, 1) := by decide +kernel
theorem dX5_choose_24 : decode cX5_choose 24 = .ok (.invokevirtual 48, 3) := by decide +kernel
theorem dX5_choose_27 : decode cX5_choose 27 = .ok (.if_icmp .ge 21, 3) := by decide +kernel
theorem dX5_choose_30 : decode cX5_choose 30 = .ok (.aload_n 0, 1) := by decide +kernel
theorem dX5_choose_31 : decode cX5_choose 31 = .ok (.getfield 27, 3) := by decide +kernel
theorem dX5_choose_34 : decode cX5_choose 34 = .ok (.iload_n 3, 1) := by decide +kernel
theorem dX5_choose_35 : decode cX5_choose 35 = .ok (.aload_n 0, 1) := by decide +kernel
theorem dX5_choose_36 : decode cX5_choose 36 = .ok (.iload_n 1, 1) := by decide +kernel
theorem dX5_choose_37 : decode cX5_choose 37 = .ok (.iload_n 3, 1) := by decide +kernel
theorem dX5_choose_38 : decode cX5_choose 38 = .ok (.invokevirtual 72, 3) := by decide +kernel
theorem dX5_choose_41 : decode cX5_choose 41 = .ok (.bastore, 1) := by decide +kernel
theorem dX5_choose_42 : decode cX5_choose 42 = .ok (.iinc 3 1, 3) := by decide +kernel
theorem dX5_choose_45 : decode cX5_choose 45 = .ok (.goto (-23), 3) := by decide +kernel
theorem dX5_choose_48 : decode cX5_choose 48 = .ok (.iconst 0, 1) := by decide +kernel
theorem dX5_choose_49 : decode cX5_choose 49 = .ok (.istore_n 3, 1) := by decide +kernel
theorem dX5_choose_50 : decode cX5_choose 50 = .ok (.iconst 0, 1) := by decide +kernel
theorem dX5_choose_51 : decode cX5_choose 51 = .ok (.istore 4, 2) := by decide +kernel
theorem dX5_choose_53 : decode cX5_choose 53 = .ok (.iload 4, 2) := by decide +kernel
theorem dX5_choose_55 : decode cX5_choose 55 = .ok (.aload_n 0, 1) := by decide +kernel
theorem dX5_choose_56 : decode cX5_choose 56 = .ok (.invokevirtual 42, 3) := by decide +kernel
theorem dX5_choose_59 : decode cX5_choose 59 = .ok (.if_icmp .ge 182, 3) := by decide +kernel
theorem dX5_choose_62 : decode cX5_choose 62 = .ok (.aload_n 0, 1) := by decide +kernel
theorem dX5_choose_63 : decode cX5_choose 63 = .ok (.iload 4, 2) := by decide +kernel
theorem dX5_choose_65 : decode cX5_choose 65 = .ok (.iload_n 1, 1) := by decide +kernel
theorem dX5_choose_66 : decode cX5_choose 66 = .ok (.invokevirtual 58, 3) := by decide +kernel
theorem dX5_choose_69 : decode cX5_choose 69 = .ok (.iconst 1, 1) := by decide +kernel
theorem dX5_choose_70 : decode cX5_choose 70 = .ok (.if_icmp .ne 12, 3) := by decide +kernel
theorem dX5_choose_73 : decode cX5_choose 73 = .ok (.aload_n 0, 1) := by decide +kernel
theorem dX5_choose_74 : decode cX5_choose 74 = .ok (.iload 4, 2) := by decide +kernel
theorem dX5_choose_76 : decode cX5_choose 76 = .ok (.invokevirtual 81, 3) := by decide +kernel
theorem dX5_choose_79 : decode cX5_choose 79 = .ok (.goto 4, 3) := by decide +kernel
theorem dX5_choose_82 : decode cX5_choose 82 = .ok (.iconst 0, 1) := by decide +kernel
theorem dX5_choose_83 : decode cX5_choose 83 = .ok (.istore 5, 2) := by decide +kernel
theorem dX5_choose_85 : decode cX5_choose 85 = .ok (.aload_n 0, 1) := by decide +kernel
theorem dX5_choose_86 : decode cX5_choose 86 = .ok (.invokevirtual 48, 3) := by decide +kernel
theorem dX5_choose_89 : decode cX5_choose 89 = .ok (.iconst 1, 1) := by decide +kernel
theorem dX5_choose_90 : decode cX5_choose 90 = .ok (.isub, 1) := by decide +kernel
theorem dX5_choose_91 : decode cX5_choose 91 = .ok (.istore 6, 2) := by decide +kernel
theorem dX5_choose_93 : decode cX5_choose 93 = .ok (.iload 6, 2) := by decide +kernel
theorem dX5_choose_95 : decode cX5_choose 95 = .ok (.ifCond .lt 140, 3) := by decide +kernel
theorem dX5_choose_98 : decode cX5_choose 98 = .ok (.iload 5, 2) := by decide +kernel
theorem dX5_choose_100 : decode cX5_choose 100 = .ok (.aload_n 0, 1) := by decide +kernel
theorem dX5_choose_101 : decode cX5_choose 101 = .ok (.getfield 7, 3) := by decide +kernel
theorem dX5_choose_104 : decode cX5_choose 104 = .ok (.iconst 5, 1) := by decide +kernel
theorem dX5_choose_105 : decode cX5_choose 105 = .ok (.iaload, 1) := by decide +kernel
theorem dX5_choose_106 : decode cX5_choose 106 = .ok (.if_icmp .le 129, 3) := by decide +kernel
theorem dX5_choose_109 : decode cX5_choose 109 = .ok (.aload_n 0, 1) := by decide +kernel
theorem dX5_choose_110 : decode cX5_choose 110 = .ok (.getfield 27, 3) := by decide +kernel
theorem dX5_choose_113 : decode cX5_choose 113 = .ok (.iload 6, 2) := by decide +kernel
theorem dX5_choose_115 : decode cX5_choose 115 = .ok (.baload, 1) := by decide +kernel
theorem dX5_choose_116 : decode cX5_choose 116 = .ok (.ifCond .eq 113, 3) := by decide +kernel
theorem dX5_choose_119 : decode cX5_choose 119 = .ok (.aload_n 0, 1) := by decide +kernel
theorem dX5_choose_120 : decode cX5_choose 120 = .ok (.iload 4, 2) := by decide +kernel
theorem dX5_choose_122 : decode cX5_choose 122 = .ok (.iload 6, 2) := by decide +kernel
theorem dX5_choose_124 : decode cX5_choose 124 = .ok (.invokevirtual 69, 3) := by decide +kernel
theorem dX5_choose_127 : decode cX5_choose 127 = .ok (.ifCond .eq 102, 3) := by decide +kernel
theorem dX5_choose_130 : decode cX5_choose 130 = .ok (.aload_n 0, 1) := by decide +kernel
theorem dX5_choose_131 : decode cX5_choose 131 = .ok (.getfield 7, 3) := by decide +kernel
theorem dX5_choose_134 : decode cX5_choose 134 = .ok (.iconst 4, 1) := by decide +kernel
theorem dX5_choose_135 : decode cX5_choose 135 = .ok (.iaload, 1) := by decide +kernel
theorem dX5_choose_136 : decode cX5_choose 136 = .ok (.ifCond .ne 9, 3) := by decide +kernel
theorem dX5_choose_139 : decode cX5_choose 139 = .ok (.iload 5, 2) := by decide +kernel
theorem dX5_choose_141 : decode cX5_choose 141 = .ok (.ineg, 1) := by decide +kernel
theorem dX5_choose_142 : decode cX5_choose 142 = .ok (.goto 24, 3) := by decide +kernel
theorem dX5_choose_145 : decode cX5_choose 145 = .ok (.aload_n 0, 1) := by decide +kernel
theorem dX5_choose_146 : decode cX5_choose 146 = .ok (.getfield 7, 3) := by decide +kernel
theorem dX5_choose_149 : decode cX5_choose 149 = .ok (.iconst 4, 1) := by decide +kernel
theorem dX5_choose_150 : decode cX5_choose 150 = .ok (.iaload, 1) := by decide +kernel
theorem dX5_choose_151 : decode cX5_choose 151 = .ok (.iconst 2, 1) := by decide +kernel
theorem dX5_choose_152 : decode cX5_choose 152 = .ok (.if_icmp .ne 13, 3) := by decide +kernel
theorem dX5_choose_155 : decode cX5_choose 155 = .ok (.aload_n 0, 1) := by decide +kernel
theorem dX5_choose_156 : decode cX5_choose 156 = .ok (.iload_n 1, 1) := by decide +kernel
theorem dX5_choose_157 : decode cX5_choose 157 = .ok (.iload 6, 2) := by decide +kernel
theorem dX5_choose_159 : decode cX5_choose 159 = .ok (.invokevirtual 84, 3) := by decide +kernel
theorem dX5_choose_162 : decode cX5_choose 162 = .ok (.goto 4, 3) := by decide +kernel
theorem dX5_choose_165 : decode cX5_choose 165 = .ok (.iconst 0, 1) := by decide +kernel
theorem dX5_choose_166 : decode cX5_choose 166 = .ok (.istore 7, 2) := by decide +kernel
theorem dX5_choose_168 : decode cX5_choose 168 = .ok (.iload_n 2, 1) := by decide +kernel
theorem dX5_choose_169 : decode cX5_choose 169 = .ok (.bipush (-9), 2) := by decide +kernel
theorem dX5_choose_171 : decode cX5_choose 171 = .ok (.if_icmp .eq 9, 3) := by decide +kernel
theorem dX5_choose_174 : decode cX5_choose 174 = .ok (.iload 7, 2) := by decide +kernel
theorem dX5_choose_176 : decode cX5_choose 176 = .ok (.iload_n 3, 1) := by decide +kernel
theorem dX5_choose_177 : decode cX5_choose 177 = .ok (.if_icmp .ge 7, 3) := by decide +kernel
theorem dX5_choose_180 : decode cX5_choose 180 = .ok (.iconst 1, 1) := by decide +kernel
theorem dX5_choose_181 : decode cX5_choose 181 = .ok (.goto 4, 3) := by decide +kernel
theorem dX5_choose_184 : decode cX5_choose 184 = .ok (.iconst 0, 1) := by decide +kernel
theorem dX5_choose_185 : decode cX5_choose 185 = .ok (.istore 8, 2) := by decide +kernel
theorem dX5_choose_187 : decode cX5_choose 187 = .ok (.iload 8, 2) := by decide +kernel
theorem dX5_choose_189 : decode cX5_choose 189 = .ok (.ifCond .eq 8, 3) := by decide +kernel
theorem dX5_choose_192 : decode cX5_choose 192 = .ok (.iload 6, 2) := by decide +kernel
theorem dX5_choose_194 : decode cX5_choose 194 = .ok (.goto 4, 3) := by decide +kernel
theorem dX5_choose_197 : decode cX5_choose 197 = .ok (.iload_n 2, 1) := by decide +kernel
theorem dX5_choose_198 : decode cX5_choose 198 = .ok (.istore_n 2, 1) := by decide +kernel
theorem dX5_choose_199 : decode cX5_choose 199 = .ok (.aload_n 0, 1) := by decide +kernel
theorem dX5_choose_200 : decode cX5_choose 200 = .ok (.iload 8, 2) := by decide +kernel
theorem dX5_choose_202 : decode cX5_choose 202 = .ok (.ifCond .eq 8, 3) := by decide +kernel
theorem dX5_choose_205 : decode cX5_choose 205 = .ok (.iload 4, 2) := by decide +kernel
theorem dX5_choose_207 : decode cX5_choose 207 = .ok (.goto 7, 3) := by decide +kernel
theorem dX5_choose_210 : decode cX5_choose 210 = .ok (.aload_n 0, 1) := by decide +kernel
theorem dX5_choose_211 : decode cX5_choose 211 = .ok (.getfield 75, 3) := by decide +kernel
theorem dX5_choose_214 : decode cX5_choose 214 = .ok (.putfield 75, 3) := by decide +kernel
theorem dX5_choose_217 : decode cX5_choose 217 = .ok (.iload 8, 2) := by decide +kernel
theorem dX5_choose_219 : decode cX5_choose 219 = .ok (.ifCond .eq 8, 3) := by decide +kernel
theorem dX5_choose_222 : decode cX5_choose 222 = .ok (.iload 7, 2) := by decide +kernel
theorem dX5_choose_224 : decode cX5_choose 224 = .ok (.goto 4, 3) := by decide +kernel
theorem dX5_choose_227 : decode cX5_choose 227 = .ok (.iload_n 3, 1) := by decide +kernel
theorem dX5_choose_228 : decode cX5_choose 228 = .ok (.istore_n 3, 1) := by decide +kernel
theorem dX5_choose_229 : decode cX5_choose 229 = .ok (.iinc 6 (-1), 3) := by decide +kernel
theorem dX5_choose_232 : decode cX5_choose 232 = .ok (.goto (-139), 3) := by decide +kernel
theorem dX5_choose_235 : decode cX5_choose 235 = .ok (.iinc 4 1, 3) := by decide +kernel
theorem dX5_choose_238 : decode cX5_choose 238 = .ok (.goto (-185), 3) := by decide +kernel
theorem dX5_choose_241 : decode cX5_choose 241 = .ok (.iload_n 2, 1) := by decide +kernel
theorem dX5_choose_242 : decode cX5_choose 242 = .ok (.ireturn, 1) := by decide +kernel
theorem dX5_isCall_0 : decode cX5_isCall 0 = .ok (.iload_n 1, 1) := by decide +kernel
theorem dX5_isCall_1 : decode cX5_isCall 1 = .ok (.iconst 0, 1) := by decide +kernel
theorem dX5_isCall_2 : decode cX5_isCall 2 = .ok (.bipush 59, 2) := by decide +kernel
theorem dX5_isCall_4 : decode cX5_isCall 4 = .ok (.invokestatic 34, 3) := by decide +kernel
theorem dX5_isCall_7 : decode cX5_isCall 7 = .ok (.ifCond .eq 19, 3) := by decide +kernel
theorem dX5_isCall_10 : decode cX5_isCall 10 = .ok (.aload_n 0, 1) := by decide +kernel
theorem dX5_isCall_11 : decode cX5_isCall 11 = .ok (.getfield 7, 3) := by decide +kernel
theorem dX5_isCall_14 : decode cX5_isCall 14 = .ok (.bipush 14, 2) := by decide +kernel
theorem dX5_isCall_16 : decode cX5_isCall 16 = .ok (.iload_n 1, 1) := by decide +kernel
theorem dX5_isCall_17 : decode cX5_isCall 17 = .ok (.iadd, 1) := by decide +kernel
theorem dX5_isCall_18 : decode cX5_isCall 18 = .ok (.iaload, 1) := by decide +kernel
theorem dX5_isCall_19 : decode cX5_isCall 19 = .ok (.ifCond .le 7, 3) := by decide +kernel
theorem dX5_isCall_22 : decode cX5_isCall 22 = .ok (.iconst 1, 1) := by decide +kernel
theorem dX5_isCall_23 : decode cX5_isCall 23 = .ok (.goto 4, 3) := by decide +kernel
theorem dX5_isCall_26 : decode cX5_isCall 26 = .ok (.iconst 0, 1) := by decide +kernel
theorem dX5_isCall_27 : decode cX5_isCall 27 = .ok (.ireturn, 1) := by decide +kernel
theorem dX5_calls_0 : decode cX5_calls 0 = .ok (.iconst 0, 1) := by decide +kernel
theorem dX5_calls_1 : decode cX5_calls 1 = .ok (.istore_n 1, 1) := by decide +kernel
theorem dX5_calls_2 : decode cX5_calls 2 = .ok (.iconst 0, 1) := by decide +kernel
theorem dX5_calls_3 : decode cX5_calls 3 = .ok (.istore_n 2, 1) := by decide +kernel
theorem dX5_calls_4 : decode cX5_calls 4 = .ok (.iload_n 2, 1) := by decide +kernel
theorem dX5_calls_5 : decode cX5_calls 5 = .ok (.bipush 60, 2) := by decide +kernel
theorem dX5_calls_7 : decode cX5_calls 7 = .ok (.if_icmp .ge 29, 3) := by decide +kernel
theorem dX5_calls_10 : decode cX5_calls 10 = .ok (.iload_n 1, 1) := by decide +kernel
theorem dX5_calls_11 : decode cX5_calls 11 = .ok (.aload_n 0, 1) := by decide +kernel
theorem dX5_calls_12 : decode cX5_calls 12 = .ok (.getfield 7, 3) := by decide +kernel
theorem dX5_calls_15 : decode cX5_calls 15 = .ok (.bipush 14, 2) := by decide +kernel
theorem dX5_calls_17 : decode cX5_calls 17 = .ok (.iload_n 2, 1) := by decide +kernel
theorem dX5_calls_18 : decode cX5_calls 18 = .ok (.iadd, 1) := by decide +kernel
theorem dX5_calls_19 : decode cX5_calls 19 = .ok (.iaload, 1) := by decide +kernel
theorem dX5_calls_20 : decode cX5_calls 20 = .ok (.ifCond .le 7, 3) := by decide +kernel
theorem dX5_calls_23 : decode cX5_calls 23 = .ok (.iconst 1, 1) := by decide +kernel
theorem dX5_calls_24 : decode cX5_calls 24 = .ok (.goto 4, 3) := by decide +kernel
theorem dX5_calls_27 : decode cX5_calls 27 = .ok (.iconst 0, 1) := by decide +kernel
theorem dX5_calls_28 : decode cX5_calls 28 = .ok (.iadd, 1) := by decide +kernel
theorem dX5_calls_29 : decode cX5_calls 29 = .ok (.istore_n 1, 1) := by decide +kernel
theorem dX5_calls_30 : decode cX5_calls 30 = .ok (.iinc 2 1, 3) := by decide +kernel
theorem dX5_calls_33 : decode cX5_calls 33 = .ok (.goto (-29), 3) := by decide +kernel
theorem dX5_calls_36 : decode cX5_calls 36 = .ok (.iload_n 1, 1) := by decide +kernel
theorem dX5_calls_37 : decode cX5_calls 37 = .ok (.ireturn, 1) := by decide +kernel
theorem dX5_borrowed_0 : decode cX5_borrowed 0 = .ok (.aload_n 0, 1) := by decide +kernel
theorem dX5_borrowed_1 : decode cX5_borrowed 1 = .ok (.getfield 7, 3) := by decide +kernel
theorem dX5_borrowed_4 : decode cX5_borrowed 4 = .ok (.bipush 74, 2) := by decide +kernel
theorem dX5_borrowed_6 : decode cX5_borrowed 6 = .ok (.iload_n 1, 1) := by decide +kernel
theorem dX5_borrowed_7 : decode cX5_borrowed 7 = .ok (.iadd, 1) := by decide +kernel
theorem dX5_borrowed_8 : decode cX5_borrowed 8 = .ok (.iaload, 1) := by decide +kernel
theorem dX5_borrowed_9 : decode cX5_borrowed 9 = .ok (.ifCond .le 36, 3) := by decide +kernel
theorem dX5_borrowed_12 : decode cX5_borrowed 12 = .ok (.aload_n 0, 1) := by decide +kernel
theorem dX5_borrowed_13 : decode cX5_borrowed 13 = .ok (.aload_n 0, 1) := by decide +kernel
theorem dX5_borrowed_14 : decode cX5_borrowed 14 = .ok (.getfield 7, 3) := by decide +kernel
theorem dX5_borrowed_17 : decode cX5_borrowed 17 = .ok (.bipush 14, 2) := by decide +kernel
theorem dX5_borrowed_19 : decode cX5_borrowed 19 = .ok (.iload_n 1, 1) := by decide +kernel
theorem dX5_borrowed_20 : decode cX5_borrowed 20 = .ok (.iadd, 1) := by decide +kernel
theorem dX5_borrowed_21 : decode cX5_borrowed 21 = .ok (.iaload, 1) := by decide +kernel
theorem dX5_borrowed_22 : decode cX5_borrowed 22 = .ok (.iconst 1, 1) := by decide +kernel
theorem dX5_borrowed_23 : decode cX5_borrowed 23 = .ok (.isub, 1) := by decide +kernel
theorem dX5_borrowed_24 : decode cX5_borrowed 24 = .ok (.aload_n 0, 1) := by decide +kernel
theorem dX5_borrowed_25 : decode cX5_borrowed 25 = .ok (.getfield 7, 3) := by decide +kernel
theorem dX5_borrowed_28 : decode cX5_borrowed 28 = .ok (.bipush 74, 2) := by decide +kernel
theorem dX5_borrowed_30 : decode cX5_borrowed 30 = .ok (.iload_n 1, 1) := by decide +kernel
theorem dX5_borrowed_31 : decode cX5_borrowed 31 = .ok (.iadd, 1) := by decide +kernel
theorem dX5_borrowed_32 : decode cX5_borrowed 32 = .ok (.iaload, 1) := by decide +kernel
theorem dX5_borrowed_33 : decode cX5_borrowed 33 = .ok (.iconst 1, 1) := by decide +kernel
theorem dX5_borrowed_34 : decode cX5_borrowed 34 = .ok (.isub, 1) := by decide +kernel
theorem dX5_borrowed_35 : decode cX5_borrowed 35 = .ok (.invokevirtual 69, 3) := by decide +kernel
theorem dX5_borrowed_38 : decode cX5_borrowed 38 = .ok (.ifCond .ne 7, 3) := by decide +kernel
theorem dX5_borrowed_41 : decode cX5_borrowed 41 = .ok (.iconst 1, 1) := by decide +kernel
theorem dX5_borrowed_42 : decode cX5_borrowed 42 = .ok (.goto 4, 3) := by decide +kernel
theorem dX5_borrowed_45 : decode cX5_borrowed 45 = .ok (.iconst 0, 1) := by decide +kernel
theorem dX5_borrowed_46 : decode cX5_borrowed 46 = .ok (.ireturn, 1) := by decide +kernel
theorem dX5_fixedIn_0 : decode cX5_fixedIn 0 = .ok (.iconst 0, 1) := by decide +kernel
theorem dX5_fixedIn_1 : decode cX5_fixedIn 1 = .ok (.istore_n 2, 1) := by decide +kernel
theorem dX5_fixedIn_2 : decode cX5_fixedIn 2 = .ok (.iconst 0, 1) := by decide +kernel
theorem dX5_fixedIn_3 : decode cX5_fixedIn 3 = .ok (.istore_n 3, 1) := by decide +kernel
theorem dX5_fixedIn_4 : decode cX5_fixedIn 4 = .ok (.iload_n 3, 1) := by decide +kernel
theorem dX5_fixedIn_5 : decode cX5_fixedIn 5 = .ok (.bipush 60, 2) := by decide +kernel
theorem dX5_fixedIn_7 : decode cX5_fixedIn 7 = .ok (.if_icmp .ge 41, 3) := by decide +kernel
theorem dX5_fixedIn_10 : decode cX5_fixedIn 10 = .ok (.iload_n 2, 1) := by decide +kernel
theorem dX5_fixedIn_11 : decode cX5_fixedIn 11 = .ok (.aload_n 0, 1) := by decide +kernel
theorem dX5_fixedIn_12 : decode cX5_fixedIn 12 = .ok (.getfield 7, 3) := by decide +kernel
theorem dX5_fixedIn_15 : decode cX5_fixedIn 15 = .ok (.bipush 14, 2) := by decide +kernel
theorem dX5_fixedIn_17 : decode cX5_fixedIn 17 = .ok (.iload_n 3, 1) := by decide +kernel
theorem dX5_fixedIn_18 : decode cX5_fixedIn 18 = .ok (.iadd, 1) := by decide +kernel
theorem dX5_fixedIn_19 : decode cX5_fixedIn 19 = .ok (.iaload, 1) := by decide +kernel
theorem dX5_fixedIn_20 : decode cX5_fixedIn 20 = .ok (.iload_n 1, 1) := by decide +kernel
theorem dX5_fixedIn_21 : decode cX5_fixedIn 21 = .ok (.iconst 1, 1) := by decide +kernel
theorem dX5_fixedIn_22 : decode cX5_fixedIn 22 = .ok (.iadd, 1) := by decide +kernel
theorem dX5_fixedIn_23 : decode cX5_fixedIn 23 = .ok (.if_icmp .ne 16, 3) := by decide +kernel
theorem dX5_fixedIn_26 : decode cX5_fixedIn 26 = .ok (.aload_n 0, 1) := by decide +kernel
theorem dX5_fixedIn_27 : decode cX5_fixedIn 27 = .ok (.getfield 7, 3) := by decide +kernel
theorem dX5_fixedIn_30 : decode cX5_fixedIn 30 = .ok (.sipush 134, 3) := by decide +kernel
theorem dX5_fixedIn_33 : decode cX5_fixedIn 33 = .ok (.iload_n 3, 1) := by decide +kernel
theorem dX5_fixedIn_34 : decode cX5_fixedIn 34 = .ok (.iadd, 1) := by decide +kernel
theorem dX5_fixedIn_35 : decode cX5_fixedIn 35 = .ok (.iaload, 1) := by decide +kernel
theorem dX5_fixedIn_36 : decode cX5_fixedIn 36 = .ok (.goto 4, 3) := by decide +kernel
theorem dX5_fixedIn_39 : decode cX5_fixedIn 39 = .ok (.iconst 0, 1) := by decide +kernel
theorem dX5_fixedIn_40 : decode cX5_fixedIn 40 = .ok (.iadd, 1) := by decide +kernel
theorem dX5_fixedIn_41 : decode cX5_fixedIn 41 = .ok (.istore_n 2, 1) := by decide +kernel
theorem dX5_fixedIn_42 : decode cX5_fixedIn 42 = .ok (.iinc 3 1, 3) := by decide +kernel
theorem dX5_fixedIn_45 : decode cX5_fixedIn 45 = .ok (.goto (-41), 3) := by decide +kernel
theorem dX5_fixedIn_48 : decode cX5_fixedIn 48 = .ok (.iload_n 2, 1) := by decide +kernel
theorem dX5_fixedIn_49 : decode cX5_fixedIn 49 = .ok (.ireturn, 1) := by decide +kernel
theorem dX5_forget_0 : decode cX5_forget 0 = .ok (.aload_n 0, 1) := by decide +kernel
theorem dX5_forget_1 : decode cX5_forget 1 = .ok (.getfield 7, 3) := by decide +kernel
theorem dX5_forget_4 : decode cX5_forget 4 = .ok (.bipush 14, 2) := by decide +kernel
theorem dX5_forget_6 : decode cX5_forget 6 = .ok (.iload_n 1, 1) := by decide +kernel
theorem dX5_forget_7 : decode cX5_forget 7 = .ok (.iadd, 1) := by decide +kernel
theorem dX5_forget_8 : decode cX5_forget 8 = .ok (.iconst 0, 1) := by decide +kernel
theorem dX5_forget_9 : decode cX5_forget 9 = .ok (.iastore, 1) := by decide +kernel
theorem dX5_forget_10 : decode cX5_forget 10 = .ok (.aload_n 0, 1) := by decide +kernel
theorem dX5_forget_11 : decode cX5_forget 11 = .ok (.getfield 7, 3) := by decide +kernel
theorem dX5_forget_14 : decode cX5_forget 14 = .ok (.bipush 74, 2) := by decide +kernel
theorem dX5_forget_16 : decode cX5_forget 16 = .ok (.iload_n 1, 1) := by decide +kernel
theorem dX5_forget_17 : decode cX5_forget 17 = .ok (.iadd, 1) := by decide +kernel
theorem dX5_forget_18 : decode cX5_forget 18 = .ok (.iconst 0, 1) := by decide +kernel
theorem dX5_forget_19 : decode cX5_forget 19 = .ok (.iastore, 1) := by decide +kernel
theorem dX5_forget_20 : decode cX5_forget 20 = .ok (.aload_n 0, 1) := by decide +kernel
theorem dX5_forget_21 : decode cX5_forget 21 = .ok (.getfield 7, 3) := by decide +kernel
theorem dX5_forget_24 : decode cX5_forget 24 = .ok (.sipush 134, 3) := by decide +kernel
theorem dX5_forget_27 : decode cX5_forget 27 = .ok (.iload_n 1, 1) := by decide +kernel
theorem dX5_forget_28 : decode cX5_forget 28 = .ok (.iadd, 1) := by decide +kernel
theorem dX5_forget_29 : decode cX5_forget 29 = .ok (.iconst 0, 1) := by decide +kernel
theorem dX5_forget_30 : decode cX5_forget 30 = .ok (.iastore, 1) := by decide +kernel
theorem dX5_forget_31 : decode cX5_forget 31 = .ok (.return_, 1) := by decide +kernel
theorem dX5_pass_0 : decode cX5_pass 0 = .ok (.iconst 0, 1) := by decide +kernel
theorem dX5_pass_1 : decode cX5_pass 1 = .ok (.istore_n 1, 1) := by decide +kernel
theorem dX5_pass_2 : decode cX5_pass 2 = .ok (.iconst 0, 1) := by decide +kernel
theorem dX5_pass_3 : decode cX5_pass 3 = .ok (.istore_n 2, 1) := by decide +kernel
theorem dX5_pass_4 : decode cX5_pass 4 = .ok (.iload_n 2, 1) := by decide +kernel
theorem dX5_pass_5 : decode cX5_pass 5 = .ok (.bipush (-9), 2) := by decide +kernel
theorem dX5_pass_7 : decode cX5_pass 7 = .ok (.if_icmp .eq 201, 3) := by decide +kernel
theorem dX5_pass_10 : decode cX5_pass 10 = .ok (.aload_n 0, 1) := by decide +kernel
theorem dX5_pass_11 : decode cX5_pass 11 = .ok (.getfield 7, 3) := by decide +kernel
theorem dX5_pass_14 : decode cX5_pass 14 = .ok (.bipush 6, 2) := by decide +kernel
theorem dX5_pass_16 : decode cX5_pass 16 = .ok (.iaload, 1) := by decide +kernel
theorem dX5_pass_17 : decode cX5_pass 17 = .ok (.iconst 1, 1) := by decide +kernel
theorem dX5_pass_18 : decode cX5_pass 18 = .ok (.if_icmp .ne 190, 3) := by decide +kernel
theorem dX5_pass_21 : decode cX5_pass 21 = .ok (.bipush (-9), 2) := by decide +kernel
theorem dX5_pass_23 : decode cX5_pass 23 = .ok (.istore_n 2, 1) := by decide +kernel
theorem dX5_pass_24 : decode cX5_pass 24 = .ok (.bipush (-9), 2) := by decide +kernel
theorem dX5_pass_26 : decode cX5_pass 26 = .ok (.istore_n 3, 1) := by decide +kernel
theorem dX5_pass_27 : decode cX5_pass 27 = .ok (.iconst 0, 1) := by decide +kernel
theorem dX5_pass_28 : decode cX5_pass 28 = .ok (.istore 4, 2) := by decide +kernel
theorem dX5_pass_30 : decode cX5_pass 30 = .ok (.iload 4, 2) := by decide +kernel
theorem dX5_pass_32 : decode cX5_pass 32 = .ok (.bipush 60, 2) := by decide +kernel
theorem dX5_pass_34 : decode cX5_pass 34 = .ok (.if_icmp .ge 125, 3) := by decide +kernel
theorem dX5_pass_37 : decode cX5_pass 37 = .ok (.aload_n 0, 1) := by decide +kernel
theorem dX5_pass_38 : decode cX5_pass 38 = .ok (.getfield 7, 3) := by decide +kernel
theorem dX5_pass_41 : decode cX5_pass 41 = .ok (.bipush 14, 2) := by decide +kernel
theorem dX5_pass_43 : decode cX5_pass 43 = .ok (.iload 4, 2) := by decide +kernel
theorem dX5_pass_45 : decode cX5_pass 45 = .ok (.iadd, 1) := by decide +kernel
theorem dX5_pass_46 : decode cX5_pass 46 = .ok (.iaload, 1) := by decide +kernel
theorem dX5_pass_47 : decode cX5_pass 47 = .ok (.ifCond .le 37, 3) := by decide +kernel
theorem dX5_pass_50 : decode cX5_pass 50 = .ok (.aload_n 0, 1) := by decide +kernel
theorem dX5_pass_51 : decode cX5_pass 51 = .ok (.iload 4, 2) := by decide +kernel
theorem dX5_pass_53 : decode cX5_pass 53 = .ok (.invokevirtual 87, 3) := by decide +kernel
theorem dX5_pass_56 : decode cX5_pass 56 = .ok (.ifCond .eq 28, 3) := by decide +kernel
theorem dX5_pass_59 : decode cX5_pass 59 = .ok (.aload_n 0, 1) := by decide +kernel
theorem dX5_pass_60 : decode cX5_pass 60 = .ok (.aload_n 0, 1) := by decide +kernel
theorem dX5_pass_61 : decode cX5_pass 61 = .ok (.getfield 7, 3) := by decide +kernel
theorem dX5_pass_64 : decode cX5_pass 64 = .ok (.bipush 14, 2) := by decide +kernel
theorem dX5_pass_66 : decode cX5_pass 66 = .ok (.iload 4, 2) := by decide +kernel
theorem dX5_pass_68 : decode cX5_pass 68 = .ok (.iadd, 1) := by decide +kernel
theorem dX5_pass_69 : decode cX5_pass 69 = .ok (.iaload, 1) := by decide +kernel
theorem dX5_pass_70 : decode cX5_pass 70 = .ok (.iconst 1, 1) := by decide +kernel
theorem dX5_pass_71 : decode cX5_pass 71 = .ok (.isub, 1) := by decide +kernel
theorem dX5_pass_72 : decode cX5_pass 72 = .ok (.invokevirtual 78, 3) := by decide +kernel
theorem dX5_pass_75 : decode cX5_pass 75 = .ok (.bipush (-9), 2) := by decide +kernel
theorem dX5_pass_77 : decode cX5_pass 77 = .ok (.if_icmp .eq 7, 3) := by decide +kernel
theorem dX5_pass_80 : decode cX5_pass 80 = .ok (.iconst 1, 1) := by decide +kernel
theorem dX5_pass_81 : decode cX5_pass 81 = .ok (.goto 4, 3) := by decide +kernel
theorem dX5_pass_84 : decode cX5_pass 84 = .ok (.iconst 0, 1) := by decide +kernel
theorem dX5_pass_85 : decode cX5_pass 85 = .ok (.istore 5, 2) := by decide +kernel
theorem dX5_pass_87 : decode cX5_pass 87 = .ok (.iload 5, 2) := by decide +kernel
theorem dX5_pass_89 : decode cX5_pass 89 = .ok (.ifCond .eq 34, 3) := by decide +kernel
theorem dX5_pass_92 : decode cX5_pass 92 = .ok (.aload_n 0, 1) := by decide +kernel
theorem dX5_pass_93 : decode cX5_pass 93 = .ok (.aload_n 0, 1) := by decide +kernel
theorem dX5_pass_94 : decode cX5_pass 94 = .ok (.getfield 7, 3) := by decide +kernel
theorem dX5_pass_97 : decode cX5_pass 97 = .ok (.bipush 14, 2) := by decide +kernel
theorem dX5_pass_99 : decode cX5_pass 99 = .ok (.iload 4, 2) := by decide +kernel
theorem dX5_pass_101 : decode cX5_pass 101 = .ok (.iadd, 1) := by decide +kernel
theorem dX5_pass_102 : decode cX5_pass 102 = .ok (.iaload, 1) := by decide +kernel
theorem dX5_pass_103 : decode cX5_pass 103 = .ok (.iconst 1, 1) := by decide +kernel
theorem dX5_pass_104 : decode cX5_pass 104 = .ok (.isub, 1) := by decide +kernel
theorem dX5_pass_105 : decode cX5_pass 105 = .ok (.aload_n 0, 1) := by decide +kernel
theorem dX5_pass_106 : decode cX5_pass 106 = .ok (.getfield 7, 3) := by decide +kernel
theorem dX5_pass_109 : decode cX5_pass 109 = .ok (.bipush 74, 2) := by decide +kernel
theorem dX5_pass_111 : decode cX5_pass 111 = .ok (.iload 4, 2) := by decide +kernel
theorem dX5_pass_113 : decode cX5_pass 113 = .ok (.iadd, 1) := by decide +kernel
theorem dX5_pass_114 : decode cX5_pass 114 = .ok (.iaload, 1) := by decide +kernel
theorem dX5_pass_115 : decode cX5_pass 115 = .ok (.iconst 1, 1) := by decide +kernel
theorem dX5_pass_116 : decode cX5_pass 116 = .ok (.isub, 1) := by decide +kernel
theorem dX5_pass_117 : decode cX5_pass 117 = .ok (.invokevirtual 84, 3) := by decide +kernel
theorem dX5_pass_120 : decode cX5_pass 120 = .ok (.goto 5, 3) := by decide +kernel
theorem dX5_pass_123 : decode cX5_pass 123 = .ok (.bipush (-9), 2) := by decide +kernel
theorem dX5_pass_125 : decode cX5_pass 125 = .ok (.istore 6, 2) := by decide +kernel
theorem dX5_pass_127 : decode cX5_pass 127 = .ok (.iload 6, 2) := by decide +kernel
theorem dX5_pass_129 : decode cX5_pass 129 = .ok (.iload_n 3, 1) := by decide +kernel
theorem dX5_pass_130 : decode cX5_pass 130 = .ok (.if_icmp .le 8, 3) := by decide +kernel
theorem dX5_pass_133 : decode cX5_pass 133 = .ok (.iload 4, 2) := by decide +kernel
theorem dX5_pass_135 : decode cX5_pass 135 = .ok (.goto 4, 3) := by decide +kernel
theorem dX5_pass_138 : decode cX5_pass 138 = .ok (.iload_n 2, 1) := by decide +kernel
theorem dX5_pass_139 : decode cX5_pass 139 = .ok (.istore_n 2, 1) := by decide +kernel
theorem dX5_pass_140 : decode cX5_pass 140 = .ok (.iload 6, 2) := by decide +kernel
theorem dX5_pass_142 : decode cX5_pass 142 = .ok (.iload_n 3, 1) := by decide +kernel
theorem dX5_pass_143 : decode cX5_pass 143 = .ok (.if_icmp .le 8, 3) := by decide +kernel
theorem dX5_pass_146 : decode cX5_pass 146 = .ok (.iload 6, 2) := by decide +kernel
theorem dX5_pass_148 : decode cX5_pass 148 = .ok (.goto 4, 3) := by decide +kernel
theorem dX5_pass_151 : decode cX5_pass 151 = .ok (.iload_n 3, 1) := by decide +kernel
theorem dX5_pass_152 : decode cX5_pass 152 = .ok (.istore_n 3, 1) := by decide +kernel
theorem dX5_pass_153 : decode cX5_pass 153 = .ok (.iinc 4 1, 3) := by decide +kernel
theorem dX5_pass_156 : decode cX5_pass 156 = .ok (.goto (-126), 3) := by decide +kernel
theorem dX5_pass_159 : decode cX5_pass 159 = .ok (.iload_n 2, 1) := by decide +kernel
theorem dX5_pass_160 : decode cX5_pass 160 = .ok (.bipush (-9), 2) := by decide +kernel
theorem dX5_pass_162 : decode cX5_pass 162 = .ok (.if_icmp .eq 43, 3) := by decide +kernel
theorem dX5_pass_165 : decode cX5_pass 165 = .ok (.aload_n 0, 1) := by decide +kernel
theorem dX5_pass_166 : decode cX5_pass 166 = .ok (.getfield 7, 3) := by decide +kernel
theorem dX5_pass_169 : decode cX5_pass 169 = .ok (.bipush 74, 2) := by decide +kernel
theorem dX5_pass_171 : decode cX5_pass 171 = .ok (.iload_n 2, 1) := by decide +kernel
theorem dX5_pass_172 : decode cX5_pass 172 = .ok (.iadd, 1) := by decide +kernel
theorem dX5_pass_173 : decode cX5_pass 173 = .ok (.aload_n 0, 1) := by decide +kernel
theorem dX5_pass_174 : decode cX5_pass 174 = .ok (.aload_n 0, 1) := by decide +kernel
theorem dX5_pass_175 : decode cX5_pass 175 = .ok (.getfield 7, 3) := by decide +kernel
theorem dX5_pass_178 : decode cX5_pass 178 = .ok (.bipush 14, 2) := by decide +kernel
theorem dX5_pass_180 : decode cX5_pass 180 = .ok (.iload_n 2, 1) := by decide +kernel
theorem dX5_pass_181 : decode cX5_pass 181 = .ok (.iadd, 1) := by decide +kernel
theorem dX5_pass_182 : decode cX5_pass 182 = .ok (.iaload, 1) := by decide +kernel
theorem dX5_pass_183 : decode cX5_pass 183 = .ok (.iconst 1, 1) := by decide +kernel
theorem dX5_pass_184 : decode cX5_pass 184 = .ok (.isub, 1) := by decide +kernel
theorem dX5_pass_185 : decode cX5_pass 185 = .ok (.invokevirtual 78, 3) := by decide +kernel
theorem dX5_pass_188 : decode cX5_pass 188 = .ok (.iconst 1, 1) := by decide +kernel
theorem dX5_pass_189 : decode cX5_pass 189 = .ok (.iadd, 1) := by decide +kernel
theorem dX5_pass_190 : decode cX5_pass 190 = .ok (.iastore, 1) := by decide +kernel
theorem dX5_pass_191 : decode cX5_pass 191 = .ok (.aload_n 0, 1) := by decide +kernel
theorem dX5_pass_192 : decode cX5_pass 192 = .ok (.getfield 7, 3) := by decide +kernel
theorem dX5_pass_195 : decode cX5_pass 195 = .ok (.bipush 13, 2) := by decide +kernel
theorem dX5_pass_197 : decode cX5_pass 197 = .ok (.dup2, 1) := by decide +kernel
theorem dX5_pass_198 : decode cX5_pass 198 = .ok (.iaload, 1) := by decide +kernel
theorem dX5_pass_199 : decode cX5_pass 199 = .ok (.iconst 1, 1) := by decide +kernel
theorem dX5_pass_200 : decode cX5_pass 200 = .ok (.iadd, 1) := by decide +kernel
theorem dX5_pass_201 : decode cX5_pass 201 = .ok (.iastore, 1) := by decide +kernel
theorem dX5_pass_202 : decode cX5_pass 202 = .ok (.iinc 1 1, 3) := by decide +kernel
theorem dX5_pass_205 : decode cX5_pass 205 = .ok (.goto (-201), 3) := by decide +kernel
theorem dX5_pass_208 : decode cX5_pass 208 = .ok (.iload_n 1, 1) := by decide +kernel
theorem dX5_pass_209 : decode cX5_pass 209 = .ok (.ireturn, 1) := by decide +kernel
theorem dX5_start_0 : decode cX5_start 0 = .ok (.aload_n 0, 1) := by decide +kernel
theorem dX5_start_1 : decode cX5_start 1 = .ok (.getfield 7, 3) := by decide +kernel
theorem dX5_start_4 : decode cX5_start 4 = .ok (.bipush 7, 2) := by decide +kernel
theorem dX5_start_6 : decode cX5_start 6 = .ok (.dup2, 1) := by decide +kernel
theorem dX5_start_7 : decode cX5_start 7 = .ok (.iaload, 1) := by decide +kernel
theorem dX5_start_8 : decode cX5_start 8 = .ok (.iconst 1, 1) := by decide +kernel
theorem dX5_start_9 : decode cX5_start 9 = .ok (.iadd, 1) := by decide +kernel
theorem dX5_start_10 : decode cX5_start 10 = .ok (.iastore, 1) := by decide +kernel
theorem dX5_start_11 : decode cX5_start 11 = .ok (.iconst 0, 1) := by decide +kernel
theorem dX5_start_12 : decode cX5_start 12 = .ok (.istore_n 2, 1) := by decide +kernel
theorem dX5_start_13 : decode cX5_start 13 = .ok (.aload_n 0, 1) := by decide +kernel
theorem dX5_start_14 : decode cX5_start 14 = .ok (.getfield 7, 3) := by decide +kernel
theorem dX5_start_17 : decode cX5_start 17 = .ok (.bipush 14, 2) := by decide +kernel
theorem dX5_start_19 : decode cX5_start 19 = .ok (.iload_n 2, 1) := by decide +kernel
theorem dX5_start_20 : decode cX5_start 20 = .ok (.iadd, 1) := by decide +kernel
theorem dX5_start_21 : decode cX5_start 21 = .ok (.iaload, 1) := by decide +kernel
theorem dX5_start_22 : decode cX5_start 22 = .ok (.ifCond .le 9, 3) := by decide +kernel
theorem dX5_start_25 : decode cX5_start 25 = .ok (.iinc 2 1, 3) := by decide +kernel
theorem dX5_start_28 : decode cX5_start 28 = .ok (.goto (-15), 3) := by decide +kernel
theorem dX5_start_31 : decode cX5_start 31 = .ok (.aload_n 0, 1) := by decide +kernel
theorem dX5_start_32 : decode cX5_start 32 = .ok (.iload_n 1, 1) := by decide +kernel
theorem dX5_start_33 : decode cX5_start 33 = .ok (.invokevirtual 91, 3) := by decide +kernel
theorem dX5_start_36 : decode cX5_start 36 = .ok (.istore_n 3, 1) := by decide +kernel
theorem dX5_start_37 : decode cX5_start 37 = .ok (.aload_n 0, 1) := by decide +kernel
theorem dX5_start_38 : decode cX5_start 38 = .ok (.iload_n 1, 1) := by decide +kernel
theorem dX5_start_39 : decode cX5_start 39 = .ok (.invokevirtual 94, 3) := by decide +kernel
theorem dX5_start_42 : decode cX5_start 42 = .ok (.aload_n 0, 1) := by decide +kernel
theorem dX5_start_43 : decode cX5_start 43 = .ok (.getfield 7, 3) := by decide +kernel
theorem dX5_start_46 : decode cX5_start 46 = .ok (.iconst 3, 1) := by decide +kernel
theorem dX5_start_47 : decode cX5_start 47 = .ok (.iaload, 1) := by decide +kernel
theorem dX5_start_48 : decode cX5_start 48 = .ok (.if_icmp .ge 7, 3) := by decide +kernel
theorem dX5_start_51 : decode cX5_start 51 = .ok (.iconst 1, 1) := by decide +kernel
theorem dX5_start_52 : decode cX5_start 52 = .ok (.goto 4, 3) := by decide +kernel
theorem dX5_start_55 : decode cX5_start 55 = .ok (.iconst 0, 1) := by decide +kernel
theorem dX5_start_56 : decode cX5_start 56 = .ok (.istore 4, 2) := by decide +kernel
theorem dX5_start_58 : decode cX5_start 58 = .ok (.aload_n 0, 1) := by decide +kernel
theorem dX5_start_59 : decode cX5_start 59 = .ok (.getfield 7, 3) := by decide +kernel
theorem dX5_start_62 : decode cX5_start 62 = .ok (.bipush 8, 2) := by decide +kernel
theorem dX5_start_64 : decode cX5_start 64 = .ok (.dup2, 1) := by decide +kernel
theorem dX5_start_65 : decode cX5_start 65 = .ok (.iaload, 1) := by decide +kernel
theorem dX5_start_66 : decode cX5_start 66 = .ok (.iload_n 3, 1) := by decide +kernel
theorem dX5_start_67 : decode cX5_start 67 = .ok (.bipush (-9), 2) := by decide +kernel
theorem dX5_start_69 : decode cX5_start 69 = .ok (.if_icmp .ne 7, 3) := by decide +kernel
theorem dX5_start_72 : decode cX5_start 72 = .ok (.iconst 1, 1) := by decide +kernel
theorem dX5_start_73 : decode cX5_start 73 = .ok (.goto 4, 3) := by decide +kernel
theorem dX5_start_76 : decode cX5_start 76 = .ok (.iconst 0, 1) := by decide +kernel
theorem dX5_start_77 : decode cX5_start 77 = .ok (.iadd, 1) := by decide +kernel
theorem dX5_start_78 : decode cX5_start 78 = .ok (.iastore, 1) := by decide +kernel
theorem dX5_start_79 : decode cX5_start 79 = .ok (.aload_n 0, 1) := by decide +kernel
theorem dX5_start_80 : decode cX5_start 80 = .ok (.getfield 7, 3) := by decide +kernel
theorem dX5_start_83 : decode cX5_start 83 = .ok (.bipush 9, 2) := by decide +kernel
theorem dX5_start_85 : decode cX5_start 85 = .ok (.dup2, 1) := by decide +kernel
theorem dX5_start_86 : decode cX5_start 86 = .ok (.iaload, 1) := by decide +kernel
theorem dX5_start_87 : decode cX5_start 87 = .ok (.iload 4, 2) := by decide +kernel
theorem dX5_start_89 : decode cX5_start 89 = .ok (.ifCond .eq 7, 3) := by decide +kernel
theorem dX5_start_92 : decode cX5_start 92 = .ok (.iconst 0, 1) := by decide +kernel
theorem dX5_start_93 : decode cX5_start 93 = .ok (.goto 4, 3) := by decide +kernel
theorem dX5_start_96 : decode cX5_start 96 = .ok (.iconst 1, 1) := by decide +kernel
theorem dX5_start_97 : decode cX5_start 97 = .ok (.iadd, 1) := by decide +kernel
theorem dX5_start_98 : decode cX5_start 98 = .ok (.iastore, 1) := by decide +kernel
theorem dX5_start_99 : decode cX5_start 99 = .ok (.iload_n 3, 1) := by decide +kernel
theorem dX5_start_100 : decode cX5_start 100 = .ok (.bipush (-9), 2) := by decide +kernel
theorem dX5_start_102 : decode cX5_start 102 = .ok (.if_icmp .ne 11, 3) := by decide +kernel
theorem dX5_start_105 : decode cX5_start 105 = .ok (.iload 4, 2) := by decide +kernel
theorem dX5_start_107 : decode cX5_start 107 = .ok (.ifCond .ne 6, 3) := by decide +kernel
theorem dX5_start_110 : decode cX5_start 110 = .ok (.bipush (-9), 2) := by decide +kernel
theorem dX5_start_112 : decode cX5_start 112 = .ok (.ireturn, 1) := by decide +kernel
theorem dX5_start_113 : decode cX5_start 113 = .ok (.aload_n 0, 1) := by decide +kernel
theorem dX5_start_114 : decode cX5_start 114 = .ok (.getfield 7, 3) := by decide +kernel
theorem dX5_start_117 : decode cX5_start 117 = .ok (.bipush 14, 2) := by decide +kernel
theorem dX5_start_119 : decode cX5_start 119 = .ok (.iload_n 2, 1) := by decide +kernel
theorem dX5_start_120 : decode cX5_start 120 = .ok (.iadd, 1) := by decide +kernel
theorem dX5_start_121 : decode cX5_start 121 = .ok (.iload_n 1, 1) := by decide +kernel
theorem dX5_start_122 : decode cX5_start 122 = .ok (.iconst 1, 1) := by decide +kernel
theorem dX5_start_123 : decode cX5_start 123 = .ok (.iadd, 1) := by decide +kernel
theorem dX5_start_124 : decode cX5_start 124 = .ok (.iastore, 1) := by decide +kernel
theorem dX5_start_125 : decode cX5_start 125 = .ok (.aload_n 0, 1) := by decide +kernel
theorem dX5_start_126 : decode cX5_start 126 = .ok (.getfield 7, 3) := by decide +kernel
theorem dX5_start_129 : decode cX5_start 129 = .ok (.bipush 74, 2) := by decide +kernel
theorem dX5_start_131 : decode cX5_start 131 = .ok (.iload_n 2, 1) := by decide +kernel
theorem dX5_start_132 : decode cX5_start 132 = .ok (.iadd, 1) := by decide +kernel
theorem dX5_start_133 : decode cX5_start 133 = .ok (.iload_n 3, 1) := by decide +kernel
theorem dX5_start_134 : decode cX5_start 134 = .ok (.bipush (-9), 2) := by decide +kernel
theorem dX5_start_136 : decode cX5_start 136 = .ok (.if_icmp .ne 7, 3) := by decide +kernel
theorem dX5_start_139 : decode cX5_start 139 = .ok (.iconst 0, 1) := by decide +kernel
theorem dX5_start_140 : decode cX5_start 140 = .ok (.goto 6, 3) := by decide +kernel
theorem dX5_start_143 : decode cX5_start 143 = .ok (.iload_n 3, 1) := by decide +kernel
theorem dX5_start_144 : decode cX5_start 144 = .ok (.iconst 1, 1) := by decide +kernel
theorem dX5_start_145 : decode cX5_start 145 = .ok (.iadd, 1) := by decide +kernel
theorem dX5_start_146 : decode cX5_start 146 = .ok (.iastore, 1) := by decide +kernel
theorem dX5_start_147 : decode cX5_start 147 = .ok (.aload_n 0, 1) := by decide +kernel
theorem dX5_start_148 : decode cX5_start 148 = .ok (.getfield 7, 3) := by decide +kernel
theorem dX5_start_151 : decode cX5_start 151 = .ok (.sipush 134, 3) := by decide +kernel
theorem dX5_start_154 : decode cX5_start 154 = .ok (.iload_n 2, 1) := by decide +kernel
theorem dX5_start_155 : decode cX5_start 155 = .ok (.iadd, 1) := by decide +kernel
theorem dX5_start_156 : decode cX5_start 156 = .ok (.iload 4, 2) := by decide +kernel
theorem dX5_start_158 : decode cX5_start 158 = .ok (.ifCond .eq 7, 3) := by decide +kernel
theorem dX5_start_161 : decode cX5_start 161 = .ok (.iconst 1, 1) := by decide +kernel
theorem dX5_start_162 : decode cX5_start 162 = .ok (.goto 4, 3) := by decide +kernel
theorem dX5_start_165 : decode cX5_start 165 = .ok (.iconst 0, 1) := by decide +kernel
theorem dX5_start_166 : decode cX5_start 166 = .ok (.iastore, 1) := by decide +kernel
theorem dX5_start_167 : decode cX5_start 167 = .ok (.aload_n 0, 1) := by decide +kernel
theorem dX5_start_168 : decode cX5_start 168 = .ok (.getfield 7, 3) := by decide +kernel
theorem dX5_start_171 : decode cX5_start 171 = .ok (.bipush 12, 2) := by decide +kernel
theorem dX5_start_173 : decode cX5_start 173 = .ok (.dup2, 1) := by decide +kernel
theorem dX5_start_174 : decode cX5_start 174 = .ok (.iaload, 1) := by decide +kernel
theorem dX5_start_175 : decode cX5_start 175 = .ok (.aload_n 0, 1) := by decide +kernel
theorem dX5_start_176 : decode cX5_start 176 = .ok (.iload_n 2, 1) := by decide +kernel
theorem dX5_start_177 : decode cX5_start 177 = .ok (.invokevirtual 87, 3) := by decide +kernel
theorem dX5_start_180 : decode cX5_start 180 = .ok (.ifCond .eq 7, 3) := by decide +kernel
theorem dX5_start_183 : decode cX5_start 183 = .ok (.iconst 1, 1) := by decide +kernel
theorem dX5_start_184 : decode cX5_start 184 = .ok (.goto 4, 3) := by decide +kernel
theorem dX5_start_187 : decode cX5_start 187 = .ok (.iconst 0, 1) := by decide +kernel
theorem dX5_start_188 : decode cX5_start 188 = .ok (.iadd, 1) := by decide +kernel
theorem dX5_start_189 : decode cX5_start 189 = .ok (.iastore, 1) := by decide +kernel
theorem dX5_start_190 : decode cX5_start 190 = .ok (.iload_n 2, 1) := by decide +kernel
theorem dX5_start_191 : decode cX5_start 191 = .ok (.ireturn, 1) := by decide +kernel
theorem dX5_channelNow_0 : decode cX5_channelNow 0 = .ok (.aload_n 0, 1) := by decide +kernel
theorem dX5_channelNow_1 : decode cX5_channelNow 1 = .ok (.getfield 7, 3) := by decide +kernel
theorem dX5_channelNow_4 : decode cX5_channelNow 4 = .ok (.bipush 74, 2) := by decide +kernel
theorem dX5_channelNow_6 : decode cX5_channelNow 6 = .ok (.iload_n 1, 1) := by decide +kernel
theorem dX5_channelNow_7 : decode cX5_channelNow 7 = .ok (.iadd, 1) := by decide +kernel
theorem dX5_channelNow_8 : decode cX5_channelNow 8 = .ok (.iaload, 1) := by decide +kernel
theorem dX5_channelNow_9 : decode cX5_channelNow 9 = .ok (.ifCond .ne 8, 3) := by decide +kernel
theorem dX5_channelNow_12 : decode cX5_channelNow 12 = .ok (.bipush (-9), 2) := by decide +kernel
theorem dX5_channelNow_14 : decode cX5_channelNow 14 = .ok (.goto 14, 3) := by decide +kernel
theorem dX5_channelNow_17 : decode cX5_channelNow 17 = .ok (.aload_n 0, 1) := by decide +kernel
theorem dX5_channelNow_18 : decode cX5_channelNow 18 = .ok (.getfield 7, 3) := by decide +kernel
theorem dX5_channelNow_21 : decode cX5_channelNow 21 = .ok (.bipush 74, 2) := by decide +kernel
theorem dX5_channelNow_23 : decode cX5_channelNow 23 = .ok (.iload_n 1, 1) := by decide +kernel
theorem dX5_channelNow_24 : decode cX5_channelNow 24 = .ok (.iadd, 1) := by decide +kernel
theorem dX5_channelNow_25 : decode cX5_channelNow 25 = .ok (.iaload, 1) := by decide +kernel
theorem dX5_channelNow_26 : decode cX5_channelNow 26 = .ok (.iconst 1, 1) := by decide +kernel
theorem dX5_channelNow_27 : decode cX5_channelNow 27 = .ok (.isub, 1) := by decide +kernel
theorem dX5_channelNow_28 : decode cX5_channelNow 28 = .ok (.ireturn, 1) := by decide +kernel
theorem dX5_end_0 : decode cX5_end 0 = .ok (.aload_n 0, 1) := by decide +kernel
theorem dX5_end_1 : decode cX5_end 1 = .ok (.iload_n 1, 1) := by decide +kernel
theorem dX5_end_2 : decode cX5_end 2 = .ok (.invokevirtual 97, 3) := by decide +kernel
theorem dX5_end_5 : decode cX5_end 5 = .ok (.istore_n 2, 1) := by decide +kernel
theorem dX5_end_6 : decode cX5_end 6 = .ok (.aload_n 0, 1) := by decide +kernel
theorem dX5_end_7 : decode cX5_end 7 = .ok (.iload_n 1, 1) := by decide +kernel
theorem dX5_end_8 : decode cX5_end 8 = .ok (.invokevirtual 100, 3) := by decide +kernel
theorem dX5_end_11 : decode cX5_end 11 = .ok (.aload_n 0, 1) := by decide +kernel
theorem dX5_end_12 : decode cX5_end 12 = .ok (.invokevirtual 104, 3) := by decide +kernel
theorem dX5_end_15 : decode cX5_end 15 = .ok (.istore_n 3, 1) := by decide +kernel
theorem dX5_end_16 : decode cX5_end 16 = .ok (.iload_n 3, 1) := by decide +kernel
theorem dX5_end_17 : decode cX5_end 17 = .ok (.ifCond .ge 7, 3) := by decide +kernel
theorem dX5_end_20 : decode cX5_end 20 = .ok (.iload_n 3, 1) := by decide +kernel
theorem dX5_end_21 : decode cX5_end 21 = .ok (.goto 4, 3) := by decide +kernel
theorem dX5_end_24 : decode cX5_end 24 = .ok (.iload_n 2, 1) := by decide +kernel
theorem dX5_end_25 : decode cX5_end 25 = .ok (.ireturn, 1) := by decide +kernel
theorem dX5_hand_0 : decode cX5_hand 0 = .ok (.aload_n 0, 1) := by decide +kernel
theorem dX5_hand_1 : decode cX5_hand 1 = .ok (.getfield 7, 3) := by decide +kernel
theorem dX5_hand_4 : decode cX5_hand 4 = .ok (.bipush 74, 2) := by decide +kernel
theorem dX5_hand_6 : decode cX5_hand 6 = .ok (.iload_n 1, 1) := by decide +kernel
theorem dX5_hand_7 : decode cX5_hand 7 = .ok (.iadd, 1) := by decide +kernel
theorem dX5_hand_8 : decode cX5_hand 8 = .ok (.iaload, 1) := by decide +kernel
theorem dX5_hand_9 : decode cX5_hand 9 = .ok (.ifCond .ne 8, 3) := by decide +kernel
theorem dX5_hand_12 : decode cX5_hand 12 = .ok (.bipush (-9), 2) := by decide +kernel
theorem dX5_hand_14 : decode cX5_hand 14 = .ok (.goto 8, 3) := by decide +kernel
theorem dX5_hand_17 : decode cX5_hand 17 = .ok (.aload_n 0, 1) := by decide +kernel
theorem dX5_hand_18 : decode cX5_hand 18 = .ok (.iload_n 2, 1) := by decide +kernel
theorem dX5_hand_19 : decode cX5_hand 19 = .ok (.invokevirtual 91, 3) := by decide +kernel
theorem dX5_hand_22 : decode cX5_hand 22 = .ok (.istore_n 3, 1) := by decide +kernel
theorem dX5_hand_23 : decode cX5_hand 23 = .ok (.aload_n 0, 1) := by decide +kernel
theorem dX5_hand_24 : decode cX5_hand 24 = .ok (.getfield 7, 3) := by decide +kernel
theorem dX5_hand_27 : decode cX5_hand 27 = .ok (.bipush 10, 2) := by decide +kernel
theorem dX5_hand_29 : decode cX5_hand 29 = .ok (.dup2, 1) := by decide +kernel
theorem dX5_hand_30 : decode cX5_hand 30 = .ok (.iaload, 1) := by decide +kernel
theorem dX5_hand_31 : decode cX5_hand 31 = .ok (.aload_n 0, 1) := by decide +kernel
theorem dX5_hand_32 : decode cX5_hand 32 = .ok (.getfield 7, 3) := by decide +kernel
theorem dX5_hand_35 : decode cX5_hand 35 = .ok (.bipush 74, 2) := by decide +kernel
theorem dX5_hand_37 : decode cX5_hand 37 = .ok (.iload_n 1, 1) := by decide +kernel
theorem dX5_hand_38 : decode cX5_hand 38 = .ok (.iadd, 1) := by decide +kernel
theorem dX5_hand_39 : decode cX5_hand 39 = .ok (.iaload, 1) := by decide +kernel
theorem dX5_hand_40 : decode cX5_hand 40 = .ok (.ifCond .le 13, 3) := by decide +kernel
theorem dX5_hand_43 : decode cX5_hand 43 = .ok (.iload_n 3, 1) := by decide +kernel
theorem dX5_hand_44 : decode cX5_hand 44 = .ok (.bipush (-9), 2) := by decide +kernel
theorem dX5_hand_46 : decode cX5_hand 46 = .ok (.if_icmp .ne 7, 3) := by decide +kernel
theorem dX5_hand_49 : decode cX5_hand 49 = .ok (.iconst 1, 1) := by decide +kernel
theorem dX5_hand_50 : decode cX5_hand 50 = .ok (.goto 4, 3) := by decide +kernel
theorem dX5_hand_53 : decode cX5_hand 53 = .ok (.iconst 0, 1) := by decide +kernel
theorem dX5_hand_54 : decode cX5_hand 54 = .ok (.iadd, 1) := by decide +kernel
theorem dX5_hand_55 : decode cX5_hand 55 = .ok (.iastore, 1) := by decide +kernel
theorem dX5_hand_56 : decode cX5_hand 56 = .ok (.aload_n 0, 1) := by decide +kernel
theorem dX5_hand_57 : decode cX5_hand 57 = .ok (.iload_n 2, 1) := by decide +kernel
theorem dX5_hand_58 : decode cX5_hand 58 = .ok (.invokevirtual 94, 3) := by decide +kernel
theorem dX5_hand_61 : decode cX5_hand 61 = .ok (.aload_n 0, 1) := by decide +kernel
theorem dX5_hand_62 : decode cX5_hand 62 = .ok (.getfield 7, 3) := by decide +kernel
theorem dX5_hand_65 : decode cX5_hand 65 = .ok (.iconst 3, 1) := by decide +kernel
theorem dX5_hand_66 : decode cX5_hand 66 = .ok (.iaload, 1) := by decide +kernel
theorem dX5_hand_67 : decode cX5_hand 67 = .ok (.if_icmp .ge 7, 3) := by decide +kernel
theorem dX5_hand_70 : decode cX5_hand 70 = .ok (.iconst 1, 1) := by decide +kernel
theorem dX5_hand_71 : decode cX5_hand 71 = .ok (.goto 4, 3) := by decide +kernel
theorem dX5_hand_74 : decode cX5_hand 74 = .ok (.iconst 0, 1) := by decide +kernel
theorem dX5_hand_75 : decode cX5_hand 75 = .ok (.istore 4, 2) := by decide +kernel
theorem dX5_hand_77 : decode cX5_hand 77 = .ok (.aload_n 0, 1) := by decide +kernel
theorem dX5_hand_78 : decode cX5_hand 78 = .ok (.getfield 7, 3) := by decide +kernel
theorem dX5_hand_81 : decode cX5_hand 81 = .ok (.bipush 11, 2) := by decide +kernel
theorem dX5_hand_83 : decode cX5_hand 83 = .ok (.dup2, 1) := by decide +kernel
theorem dX5_hand_84 : decode cX5_hand 84 = .ok (.iaload, 1) := by decide +kernel
theorem dX5_hand_85 : decode cX5_hand 85 = .ok (.aload_n 0, 1) := by decide +kernel
theorem dX5_hand_86 : decode cX5_hand 86 = .ok (.getfield 7, 3) := by decide +kernel
theorem dX5_hand_89 : decode cX5_hand 89 = .ok (.sipush 134, 3) := by decide +kernel
theorem dX5_hand_92 : decode cX5_hand 92 = .ok (.iload_n 1, 1) := by decide +kernel
theorem dX5_hand_93 : decode cX5_hand 93 = .ok (.iadd, 1) := by decide +kernel
theorem dX5_hand_94 : decode cX5_hand 94 = .ok (.iaload, 1) := by decide +kernel
theorem dX5_hand_95 : decode cX5_hand 95 = .ok (.iconst 1, 1) := by decide +kernel
theorem dX5_hand_96 : decode cX5_hand 96 = .ok (.if_icmp .ne 12, 3) := by decide +kernel
theorem dX5_hand_99 : decode cX5_hand 99 = .ok (.iload 4, 2) := by decide +kernel
theorem dX5_hand_101 : decode cX5_hand 101 = .ok (.ifCond .ne 7, 3) := by decide +kernel
theorem dX5_hand_104 : decode cX5_hand 104 = .ok (.iconst 1, 1) := by decide +kernel
theorem dX5_hand_105 : decode cX5_hand 105 = .ok (.goto 4, 3) := by decide +kernel
theorem dX5_hand_108 : decode cX5_hand 108 = .ok (.iconst 0, 1) := by decide +kernel
theorem dX5_hand_109 : decode cX5_hand 109 = .ok (.iadd, 1) := by decide +kernel
theorem dX5_hand_110 : decode cX5_hand 110 = .ok (.iastore, 1) := by decide +kernel
theorem dX5_hand_111 : decode cX5_hand 111 = .ok (.aload_n 0, 1) := by decide +kernel
theorem dX5_hand_112 : decode cX5_hand 112 = .ok (.getfield 7, 3) := by decide +kernel
theorem dX5_hand_115 : decode cX5_hand 115 = .ok (.sipush 134, 3) := by decide +kernel
theorem dX5_hand_118 : decode cX5_hand 118 = .ok (.iload_n 1, 1) := by decide +kernel
theorem dX5_hand_119 : decode cX5_hand 119 = .ok (.iadd, 1) := by decide +kernel
theorem dX5_hand_120 : decode cX5_hand 120 = .ok (.aload_n 0, 1) := by decide +kernel
theorem dX5_hand_121 : decode cX5_hand 121 = .ok (.getfield 7, 3) := by decide +kernel
theorem dX5_hand_124 : decode cX5_hand 124 = .ok (.sipush 134, 3) := by decide +kernel
theorem dX5_hand_127 : decode cX5_hand 127 = .ok (.iload_n 1, 1) := by decide +kernel
theorem dX5_hand_128 : decode cX5_hand 128 = .ok (.iadd, 1) := by decide +kernel
theorem dX5_hand_129 : decode cX5_hand 129 = .ok (.iaload, 1) := by decide +kernel
theorem dX5_hand_130 : decode cX5_hand 130 = .ok (.iconst 1, 1) := by decide +kernel
theorem dX5_hand_131 : decode cX5_hand 131 = .ok (.if_icmp .ne 12, 3) := by decide +kernel
theorem dX5_hand_134 : decode cX5_hand 134 = .ok (.iload 4, 2) := by decide +kernel
theorem dX5_hand_136 : decode cX5_hand 136 = .ok (.ifCond .eq 7, 3) := by decide +kernel
theorem dX5_hand_139 : decode cX5_hand 139 = .ok (.iconst 1, 1) := by decide +kernel
theorem dX5_hand_140 : decode cX5_hand 140 = .ok (.goto 4, 3) := by decide +kernel
theorem dX5_hand_143 : decode cX5_hand 143 = .ok (.iconst 0, 1) := by decide +kernel
theorem dX5_hand_144 : decode cX5_hand 144 = .ok (.iastore, 1) := by decide +kernel
theorem dX5_hand_145 : decode cX5_hand 145 = .ok (.aload_n 0, 1) := by decide +kernel
theorem dX5_hand_146 : decode cX5_hand 146 = .ok (.getfield 7, 3) := by decide +kernel
theorem dX5_hand_149 : decode cX5_hand 149 = .ok (.bipush 14, 2) := by decide +kernel
theorem dX5_hand_151 : decode cX5_hand 151 = .ok (.iload_n 1, 1) := by decide +kernel
theorem dX5_hand_152 : decode cX5_hand 152 = .ok (.iadd, 1) := by decide +kernel
theorem dX5_hand_153 : decode cX5_hand 153 = .ok (.iload_n 2, 1) := by decide +kernel
theorem dX5_hand_154 : decode cX5_hand 154 = .ok (.iconst 1, 1) := by decide +kernel
theorem dX5_hand_155 : decode cX5_hand 155 = .ok (.iadd, 1) := by decide +kernel
theorem dX5_hand_156 : decode cX5_hand 156 = .ok (.iastore, 1) := by decide +kernel
theorem dX5_hand_157 : decode cX5_hand 157 = .ok (.aload_n 0, 1) := by decide +kernel
theorem dX5_hand_158 : decode cX5_hand 158 = .ok (.getfield 7, 3) := by decide +kernel
theorem dX5_hand_161 : decode cX5_hand 161 = .ok (.bipush 74, 2) := by decide +kernel
theorem dX5_hand_163 : decode cX5_hand 163 = .ok (.iload_n 1, 1) := by decide +kernel
theorem dX5_hand_164 : decode cX5_hand 164 = .ok (.iadd, 1) := by decide +kernel
theorem dX5_hand_165 : decode cX5_hand 165 = .ok (.iload_n 3, 1) := by decide +kernel
theorem dX5_hand_166 : decode cX5_hand 166 = .ok (.bipush (-9), 2) := by decide +kernel
theorem dX5_hand_168 : decode cX5_hand 168 = .ok (.if_icmp .ne 7, 3) := by decide +kernel
theorem dX5_hand_171 : decode cX5_hand 171 = .ok (.iconst 0, 1) := by decide +kernel
theorem dX5_hand_172 : decode cX5_hand 172 = .ok (.goto 6, 3) := by decide +kernel
theorem dX5_hand_175 : decode cX5_hand 175 = .ok (.iload_n 3, 1) := by decide +kernel
theorem dX5_hand_176 : decode cX5_hand 176 = .ok (.iconst 1, 1) := by decide +kernel
theorem dX5_hand_177 : decode cX5_hand 177 = .ok (.iadd, 1) := by decide +kernel
theorem dX5_hand_178 : decode cX5_hand 178 = .ok (.iastore, 1) := by decide +kernel
theorem dX5_hand_179 : decode cX5_hand 179 = .ok (.aload_n 0, 1) := by decide +kernel
theorem dX5_hand_180 : decode cX5_hand 180 = .ok (.getfield 7, 3) := by decide +kernel
theorem dX5_hand_183 : decode cX5_hand 183 = .ok (.bipush 12, 2) := by decide +kernel
theorem dX5_hand_185 : decode cX5_hand 185 = .ok (.dup2, 1) := by decide +kernel
theorem dX5_hand_186 : decode cX5_hand 186 = .ok (.iaload, 1) := by decide +kernel
theorem dX5_hand_187 : decode cX5_hand 187 = .ok (.aload_n 0, 1) := by decide +kernel
theorem dX5_hand_188 : decode cX5_hand 188 = .ok (.iload_n 1, 1) := by decide +kernel
theorem dX5_hand_189 : decode cX5_hand 189 = .ok (.invokevirtual 87, 3) := by decide +kernel
theorem dX5_hand_192 : decode cX5_hand 192 = .ok (.ifCond .eq 7, 3) := by decide +kernel
theorem dX5_hand_195 : decode cX5_hand 195 = .ok (.iconst 1, 1) := by decide +kernel
theorem dX5_hand_196 : decode cX5_hand 196 = .ok (.goto 4, 3) := by decide +kernel
theorem dX5_hand_199 : decode cX5_hand 199 = .ok (.iconst 0, 1) := by decide +kernel
theorem dX5_hand_200 : decode cX5_hand 200 = .ok (.iadd, 1) := by decide +kernel
theorem dX5_hand_201 : decode cX5_hand 201 = .ok (.iastore, 1) := by decide +kernel
theorem dX5_hand_202 : decode cX5_hand 202 = .ok (.iload_n 3, 1) := by decide +kernel
theorem dX5_hand_203 : decode cX5_hand 203 = .ok (.bipush (-9), 2) := by decide +kernel
theorem dX5_hand_205 : decode cX5_hand 205 = .ok (.if_icmp .ne 21, 3) := by decide +kernel
theorem dX5_hand_208 : decode cX5_hand 208 = .ok (.aload_n 0, 1) := by decide +kernel
theorem dX5_hand_209 : decode cX5_hand 209 = .ok (.getfield 7, 3) := by decide +kernel
theorem dX5_hand_212 : decode cX5_hand 212 = .ok (.sipush 134, 3) := by decide +kernel
theorem dX5_hand_215 : decode cX5_hand 215 = .ok (.iload_n 1, 1) := by decide +kernel
theorem dX5_hand_216 : decode cX5_hand 216 = .ok (.iadd, 1) := by decide +kernel
theorem dX5_hand_217 : decode cX5_hand 217 = .ok (.iaload, 1) := by decide +kernel
theorem dX5_hand_218 : decode cX5_hand 218 = .ok (.ifCond .ne 8, 3) := by decide +kernel
theorem dX5_hand_221 : decode cX5_hand 221 = .ok (.aload_n 0, 1) := by decide +kernel
theorem dX5_hand_222 : decode cX5_hand 222 = .ok (.iload_n 1, 1) := by decide +kernel
theorem dX5_hand_223 : decode cX5_hand 223 = .ok (.invokevirtual 100, 3) := by decide +kernel
theorem dX5_hand_226 : decode cX5_hand 226 = .ok (.aload_n 0, 1) := by decide +kernel
theorem dX5_hand_227 : decode cX5_hand 227 = .ok (.invokevirtual 104, 3) := by decide +kernel
theorem dX5_hand_230 : decode cX5_hand 230 = .ok (.istore 5, 2) := by decide +kernel
theorem dX5_hand_232 : decode cX5_hand 232 = .ok (.iload 5, 2) := by decide +kernel
theorem dX5_hand_234 : decode cX5_hand 234 = .ok (.ifCond .ge 8, 3) := by decide +kernel
theorem dX5_hand_237 : decode cX5_hand 237 = .ok (.iload 5, 2) := by decide +kernel
theorem dX5_hand_239 : decode cX5_hand 239 = .ok (.goto 4, 3) := by decide +kernel
theorem dX5_hand_242 : decode cX5_hand 242 = .ok (.iload_n 3, 1) := by decide +kernel
theorem dX5_hand_243 : decode cX5_hand 243 = .ok (.ireturn, 1) := by decide +kernel
theorem dX5_does_0 : decode cX5_does 0 = .ok (.aload_n 0, 1) := by decide +kernel
theorem dX5_does_1 : decode cX5_does 1 = .ok (.invokevirtual 107, 3) := by decide +kernel
theorem dX5_does_4 : decode cX5_does 4 = .ok (.iload_n 1, 1) := by decide +kernel
theorem dX5_does_5 : decode cX5_does 5 = .ok (.ifCond .ne 11, 3) := by decide +kernel
theorem dX5_does_8 : decode cX5_does 8 = .ok (.aload_n 0, 1) := by decide +kernel
theorem dX5_does_9 : decode cX5_does 9 = .ok (.iload_n 2, 1) := by decide +kernel
theorem dX5_does_10 : decode cX5_does 10 = .ok (.invokevirtual 110, 3) := by decide +kernel
theorem dX5_does_13 : decode cX5_does 13 = .ok (.goto 22, 3) := by decide +kernel
theorem dX5_does_16 : decode cX5_does 16 = .ok (.iload_n 1, 1) := by decide +kernel
theorem dX5_does_17 : decode cX5_does 17 = .ok (.iconst 1, 1) := by decide +kernel
theorem dX5_does_18 : decode cX5_does 18 = .ok (.if_icmp .ne 11, 3) := by decide +kernel
theorem dX5_does_21 : decode cX5_does 21 = .ok (.aload_n 0, 1) := by decide +kernel
theorem dX5_does_22 : decode cX5_does 22 = .ok (.iload_n 2, 1) := by decide +kernel
theorem dX5_does_23 : decode cX5_does 23 = .ok (.invokevirtual 113, 3) := by decide +kernel
theorem dX5_does_26 : decode cX5_does 26 = .ok (.goto 9, 3) := by decide +kernel
theorem dX5_does_29 : decode cX5_does 29 = .ok (.aload_n 0, 1) := by decide +kernel
theorem dX5_does_30 : decode cX5_does 30 = .ok (.iload_n 2, 1) := by decide +kernel
theorem dX5_does_31 : decode cX5_does 31 = .ok (.iload_n 3, 1) := by decide +kernel
theorem dX5_does_32 : decode cX5_does 32 = .ok (.invokevirtual 116, 3) := by decide +kernel
theorem dX5_does_35 : decode cX5_does 35 = .ok (.ireturn, 1) := by decide +kernel
theorem dX5_isError_0 : decode cX5_isError 0 = .ok (.iload_n 1, 1) := by decide +kernel
theorem dX5_isError_1 : decode cX5_isError 1 = .ok (.ifCond .ne 26, 3) := by decide +kernel
theorem dX5_isError_4 : decode cX5_isError 4 = .ok (.aload_n 0, 1) := by decide +kernel
theorem dX5_isError_5 : decode cX5_isError 5 = .ok (.iload_n 2, 1) := by decide +kernel
theorem dX5_isError_6 : decode cX5_isError 6 = .ok (.invokevirtual 119, 3) := by decide +kernel
theorem dX5_isError_9 : decode cX5_isError 9 = .ok (.ifCond .eq 12, 3) := by decide +kernel
theorem dX5_isError_12 : decode cX5_isError 12 = .ok (.aload_n 0, 1) := by decide +kernel
theorem dX5_isError_13 : decode cX5_isError 13 = .ok (.invokevirtual 38, 3) := by decide +kernel
theorem dX5_isError_16 : decode cX5_isError 16 = .ok (.bipush 60, 2) := by decide +kernel
theorem dX5_isError_18 : decode cX5_isError 18 = .ok (.if_icmp .ne 7, 3) := by decide +kernel
theorem dX5_isError_21 : decode cX5_isError 21 = .ok (.iconst 1, 1) := by decide +kernel
theorem dX5_isError_22 : decode cX5_isError 22 = .ok (.goto 4, 3) := by decide +kernel
theorem dX5_isError_25 : decode cX5_isError 25 = .ok (.iconst 0, 1) := by decide +kernel
theorem dX5_isError_26 : decode cX5_isError 26 = .ok (.ireturn, 1) := by decide +kernel
theorem dX5_isError_27 : decode cX5_isError 27 = .ok (.aload_n 0, 1) := by decide +kernel
theorem dX5_isError_28 : decode cX5_isError 28 = .ok (.iload_n 2, 1) := by decide +kernel
theorem dX5_isError_29 : decode cX5_isError 29 = .ok (.invokevirtual 122, 3) := by decide +kernel
theorem dX5_isError_32 : decode cX5_isError 32 = .ok (.ifCond .eq 36, 3) := by decide +kernel
theorem dX5_isError_35 : decode cX5_isError 35 = .ok (.iload_n 1, 1) := by decide +kernel
theorem dX5_isError_36 : decode cX5_isError 36 = .ok (.iconst 2, 1) := by decide +kernel
theorem dX5_isError_37 : decode cX5_isError 37 = .ok (.if_icmp .ne 35, 3) := by decide +kernel
theorem dX5_isError_40 : decode cX5_isError 40 = .ok (.aload_n 0, 1) := by decide +kernel
theorem dX5_isError_41 : decode cX5_isError 41 = .ok (.iload_n 3, 1) := by decide +kernel
theorem dX5_isError_42 : decode cX5_isError 42 = .ok (.invokevirtual 119, 3) := by decide +kernel
theorem dX5_isError_45 : decode cX5_isError 45 = .ok (.ifCond .eq 23, 3) := by decide +kernel
theorem dX5_isError_48 : decode cX5_isError 48 = .ok (.aload_n 0, 1) := by decide +kernel
theorem dX5_isError_49 : decode cX5_isError 49 = .ok (.iload_n 3, 1) := by decide +kernel
theorem dX5_isError_50 : decode cX5_isError 50 = .ok (.aload_n 0, 1) := by decide +kernel
theorem dX5_isError_51 : decode cX5_isError 51 = .ok (.getfield 7, 3) := by decide +kernel
theorem dX5_isError_54 : decode cX5_isError 54 = .ok (.bipush 14, 2) := by decide +kernel
theorem dX5_isError_56 : decode cX5_isError 56 = .ok (.iload_n 2, 1) := by decide +kernel
theorem dX5_isError_57 : decode cX5_isError 57 = .ok (.iadd, 1) := by decide +kernel
theorem dX5_isError_58 : decode cX5_isError 58 = .ok (.iaload, 1) := by decide +kernel
theorem dX5_isError_59 : decode cX5_isError 59 = .ok (.iconst 1, 1) := by decide +kernel
theorem dX5_isError_60 : decode cX5_isError 60 = .ok (.isub, 1) := by decide +kernel
theorem dX5_isError_61 : decode cX5_isError 61 = .ok (.invokevirtual 58, 3) := by decide +kernel
theorem dX5_isError_64 : decode cX5_isError 64 = .ok (.iconst 1, 1) := by decide +kernel
theorem dX5_isError_65 : decode cX5_isError 65 = .ok (.if_icmp .eq 7, 3) := by decide +kernel
theorem dX5_isError_68 : decode cX5_isError 68 = .ok (.iconst 1, 1) := by decide +kernel
theorem dX5_isError_69 : decode cX5_isError 69 = .ok (.goto 4, 3) := by decide +kernel
theorem dX5_isError_72 : decode cX5_isError 72 = .ok (.iconst 0, 1) := by decide +kernel
theorem dX5_isError_73 : decode cX5_isError 73 = .ok (.ireturn, 1) := by decide +kernel
theorem dX5_errorOf_0 : decode cX5_errorOf 0 = .ok (.iload_n 1, 1) := by decide +kernel
theorem dX5_errorOf_1 : decode cX5_errorOf 1 = .ok (.ifCond .ne 20, 3) := by decide +kernel
theorem dX5_errorOf_4 : decode cX5_errorOf 4 = .ok (.aload_n 0, 1) := by decide +kernel
theorem dX5_errorOf_5 : decode cX5_errorOf 5 = .ok (.iload_n 2, 1) := by decide +kernel
theorem dX5_errorOf_6 : decode cX5_errorOf 6 = .ok (.invokevirtual 119, 3) := by decide +kernel
theorem dX5_errorOf_9 : decode cX5_errorOf 9 = .ok (.ifCond .ne 7, 3) := by decide +kernel
theorem dX5_errorOf_12 : decode cX5_errorOf 12 = .ok (.iconst (-1), 1) := by decide +kernel
theorem dX5_errorOf_13 : decode cX5_errorOf 13 = .ok (.goto 22, 3) := by decide +kernel
theorem dX5_errorOf_16 : decode cX5_errorOf 16 = .ok (.bipush (-3), 2) := by decide +kernel
theorem dX5_errorOf_18 : decode cX5_errorOf 18 = .ok (.goto 17, 3) := by decide +kernel
theorem dX5_errorOf_21 : decode cX5_errorOf 21 = .ok (.aload_n 0, 1) := by decide +kernel
theorem dX5_errorOf_22 : decode cX5_errorOf 22 = .ok (.iload_n 2, 1) := by decide +kernel
theorem dX5_errorOf_23 : decode cX5_errorOf 23 = .ok (.invokevirtual 122, 3) := by decide +kernel
theorem dX5_errorOf_26 : decode cX5_errorOf 26 = .ok (.ifCond .ne 8, 3) := by decide +kernel
theorem dX5_errorOf_29 : decode cX5_errorOf 29 = .ok (.bipush (-4), 2) := by decide +kernel
theorem dX5_errorOf_31 : decode cX5_errorOf 31 = .ok (.goto 4, 3) := by decide +kernel
theorem dX5_errorOf_34 : decode cX5_errorOf 34 = .ok (.iconst (-1), 1) := by decide +kernel
theorem dX5_errorOf_35 : decode cX5_errorOf 35 = .ok (.ireturn, 1) := by decide +kernel
theorem dX5_startCall_0 : decode cX5_startCall 0 = .ok (.aload_n 0, 1) := by decide +kernel
theorem dX5_startCall_1 : decode cX5_startCall 1 = .ok (.iconst 0, 1) := by decide +kernel
theorem dX5_startCall_2 : decode cX5_startCall 2 = .ok (.iload_n 1, 1) := by decide +kernel
theorem dX5_startCall_3 : decode cX5_startCall 3 = .ok (.iconst 0, 1) := by decide +kernel
theorem dX5_startCall_4 : decode cX5_startCall 4 = .ok (.invokevirtual 125, 3) := by decide +kernel
theorem dX5_startCall_7 : decode cX5_startCall 7 = .ok (.ifCond .eq 13, 3) := by decide +kernel
theorem dX5_startCall_10 : decode cX5_startCall 10 = .ok (.aload_n 0, 1) := by decide +kernel
theorem dX5_startCall_11 : decode cX5_startCall 11 = .ok (.iconst 0, 1) := by decide +kernel
theorem dX5_startCall_12 : decode cX5_startCall 12 = .ok (.iload_n 1, 1) := by decide +kernel
theorem dX5_startCall_13 : decode cX5_startCall 13 = .ok (.iconst 0, 1) := by decide +kernel
theorem dX5_startCall_14 : decode cX5_startCall 14 = .ok (.invokevirtual 128, 3) := by decide +kernel
theorem dX5_startCall_17 : decode cX5_startCall 17 = .ok (.goto 10, 3) := by decide +kernel
theorem dX5_startCall_20 : decode cX5_startCall 20 = .ok (.aload_n 0, 1) := by decide +kernel
theorem dX5_startCall_21 : decode cX5_startCall 21 = .ok (.iconst 0, 1) := by decide +kernel
theorem dX5_startCall_22 : decode cX5_startCall 22 = .ok (.iload_n 1, 1) := by decide +kernel
theorem dX5_startCall_23 : decode cX5_startCall 23 = .ok (.iconst 0, 1) := by decide +kernel
theorem dX5_startCall_24 : decode cX5_startCall 24 = .ok (.invokevirtual 132, 3) := by decide +kernel
theorem dX5_startCall_27 : decode cX5_startCall 27 = .ok (.ireturn, 1) := by decide +kernel
theorem dX5_endCall_0 : decode cX5_endCall 0 = .ok (.aload_n 0, 1) := by decide +kernel
theorem dX5_endCall_1 : decode cX5_endCall 1 = .ok (.iconst 1, 1) := by decide +kernel
theorem dX5_endCall_2 : decode cX5_endCall 2 = .ok (.iload_n 1, 1) := by decide +kernel
theorem dX5_endCall_3 : decode cX5_endCall 3 = .ok (.iconst 0, 1) := by decide +kernel
theorem dX5_endCall_4 : decode cX5_endCall 4 = .ok (.invokevirtual 125, 3) := by decide +kernel
theorem dX5_endCall_7 : decode cX5_endCall 7 = .ok (.ifCond .eq 13, 3) := by decide +kernel
theorem dX5_endCall_10 : decode cX5_endCall 10 = .ok (.aload_n 0, 1) := by decide +kernel
theorem dX5_endCall_11 : decode cX5_endCall 11 = .ok (.iconst 1, 1) := by decide +kernel
theorem dX5_endCall_12 : decode cX5_endCall 12 = .ok (.iload_n 1, 1) := by decide +kernel
theorem dX5_endCall_13 : decode cX5_endCall 13 = .ok (.iconst 0, 1) := by decide +kernel
theorem dX5_endCall_14 : decode cX5_endCall 14 = .ok (.invokevirtual 128, 3) := by decide +kernel
theorem dX5_endCall_17 : decode cX5_endCall 17 = .ok (.goto 10, 3) := by decide +kernel
theorem dX5_endCall_20 : decode cX5_endCall 20 = .ok (.aload_n 0, 1) := by decide +kernel
theorem dX5_endCall_21 : decode cX5_endCall 21 = .ok (.iconst 1, 1) := by decide +kernel
theorem dX5_endCall_22 : decode cX5_endCall 22 = .ok (.iload_n 1, 1) := by decide +kernel
theorem dX5_endCall_23 : decode cX5_endCall 23 = .ok (.iconst 0, 1) := by decide +kernel
theorem dX5_endCall_24 : decode cX5_endCall 24 = .ok (.invokevirtual 132, 3) := by decide +kernel
theorem dX5_endCall_27 : decode cX5_endCall 27 = .ok (.ireturn, 1) := by decide +kernel
theorem dX5_handOver_0 : decode cX5_handOver 0 = .ok (.aload_n 0, 1) := by decide +kernel
theorem dX5_handOver_1 : decode cX5_handOver 1 = .ok (.iconst 2, 1) := by decide +kernel
theorem dX5_handOver_2 : decode cX5_handOver 2 = .ok (.iload_n 1, 1) := by decide +kernel
theorem dX5_handOver_3 : decode cX5_handOver 3 = .ok (.iload_n 2, 1) := by decide +kernel
theorem dX5_handOver_4 : decode cX5_handOver 4 = .ok (.invokevirtual 125, 3) := by decide +kernel
theorem dX5_handOver_7 : decode cX5_handOver 7 = .ok (.ifCond .eq 13, 3) := by decide +kernel
theorem dX5_handOver_10 : decode cX5_handOver 10 = .ok (.aload_n 0, 1) := by decide +kernel
theorem dX5_handOver_11 : decode cX5_handOver 11 = .ok (.iconst 2, 1) := by decide +kernel
theorem dX5_handOver_12 : decode cX5_handOver 12 = .ok (.iload_n 1, 1) := by decide +kernel
theorem dX5_handOver_13 : decode cX5_handOver 13 = .ok (.iload_n 2, 1) := by decide +kernel
theorem dX5_handOver_14 : decode cX5_handOver 14 = .ok (.invokevirtual 128, 3) := by decide +kernel
theorem dX5_handOver_17 : decode cX5_handOver 17 = .ok (.goto 10, 3) := by decide +kernel
theorem dX5_handOver_20 : decode cX5_handOver 20 = .ok (.aload_n 0, 1) := by decide +kernel
theorem dX5_handOver_21 : decode cX5_handOver 21 = .ok (.iconst 2, 1) := by decide +kernel
theorem dX5_handOver_22 : decode cX5_handOver 22 = .ok (.iload_n 1, 1) := by decide +kernel
theorem dX5_handOver_23 : decode cX5_handOver 23 = .ok (.iload_n 2, 1) := by decide +kernel
theorem dX5_handOver_24 : decode cX5_handOver 24 = .ok (.invokevirtual 132, 3) := by decide +kernel
theorem dX5_handOver_27 : decode cX5_handOver 27 = .ok (.ireturn, 1) := by decide +kernel
theorem dX5_configure_0 : decode cX5_configure 0 = .ok (.iload_n 1, 1) := by decide +kernel
theorem dX5_configure_1 : decode cX5_configure 1 = .ok (.iconst 1, 1) := by decide +kernel
theorem dX5_configure_2 : decode cX5_configure 2 = .ok (.iconst 5, 1) := by decide +kernel
theorem dX5_configure_3 : decode cX5_configure 3 = .ok (.invokestatic 34, 3) := by decide +kernel
theorem dX5_configure_6 : decode cX5_configure 6 = .ok (.ifCond .eq 31, 3) := by decide +kernel
theorem dX5_configure_9 : decode cX5_configure 9 = .ok (.iload_n 2, 1) := by decide +kernel
theorem dX5_configure_10 : decode cX5_configure 10 = .ok (.iconst 1, 1) := by decide +kernel
theorem dX5_configure_11 : decode cX5_configure 11 = .ok (.iconst 5, 1) := by decide +kernel
theorem dX5_configure_12 : decode cX5_configure 12 = .ok (.invokestatic 34, 3) := by decide +kernel
theorem dX5_configure_15 : decode cX5_configure 15 = .ok (.ifCond .eq 22, 3) := by decide +kernel
theorem dX5_configure_18 : decode cX5_configure 18 = .ok (.iload_n 3, 1) := by decide +kernel
theorem dX5_configure_19 : decode cX5_configure 19 = .ok (.iconst 2, 1) := by decide +kernel
theorem dX5_configure_20 : decode cX5_configure 20 = .ok (.iconst 3, 1) := by decide +kernel
theorem dX5_configure_21 : decode cX5_configure 21 = .ok (.invokestatic 34, 3) := by decide +kernel
theorem dX5_configure_24 : decode cX5_configure 24 = .ok (.ifCond .eq 13, 3) := by decide +kernel
theorem dX5_configure_27 : decode cX5_configure 27 = .ok (.iload 4, 2) := by decide +kernel
theorem dX5_configure_29 : decode cX5_configure 29 = .ok (.iconst 1, 1) := by decide +kernel
theorem dX5_configure_30 : decode cX5_configure 30 = .ok (.iconst 4, 1) := by decide +kernel
theorem dX5_configure_31 : decode cX5_configure 31 = .ok (.invokestatic 34, 3) := by decide +kernel
theorem dX5_configure_34 : decode cX5_configure 34 = .ok (.ifCond .ne 5, 3) := by decide +kernel
theorem dX5_configure_37 : decode cX5_configure 37 = .ok (.iconst (-1), 1) := by decide +kernel
theorem dX5_configure_38 : decode cX5_configure 38 = .ok (.ireturn, 1) := by decide +kernel
theorem dX5_configure_39 : decode cX5_configure 39 = .ok (.aload_n 0, 1) := by decide +kernel
theorem dX5_configure_40 : decode cX5_configure 40 = .ok (.invokevirtual 107, 3) := by decide +kernel
theorem dX5_configure_43 : decode cX5_configure 43 = .ok (.bipush 7, 2) := by decide +kernel
theorem dX5_configure_45 : decode cX5_configure 45 = .ok (.istore 5, 2) := by decide +kernel
theorem dX5_configure_47 : decode cX5_configure 47 = .ok (.iload 5, 2) := by decide +kernel
theorem dX5_configure_49 : decode cX5_configure 49 = .ok (.sipush 194, 3) := by decide +kernel
theorem dX5_configure_52 : decode cX5_configure 52 = .ok (.if_icmp .ge 17, 3) := by decide +kernel
theorem dX5_configure_55 : decode cX5_configure 55 = .ok (.aload_n 0, 1) := by decide +kernel
theorem dX5_configure_56 : decode cX5_configure 56 = .ok (.getfield 7, 3) := by decide +kernel
theorem dX5_configure_59 : decode cX5_configure 59 = .ok (.iload 5, 2) := by decide +kernel
theorem dX5_configure_61 : decode cX5_configure 61 = .ok (.iconst 0, 1) := by decide +kernel
theorem dX5_configure_62 : decode cX5_configure 62 = .ok (.iastore, 1) := by decide +kernel
theorem dX5_configure_63 : decode cX5_configure 63 = .ok (.iinc 5 1, 3) := by decide +kernel
theorem dX5_configure_66 : decode cX5_configure 66 = .ok (.goto (-19), 3) := by decide +kernel
theorem dX5_configure_69 : decode cX5_configure 69 = .ok (.aload_n 0, 1) := by decide +kernel
theorem dX5_configure_70 : decode cX5_configure 70 = .ok (.getfield 7, 3) := by decide +kernel
theorem dX5_configure_73 : decode cX5_configure 73 = .ok (.iconst 0, 1) := by decide +kernel
theorem dX5_configure_74 : decode cX5_configure 74 = .ok (.iload_n 1, 1) := by decide +kernel
theorem dX5_configure_75 : decode cX5_configure 75 = .ok (.iastore, 1) := by decide +kernel
theorem dX5_configure_76 : decode cX5_configure 76 = .ok (.aload_n 0, 1) := by decide +kernel
theorem dX5_configure_77 : decode cX5_configure 77 = .ok (.getfield 7, 3) := by decide +kernel
theorem dX5_configure_80 : decode cX5_configure 80 = .ok (.iconst 1, 1) := by decide +kernel
theorem dX5_configure_81 : decode cX5_configure 81 = .ok (.iload_n 2, 1) := by decide +kernel
theorem dX5_configure_82 : decode cX5_configure 82 = .ok (.iastore, 1) := by decide +kernel
theorem dX5_configure_83 : decode cX5_configure 83 = .ok (.aload_n 0, 1) := by decide +kernel
theorem dX5_configure_84 : decode cX5_configure 84 = .ok (.getfield 7, 3) := by decide +kernel
theorem dX5_configure_87 : decode cX5_configure 87 = .ok (.iconst 2, 1) := by decide +kernel
theorem dX5_configure_88 : decode cX5_configure 88 = .ok (.iload_n 3, 1) := by decide +kernel
theorem dX5_configure_89 : decode cX5_configure 89 = .ok (.iastore, 1) := by decide +kernel
theorem dX5_configure_90 : decode cX5_configure 90 = .ok (.aload_n 0, 1) := by decide +kernel
theorem dX5_configure_91 : decode cX5_configure 91 = .ok (.getfield 7, 3) := by decide +kernel
theorem dX5_configure_94 : decode cX5_configure 94 = .ok (.iconst 3, 1) := by decide +kernel
theorem dX5_configure_95 : decode cX5_configure 95 = .ok (.iload 4, 2) := by decide +kernel
theorem dX5_configure_97 : decode cX5_configure 97 = .ok (.iastore, 1) := by decide +kernel
theorem dX5_configure_98 : decode cX5_configure 98 = .ok (.aload_n 0, 1) := by decide +kernel
theorem dX5_configure_99 : decode cX5_configure 99 = .ok (.invokevirtual 48, 3) := by decide +kernel
theorem dX5_configure_102 : decode cX5_configure 102 = .ok (.ireturn, 1) := by decide +kernel
theorem dX5_change_0 : decode cX5_change 0 = .ok (.aload_n 0, 1) := by decide +kernel
theorem dX5_change_1 : decode cX5_change 1 = .ok (.invokevirtual 107, 3) := by decide +kernel
theorem dX5_change_4 : decode cX5_change 4 = .ok (.aload_n 0, 1) := by decide +kernel
theorem dX5_change_5 : decode cX5_change 5 = .ok (.getfield 7, 3) := by decide +kernel
theorem dX5_change_8 : decode cX5_change 8 = .ok (.iload_n 1, 1) := by decide +kernel
theorem dX5_change_9 : decode cX5_change 9 = .ok (.iaload, 1) := by decide +kernel
theorem dX5_change_10 : decode cX5_change 10 = .ok (.istore_n 3, 1) := by decide +kernel
theorem dX5_change_11 : decode cX5_change 11 = .ok (.aload_n 0, 1) := by decide +kernel
theorem dX5_change_12 : decode cX5_change 12 = .ok (.getfield 7, 3) := by decide +kernel
theorem dX5_change_15 : decode cX5_change 15 = .ok (.iload_n 1, 1) := by decide +kernel
theorem dX5_change_16 : decode cX5_change 16 = .ok (.iload_n 2, 1) := by decide +kernel
theorem dX5_change_17 : decode cX5_change 17 = .ok (.iastore, 1) := by decide +kernel
theorem dX5_change_18 : decode cX5_change 18 = .ok (.iload_n 3, 1) := by decide +kernel
theorem dX5_change_19 : decode cX5_change 19 = .ok (.ireturn, 1) := by decide +kernel
theorem dX5_setStrategy_0 : decode cX5_setStrategy 0 = .ok (.iload_n 1, 1) := by decide +kernel
theorem dX5_setStrategy_1 : decode cX5_setStrategy 1 = .ok (.iconst 0, 1) := by decide +kernel
theorem dX5_setStrategy_2 : decode cX5_setStrategy 2 = .ok (.iconst 2, 1) := by decide +kernel
theorem dX5_setStrategy_3 : decode cX5_setStrategy 3 = .ok (.invokestatic 34, 3) := by decide +kernel
theorem dX5_setStrategy_6 : decode cX5_setStrategy 6 = .ok (.ifCond .eq 12, 3) := by decide +kernel
theorem dX5_setStrategy_9 : decode cX5_setStrategy 9 = .ok (.aload_n 0, 1) := by decide +kernel
theorem dX5_setStrategy_10 : decode cX5_setStrategy 10 = .ok (.iconst 4, 1) := by decide +kernel
theorem dX5_setStrategy_11 : decode cX5_setStrategy 11 = .ok (.iload_n 1, 1) := by decide +kernel
theorem dX5_setStrategy_12 : decode cX5_setStrategy 12 = .ok (.invokevirtual 135, 3) := by decide +kernel
theorem dX5_setStrategy_15 : decode cX5_setStrategy 15 = .ok (.goto 4, 3) := by decide +kernel
theorem dX5_setStrategy_18 : decode cX5_setStrategy 18 = .ok (.iconst (-1), 1) := by decide +kernel
theorem dX5_setStrategy_19 : decode cX5_setStrategy 19 = .ok (.ireturn, 1) := by decide +kernel
theorem dX5_setReserve_0 : decode cX5_setReserve 0 = .ok (.iload_n 1, 1) := by decide +kernel
theorem dX5_setReserve_1 : decode cX5_setReserve 1 = .ok (.iconst 0, 1) := by decide +kernel
theorem dX5_setReserve_2 : decode cX5_setReserve 2 = .ok (.iconst 3, 1) := by decide +kernel
theorem dX5_setReserve_3 : decode cX5_setReserve 3 = .ok (.invokestatic 34, 3) := by decide +kernel
theorem dX5_setReserve_6 : decode cX5_setReserve 6 = .ok (.ifCond .eq 12, 3) := by decide +kernel
theorem dX5_setReserve_9 : decode cX5_setReserve 9 = .ok (.aload_n 0, 1) := by decide +kernel
theorem dX5_setReserve_10 : decode cX5_setReserve 10 = .ok (.iconst 5, 1) := by decide +kernel
theorem dX5_setReserve_11 : decode cX5_setReserve 11 = .ok (.iload_n 1, 1) := by decide +kernel
theorem dX5_setReserve_12 : decode cX5_setReserve 12 = .ok (.invokevirtual 135, 3) := by decide +kernel
theorem dX5_setReserve_15 : decode cX5_setReserve 15 = .ok (.goto 4, 3) := by decide +kernel
theorem dX5_setReserve_18 : decode cX5_setReserve 18 = .ok (.iconst (-1), 1) := by decide +kernel
theorem dX5_setReserve_19 : decode cX5_setReserve 19 = .ok (.ireturn, 1) := by decide +kernel
theorem dX5_setReturning_0 : decode cX5_setReturning 0 = .ok (.iload_n 1, 1) := by decide +kernel
theorem dX5_setReturning_1 : decode cX5_setReturning 1 = .ok (.iconst 0, 1) := by decide +kernel
theorem dX5_setReturning_2 : decode cX5_setReturning 2 = .ok (.iconst 1, 1) := by decide +kernel
theorem dX5_setReturning_3 : decode cX5_setReturning 3 = .ok (.invokestatic 34, 3) := by decide +kernel
theorem dX5_setReturning_6 : decode cX5_setReturning 6 = .ok (.ifCond .ne 5, 3) := by decide +kernel
theorem dX5_setReturning_9 : decode cX5_setReturning 9 = .ok (.iconst (-1), 1) := by decide +kernel
theorem dX5_setReturning_10 : decode cX5_setReturning 10 = .ok (.ireturn, 1) := by decide +kernel
theorem dX5_setReturning_11 : decode cX5_setReturning 11 = .ok (.aload_n 0, 1) := by decide +kernel
theorem dX5_setReturning_12 : decode cX5_setReturning 12 = .ok (.invokevirtual 107, 3) := by decide +kernel
theorem dX5_setReturning_15 : decode cX5_setReturning 15 = .ok (.aload_n 0, 1) := by decide +kernel
theorem dX5_setReturning_16 : decode cX5_setReturning 16 = .ok (.getfield 7, 3) := by decide +kernel
theorem dX5_setReturning_19 : decode cX5_setReturning 19 = .ok (.bipush 6, 2) := by decide +kernel
theorem dX5_setReturning_21 : decode cX5_setReturning 21 = .ok (.iload_n 1, 1) := by decide +kernel
theorem dX5_setReturning_22 : decode cX5_setReturning 22 = .ok (.iastore, 1) := by decide +kernel
theorem dX5_setReturning_23 : decode cX5_setReturning 23 = .ok (.aload_n 0, 1) := by decide +kernel
theorem dX5_setReturning_24 : decode cX5_setReturning 24 = .ok (.invokevirtual 104, 3) := by decide +kernel
theorem dX5_setReturning_27 : decode cX5_setReturning 27 = .ok (.ireturn, 1) := by decide +kernel
theorem dX5_cellCount_0 : decode cX5_cellCount 0 = .ok (.aload_n 0, 1) := by decide +kernel
theorem dX5_cellCount_1 : decode cX5_cellCount 1 = .ok (.invokevirtual 42, 3) := by decide +kernel
theorem dX5_cellCount_4 : decode cX5_cellCount 4 = .ok (.ireturn, 1) := by decide +kernel
theorem dX5_channelCount_0 : decode cX5_channelCount 0 = .ok (.aload_n 0, 1) := by decide +kernel
theorem dX5_channelCount_1 : decode cX5_channelCount 1 = .ok (.invokevirtual 48, 3) := by decide +kernel
theorem dX5_channelCount_4 : decode cX5_channelCount 4 = .ok (.ireturn, 1) := by decide +kernel
theorem dX5_groupOf_0 : decode cX5_groupOf 0 = .ok (.aload_n 0, 1) := by decide +kernel
theorem dX5_groupOf_1 : decode cX5_groupOf 1 = .ok (.iload_n 1, 1) := by decide +kernel
theorem dX5_groupOf_2 : decode cX5_groupOf 2 = .ok (.invokevirtual 119, 3) := by decide +kernel
theorem dX5_groupOf_5 : decode cX5_groupOf 5 = .ok (.ifCond .eq 11, 3) := by decide +kernel
theorem dX5_groupOf_8 : decode cX5_groupOf 8 = .ok (.aload_n 0, 1) := by decide +kernel
theorem dX5_groupOf_9 : decode cX5_groupOf 9 = .ok (.iload_n 1, 1) := by decide +kernel
theorem dX5_groupOf_10 : decode cX5_groupOf 10 = .ok (.invokevirtual 55, 3) := by decide +kernel
theorem dX5_groupOf_13 : decode cX5_groupOf 13 = .ok (.goto 4, 3) := by decide +kernel
theorem dX5_groupOf_16 : decode cX5_groupOf 16 = .ok (.iconst (-1), 1) := by decide +kernel
theorem dX5_groupOf_17 : decode cX5_groupOf 17 = .ok (.ireturn, 1) := by decide +kernel
theorem dX5_distance_0 : decode cX5_distance 0 = .ok (.aload_n 0, 1) := by decide +kernel
theorem dX5_distance_1 : decode cX5_distance 1 = .ok (.iload_n 1, 1) := by decide +kernel
theorem dX5_distance_2 : decode cX5_distance 2 = .ok (.invokevirtual 119, 3) := by decide +kernel
theorem dX5_distance_5 : decode cX5_distance 5 = .ok (.ifCond .eq 20, 3) := by decide +kernel
theorem dX5_distance_8 : decode cX5_distance 8 = .ok (.aload_n 0, 1) := by decide +kernel
theorem dX5_distance_9 : decode cX5_distance 9 = .ok (.iload_n 2, 1) := by decide +kernel
theorem dX5_distance_10 : decode cX5_distance 10 = .ok (.invokevirtual 119, 3) := by decide +kernel
theorem dX5_distance_13 : decode cX5_distance 13 = .ok (.ifCond .eq 12, 3) := by decide +kernel
theorem dX5_distance_16 : decode cX5_distance 16 = .ok (.aload_n 0, 1) := by decide +kernel
theorem dX5_distance_17 : decode cX5_distance 17 = .ok (.iload_n 1, 1) := by decide +kernel
theorem dX5_distance_18 : decode cX5_distance 18 = .ok (.iload_n 2, 1) := by decide +kernel
theorem dX5_distance_19 : decode cX5_distance 19 = .ok (.invokevirtual 58, 3) := by decide +kernel
theorem dX5_distance_22 : decode cX5_distance 22 = .ok (.goto 4, 3) := by decide +kernel
theorem dX5_distance_25 : decode cX5_distance 25 = .ok (.iconst (-1), 1) := by decide +kernel
theorem dX5_distance_26 : decode cX5_distance 26 = .ok (.ireturn, 1) := by decide +kernel
theorem dX5_cellOf_0 : decode cX5_cellOf 0 = .ok (.aload_n 0, 1) := by decide +kernel
theorem dX5_cellOf_1 : decode cX5_cellOf 1 = .ok (.iload_n 1, 1) := by decide +kernel
theorem dX5_cellOf_2 : decode cX5_cellOf 2 = .ok (.invokevirtual 122, 3) := by decide +kernel
theorem dX5_cellOf_5 : decode cX5_cellOf 5 = .ok (.ifCond .eq 17, 3) := by decide +kernel
theorem dX5_cellOf_8 : decode cX5_cellOf 8 = .ok (.aload_n 0, 1) := by decide +kernel
theorem dX5_cellOf_9 : decode cX5_cellOf 9 = .ok (.getfield 7, 3) := by decide +kernel
theorem dX5_cellOf_12 : decode cX5_cellOf 12 = .ok (.bipush 14, 2) := by decide +kernel
theorem dX5_cellOf_14 : decode cX5_cellOf 14 = .ok (.iload_n 1, 1) := by decide +kernel
theorem dX5_cellOf_15 : decode cX5_cellOf 15 = .ok (.iadd, 1) := by decide +kernel
theorem dX5_cellOf_16 : decode cX5_cellOf 16 = .ok (.iaload, 1) := by decide +kernel
theorem dX5_cellOf_17 : decode cX5_cellOf 17 = .ok (.iconst 1, 1) := by decide +kernel
theorem dX5_cellOf_18 : decode cX5_cellOf 18 = .ok (.isub, 1) := by decide +kernel
theorem dX5_cellOf_19 : decode cX5_cellOf 19 = .ok (.goto 5, 3) := by decide +kernel
theorem dX5_cellOf_22 : decode cX5_cellOf 22 = .ok (.bipush (-4), 2) := by decide +kernel
theorem dX5_cellOf_24 : decode cX5_cellOf 24 = .ok (.ireturn, 1) := by decide +kernel
theorem dX5_channelOf_0 : decode cX5_channelOf 0 = .ok (.aload_n 0, 1) := by decide +kernel
theorem dX5_channelOf_1 : decode cX5_channelOf 1 = .ok (.iload_n 1, 1) := by decide +kernel
theorem dX5_channelOf_2 : decode cX5_channelOf 2 = .ok (.invokevirtual 122, 3) := by decide +kernel
theorem dX5_channelOf_5 : decode cX5_channelOf 5 = .ok (.ifCond .eq 11, 3) := by decide +kernel
theorem dX5_channelOf_8 : decode cX5_channelOf 8 = .ok (.aload_n 0, 1) := by decide +kernel
theorem dX5_channelOf_9 : decode cX5_channelOf 9 = .ok (.iload_n 1, 1) := by decide +kernel
theorem dX5_channelOf_10 : decode cX5_channelOf 10 = .ok (.invokevirtual 97, 3) := by decide +kernel
theorem dX5_channelOf_13 : decode cX5_channelOf 13 = .ok (.goto 5, 3) := by decide +kernel
theorem dX5_channelOf_16 : decode cX5_channelOf 16 = .ok (.bipush (-4), 2) := by decide +kernel
theorem dX5_channelOf_18 : decode cX5_channelOf 18 = .ok (.ireturn, 1) := by decide +kernel
theorem dX5_isBorrowed_0 : decode cX5_isBorrowed 0 = .ok (.aload_n 0, 1) := by decide +kernel
theorem dX5_isBorrowed_1 : decode cX5_isBorrowed 1 = .ok (.iload_n 1, 1) := by decide +kernel
theorem dX5_isBorrowed_2 : decode cX5_isBorrowed 2 = .ok (.invokevirtual 122, 3) := by decide +kernel
theorem dX5_isBorrowed_5 : decode cX5_isBorrowed 5 = .ok (.ifCond .ne 8, 3) := by decide +kernel
theorem dX5_isBorrowed_8 : decode cX5_isBorrowed 8 = .ok (.bipush (-4), 2) := by decide +kernel
theorem dX5_isBorrowed_10 : decode cX5_isBorrowed 10 = .ok (.goto 16, 3) := by decide +kernel
theorem dX5_isBorrowed_13 : decode cX5_isBorrowed 13 = .ok (.aload_n 0, 1) := by decide +kernel
theorem dX5_isBorrowed_14 : decode cX5_isBorrowed 14 = .ok (.iload_n 1, 1) := by decide +kernel
theorem dX5_isBorrowed_15 : decode cX5_isBorrowed 15 = .ok (.invokevirtual 87, 3) := by decide +kernel
theorem dX5_isBorrowed_18 : decode cX5_isBorrowed 18 = .ok (.ifCond .eq 7, 3) := by decide +kernel
theorem dX5_isBorrowed_21 : decode cX5_isBorrowed 21 = .ok (.iconst 1, 1) := by decide +kernel
theorem dX5_isBorrowed_22 : decode cX5_isBorrowed 22 = .ok (.goto 4, 3) := by decide +kernel
theorem dX5_isBorrowed_25 : decode cX5_isBorrowed 25 = .ok (.iconst 0, 1) := by decide +kernel
theorem dX5_isBorrowed_26 : decode cX5_isBorrowed 26 = .ok (.ireturn, 1) := by decide +kernel
theorem dX5_isInFixedScheme_0 : decode cX5_isInFixedScheme 0 = .ok (.aload_n 0, 1) := by decide +kernel
theorem dX5_isInFixedScheme_1 : decode cX5_isInFixedScheme 1 = .ok (.iload_n 1, 1) := by decide +kernel
theorem dX5_isInFixedScheme_2 : decode cX5_isInFixedScheme 2 = .ok (.invokevirtual 122, 3) := by decide +kernel
theorem dX5_isInFixedScheme_5 : decode cX5_isInFixedScheme 5 = .ok (.ifCond .eq 16, 3) := by decide +kernel
theorem dX5_isInFixedScheme_8 : decode cX5_isInFixedScheme 8 = .ok (.aload_n 0, 1) := by decide +kernel
theorem dX5_isInFixedScheme_9 : decode cX5_isInFixedScheme 9 = .ok (.getfield 7, 3) := by decide +kernel
theorem dX5_isInFixedScheme_12 : decode cX5_isInFixedScheme 12 = .ok (.sipush 134, 3) := by decide +kernel
theorem dX5_isInFixedScheme_15 : decode cX5_isInFixedScheme 15 = .ok (.iload_n 1, 1) := by decide +kernel
theorem dX5_isInFixedScheme_16 : decode cX5_isInFixedScheme 16 = .ok (.iadd, 1) := by decide +kernel
theorem dX5_isInFixedScheme_17 : decode cX5_isInFixedScheme 17 = .ok (.iaload, 1) := by decide +kernel
theorem dX5_isInFixedScheme_18 : decode cX5_isInFixedScheme 18 = .ok (.goto 5, 3) := by decide +kernel
theorem dX5_isInFixedScheme_21 : decode cX5_isInFixedScheme 21 = .ok (.bipush (-4), 2) := by decide +kernel
theorem dX5_isInFixedScheme_23 : decode cX5_isInFixedScheme 23 = .ok (.ireturn, 1) := by decide +kernel
theorem dX5_isAvailable_0 : decode cX5_isAvailable 0 = .ok (.aload_n 0, 1) := by decide +kernel
theorem dX5_isAvailable_1 : decode cX5_isAvailable 1 = .ok (.iload_n 1, 1) := by decide +kernel
theorem dX5_isAvailable_2 : decode cX5_isAvailable 2 = .ok (.invokevirtual 119, 3) := by decide +kernel
theorem dX5_isAvailable_5 : decode cX5_isAvailable 5 = .ok (.ifCond .eq 11, 3) := by decide +kernel
theorem dX5_isAvailable_8 : decode cX5_isAvailable 8 = .ok (.aload_n 0, 1) := by decide +kernel
theorem dX5_isAvailable_9 : decode cX5_isAvailable 9 = .ok (.iload_n 2, 1) := by decide +kernel
theorem dX5_isAvailable_10 : decode cX5_isAvailable 10 = .ok (.invokevirtual 138, 3) := by decide +kernel
theorem dX5_isAvailable_13 : decode cX5_isAvailable 13 = .ok (.ifCond .ne 7, 3) := by decide +kernel
theorem dX5_isAvailable_16 : decode cX5_isAvailable 16 = .ok (.iconst (-1), 1) := by decide +kernel
theorem dX5_isAvailable_17 : decode cX5_isAvailable 17 = .ok (.goto 17, 3) := by decide +kernel
theorem dX5_isAvailable_20 : decode cX5_isAvailable 20 = .ok (.aload_n 0, 1) := by decide +kernel
theorem dX5_isAvailable_21 : decode cX5_isAvailable 21 = .ok (.iload_n 1, 1) := by decide +kernel
theorem dX5_isAvailable_22 : decode cX5_isAvailable 22 = .ok (.iload_n 2, 1) := by decide +kernel
theorem dX5_isAvailable_23 : decode cX5_isAvailable 23 = .ok (.invokevirtual 72, 3) := by decide +kernel
theorem dX5_isAvailable_26 : decode cX5_isAvailable 26 = .ok (.ifCond .eq 7, 3) := by decide +kernel
theorem dX5_isAvailable_29 : decode cX5_isAvailable 29 = .ok (.iconst 1, 1) := by decide +kernel
theorem dX5_isAvailable_30 : decode cX5_isAvailable 30 = .ok (.goto 4, 3) := by decide +kernel
theorem dX5_isAvailable_33 : decode cX5_isAvailable 33 = .ok (.iconst 0, 1) := by decide +kernel
theorem dX5_isAvailable_34 : decode cX5_isAvailable 34 = .ok (.ireturn, 1) := by decide +kernel
theorem dX5_lockCount_0 : decode cX5_lockCount 0 = .ok (.aload_n 0, 1) := by decide +kernel
theorem dX5_lockCount_1 : decode cX5_lockCount 1 = .ok (.iload_n 1, 1) := by decide +kernel
theorem dX5_lockCount_2 : decode cX5_lockCount 2 = .ok (.invokevirtual 119, 3) := by decide +kernel
theorem dX5_lockCount_5 : decode cX5_lockCount 5 = .ok (.ifCond .eq 20, 3) := by decide +kernel
theorem dX5_lockCount_8 : decode cX5_lockCount 8 = .ok (.aload_n 0, 1) := by decide +kernel
theorem dX5_lockCount_9 : decode cX5_lockCount 9 = .ok (.iload_n 2, 1) := by decide +kernel
theorem dX5_lockCount_10 : decode cX5_lockCount 10 = .ok (.invokevirtual 138, 3) := by decide +kernel
theorem dX5_lockCount_13 : decode cX5_lockCount 13 = .ok (.ifCond .eq 12, 3) := by decide +kernel
theorem dX5_lockCount_16 : decode cX5_lockCount 16 = .ok (.aload_n 0, 1) := by decide +kernel
theorem dX5_lockCount_17 : decode cX5_lockCount 17 = .ok (.iload_n 1, 1) := by decide +kernel
theorem dX5_lockCount_18 : decode cX5_lockCount 18 = .ok (.iload_n 2, 1) := by decide +kernel
theorem dX5_lockCount_19 : decode cX5_lockCount 19 = .ok (.invokevirtual 66, 3) := by decide +kernel
theorem dX5_lockCount_22 : decode cX5_lockCount 22 = .ok (.goto 4, 3) := by decide +kernel
theorem dX5_lockCount_25 : decode cX5_lockCount 25 = .ok (.iconst (-1), 1) := by decide +kernel
theorem dX5_lockCount_26 : decode cX5_lockCount 26 = .ok (.ireturn, 1) := by decide +kernel
theorem dX5_burden_0 : decode cX5_burden 0 = .ok (.aload_n 0, 1) := by decide +kernel
theorem dX5_burden_1 : decode cX5_burden 1 = .ok (.iload_n 1, 1) := by decide +kernel
theorem dX5_burden_2 : decode cX5_burden 2 = .ok (.invokevirtual 119, 3) := by decide +kernel
theorem dX5_burden_5 : decode cX5_burden 5 = .ok (.ifCond .eq 20, 3) := by decide +kernel
theorem dX5_burden_8 : decode cX5_burden 8 = .ok (.aload_n 0, 1) := by decide +kernel
theorem dX5_burden_9 : decode cX5_burden 9 = .ok (.iload_n 2, 1) := by decide +kernel
theorem dX5_burden_10 : decode cX5_burden 10 = .ok (.invokevirtual 138, 3) := by decide +kernel
theorem dX5_burden_13 : decode cX5_burden 13 = .ok (.ifCond .eq 12, 3) := by decide +kernel
theorem dX5_burden_16 : decode cX5_burden 16 = .ok (.aload_n 0, 1) := by decide +kernel
theorem dX5_burden_17 : decode cX5_burden 17 = .ok (.iload_n 1, 1) := by decide +kernel
theorem dX5_burden_18 : decode cX5_burden 18 = .ok (.iload_n 2, 1) := by decide +kernel
theorem dX5_burden_19 : decode cX5_burden 19 = .ok (.invokevirtual 84, 3) := by decide +kernel
theorem dX5_burden_22 : decode cX5_burden 22 = .ok (.goto 4, 3) := by decide +kernel
theorem dX5_burden_25 : decode cX5_burden 25 = .ok (.iconst (-1), 1) := by decide +kernel
theorem dX5_burden_26 : decode cX5_burden 26 = .ok (.ireturn, 1) := by decide +kernel
theorem dX5_availableCount_0 : decode cX5_availableCount 0 = .ok (.aload_n 0, 1) := by decide +kernel
end
section
theorem dX5_availableCount_1 : decode cX5_availableCount 1 = .ok (.iload_n 1, 1) := by decide +kernel
theorem dX5_availableCount_2 : decode cX5_availableCount 2 = .ok (.invokevirtual 119, 3) := by decide +kernel
theorem dX5_availableCount_5 : decode cX5_availableCount 5 = .ok (.ifCond .eq 11, 3) := by decide +kernel
theorem dX5_availableCount_8 : decode cX5_availableCount 8 = .ok (.aload_n 0, 1) := by decide +kernel
theorem dX5_availableCount_9 : decode cX5_availableCount 9 = .ok (.iload_n 1, 1) := by decide +kernel
theorem dX5_availableCount_10 : decode cX5_availableCount 10 = .ok (.invokevirtual 81, 3) := by decide +kernel
theorem dX5_availableCount_13 : decode cX5_availableCount 13 = .ok (.goto 4, 3) := by decide +kernel
theorem dX5_availableCount_16 : decode cX5_availableCount 16 = .ok (.iconst (-1), 1) := by decide +kernel
theorem dX5_availableCount_17 : decode cX5_availableCount 17 = .ok (.ireturn, 1) := by decide +kernel
theorem dX5_usedCount_0 : decode cX5_usedCount 0 = .ok (.aload_n 0, 1) := by decide +kernel
theorem dX5_usedCount_1 : decode cX5_usedCount 1 = .ok (.iload_n 1, 1) := by decide +kernel
theorem dX5_usedCount_2 : decode cX5_usedCount 2 = .ok (.invokevirtual 119, 3) := by decide +kernel
theorem dX5_usedCount_5 : decode cX5_usedCount 5 = .ok (.ifCond .ne 5, 3) := by decide +kernel
theorem dX5_usedCount_8 : decode cX5_usedCount 8 = .ok (.iconst (-1), 1) := by decide +kernel
theorem dX5_usedCount_9 : decode cX5_usedCount 9 = .ok (.ireturn, 1) := by decide +kernel
theorem dX5_usedCount_10 : decode cX5_usedCount 10 = .ok (.iconst 0, 1) := by decide +kernel
theorem dX5_usedCount_11 : decode cX5_usedCount 11 = .ok (.istore_n 2, 1) := by decide +kernel
theorem dX5_usedCount_12 : decode cX5_usedCount 12 = .ok (.iconst 0, 1) := by decide +kernel
theorem dX5_usedCount_13 : decode cX5_usedCount 13 = .ok (.istore_n 3, 1) := by decide +kernel
theorem dX5_usedCount_14 : decode cX5_usedCount 14 = .ok (.iload_n 3, 1) := by decide +kernel
theorem dX5_usedCount_15 : decode cX5_usedCount 15 = .ok (.aload_n 0, 1) := by decide +kernel
theorem dX5_usedCount_16 : decode cX5_usedCount 16 = .ok (.invokevirtual 48, 3) := by decide +kernel
theorem dX5_usedCount_19 : decode cX5_usedCount 19 = .ok (.if_icmp .ge 26, 3) := by decide +kernel
theorem dX5_usedCount_22 : decode cX5_usedCount 22 = .ok (.iload_n 2, 1) := by decide +kernel
theorem dX5_usedCount_23 : decode cX5_usedCount 23 = .ok (.aload_n 0, 1) := by decide +kernel
theorem dX5_usedCount_24 : decode cX5_usedCount 24 = .ok (.iload_n 1, 1) := by decide +kernel
theorem dX5_usedCount_25 : decode cX5_usedCount 25 = .ok (.iload_n 3, 1) := by decide +kernel
theorem dX5_usedCount_26 : decode cX5_usedCount 26 = .ok (.invokevirtual 62, 3) := by decide +kernel
theorem dX5_usedCount_29 : decode cX5_usedCount 29 = .ok (.ifCond .eq 7, 3) := by decide +kernel
theorem dX5_usedCount_32 : decode cX5_usedCount 32 = .ok (.iconst 1, 1) := by decide +kernel
theorem dX5_usedCount_33 : decode cX5_usedCount 33 = .ok (.goto 4, 3) := by decide +kernel
theorem dX5_usedCount_36 : decode cX5_usedCount 36 = .ok (.iconst 0, 1) := by decide +kernel
theorem dX5_usedCount_37 : decode cX5_usedCount 37 = .ok (.iadd, 1) := by decide +kernel
theorem dX5_usedCount_38 : decode cX5_usedCount 38 = .ok (.istore_n 2, 1) := by decide +kernel
theorem dX5_usedCount_39 : decode cX5_usedCount 39 = .ok (.iinc 3 1, 3) := by decide +kernel
theorem dX5_usedCount_42 : decode cX5_usedCount 42 = .ok (.goto (-28), 3) := by decide +kernel
theorem dX5_usedCount_45 : decode cX5_usedCount 45 = .ok (.iload_n 2, 1) := by decide +kernel
theorem dX5_usedCount_46 : decode cX5_usedCount 46 = .ok (.ireturn, 1) := by decide +kernel
theorem dX5_lockedCount_0 : decode cX5_lockedCount 0 = .ok (.aload_n 0, 1) := by decide +kernel
theorem dX5_lockedCount_1 : decode cX5_lockedCount 1 = .ok (.iload_n 1, 1) := by decide +kernel
theorem dX5_lockedCount_2 : decode cX5_lockedCount 2 = .ok (.invokevirtual 119, 3) := by decide +kernel
theorem dX5_lockedCount_5 : decode cX5_lockedCount 5 = .ok (.ifCond .ne 5, 3) := by decide +kernel
theorem dX5_lockedCount_8 : decode cX5_lockedCount 8 = .ok (.iconst (-1), 1) := by decide +kernel
theorem dX5_lockedCount_9 : decode cX5_lockedCount 9 = .ok (.ireturn, 1) := by decide +kernel
theorem dX5_lockedCount_10 : decode cX5_lockedCount 10 = .ok (.iconst 0, 1) := by decide +kernel
theorem dX5_lockedCount_11 : decode cX5_lockedCount 11 = .ok (.istore_n 2, 1) := by decide +kernel
theorem dX5_lockedCount_12 : decode cX5_lockedCount 12 = .ok (.iconst 0, 1) := by decide +kernel
theorem dX5_lockedCount_13 : decode cX5_lockedCount 13 = .ok (.istore_n 3, 1) := by decide +kernel
theorem dX5_lockedCount_14 : decode cX5_lockedCount 14 = .ok (.iload_n 3, 1) := by decide +kernel
theorem dX5_lockedCount_15 : decode cX5_lockedCount 15 = .ok (.aload_n 0, 1) := by decide +kernel
theorem dX5_lockedCount_16 : decode cX5_lockedCount 16 = .ok (.invokevirtual 48, 3) := by decide +kernel
theorem dX5_lockedCount_19 : decode cX5_lockedCount 19 = .ok (.if_icmp .ge 44, 3) := by decide +kernel
theorem dX5_lockedCount_22 : decode cX5_lockedCount 22 = .ok (.iload_n 2, 1) := by decide +kernel
theorem dX5_lockedCount_23 : decode cX5_lockedCount 23 = .ok (.aload_n 0, 1) := by decide +kernel
theorem dX5_lockedCount_24 : decode cX5_lockedCount 24 = .ok (.iload_n 1, 1) := by decide +kernel
theorem dX5_lockedCount_25 : decode cX5_lockedCount 25 = .ok (.iload_n 3, 1) := by decide +kernel
theorem dX5_lockedCount_26 : decode cX5_lockedCount 26 = .ok (.invokevirtual 69, 3) := by decide +kernel
theorem dX5_lockedCount_29 : decode cX5_lockedCount 29 = .ok (.ifCond .eq 25, 3) := by decide +kernel
theorem dX5_lockedCount_32 : decode cX5_lockedCount 32 = .ok (.aload_n 0, 1) := by decide +kernel
theorem dX5_lockedCount_33 : decode cX5_lockedCount 33 = .ok (.iload_n 1, 1) := by decide +kernel
theorem dX5_lockedCount_34 : decode cX5_lockedCount 34 = .ok (.iload_n 3, 1) := by decide +kernel
theorem dX5_lockedCount_35 : decode cX5_lockedCount 35 = .ok (.invokevirtual 62, 3) := by decide +kernel
theorem dX5_lockedCount_38 : decode cX5_lockedCount 38 = .ok (.ifCond .ne 16, 3) := by decide +kernel
theorem dX5_lockedCount_41 : decode cX5_lockedCount 41 = .ok (.aload_n 0, 1) := by decide +kernel
theorem dX5_lockedCount_42 : decode cX5_lockedCount 42 = .ok (.iload_n 1, 1) := by decide +kernel
theorem dX5_lockedCount_43 : decode cX5_lockedCount 43 = .ok (.iload_n 3, 1) := by decide +kernel
theorem dX5_lockedCount_44 : decode cX5_lockedCount 44 = .ok (.invokevirtual 66, 3) := by decide +kernel
theorem dX5_lockedCount_47 : decode cX5_lockedCount 47 = .ok (.ifCond .le 7, 3) := by decide +kernel
theorem dX5_lockedCount_50 : decode cX5_lockedCount 50 = .ok (.iconst 1, 1) := by decide +kernel
theorem dX5_lockedCount_51 : decode cX5_lockedCount 51 = .ok (.goto 4, 3) := by decide +kernel
theorem dX5_lockedCount_54 : decode cX5_lockedCount 54 = .ok (.iconst 0, 1) := by decide +kernel
theorem dX5_lockedCount_55 : decode cX5_lockedCount 55 = .ok (.iadd, 1) := by decide +kernel
theorem dX5_lockedCount_56 : decode cX5_lockedCount 56 = .ok (.istore_n 2, 1) := by decide +kernel
theorem dX5_lockedCount_57 : decode cX5_lockedCount 57 = .ok (.iinc 3 1, 3) := by decide +kernel
theorem dX5_lockedCount_60 : decode cX5_lockedCount 60 = .ok (.goto (-46), 3) := by decide +kernel
theorem dX5_lockedCount_63 : decode cX5_lockedCount 63 = .ok (.iload_n 2, 1) := by decide +kernel
theorem dX5_lockedCount_64 : decode cX5_lockedCount 64 = .ok (.ireturn, 1) := by decide +kernel
theorem dX5_nextChannel_0 : decode cX5_nextChannel 0 = .ok (.aload_n 0, 1) := by decide +kernel
theorem dX5_nextChannel_1 : decode cX5_nextChannel 1 = .ok (.iload_n 1, 1) := by decide +kernel
theorem dX5_nextChannel_2 : decode cX5_nextChannel 2 = .ok (.invokevirtual 119, 3) := by decide +kernel
theorem dX5_nextChannel_5 : decode cX5_nextChannel 5 = .ok (.ifCond .eq 11, 3) := by decide +kernel
theorem dX5_nextChannel_8 : decode cX5_nextChannel 8 = .ok (.aload_n 0, 1) := by decide +kernel
theorem dX5_nextChannel_9 : decode cX5_nextChannel 9 = .ok (.iload_n 1, 1) := by decide +kernel
theorem dX5_nextChannel_10 : decode cX5_nextChannel 10 = .ok (.invokevirtual 91, 3) := by decide +kernel
theorem dX5_nextChannel_13 : decode cX5_nextChannel 13 = .ok (.goto 4, 3) := by decide +kernel
theorem dX5_nextChannel_16 : decode cX5_nextChannel 16 = .ok (.iconst (-1), 1) := by decide +kernel
theorem dX5_nextChannel_17 : decode cX5_nextChannel 17 = .ok (.ireturn, 1) := by decide +kernel
theorem dX5_nextDonor_0 : decode cX5_nextDonor 0 = .ok (.aload_n 0, 1) := by decide +kernel
theorem dX5_nextDonor_1 : decode cX5_nextDonor 1 = .ok (.iload_n 1, 1) := by decide +kernel
theorem dX5_nextDonor_2 : decode cX5_nextDonor 2 = .ok (.invokevirtual 119, 3) := by decide +kernel
theorem dX5_nextDonor_5 : decode cX5_nextDonor 5 = .ok (.ifCond .ne 5, 3) := by decide +kernel
theorem dX5_nextDonor_8 : decode cX5_nextDonor 8 = .ok (.iconst (-1), 1) := by decide +kernel
theorem dX5_nextDonor_9 : decode cX5_nextDonor 9 = .ok (.ireturn, 1) := by decide +kernel
theorem dX5_nextDonor_10 : decode cX5_nextDonor 10 = .ok (.aload_n 0, 1) := by decide +kernel
theorem dX5_nextDonor_11 : decode cX5_nextDonor 11 = .ok (.iload_n 1, 1) := by decide +kernel
theorem dX5_nextDonor_12 : decode cX5_nextDonor 12 = .ok (.invokevirtual 91, 3) := by decide +kernel
theorem dX5_nextDonor_15 : decode cX5_nextDonor 15 = .ok (.istore_n 2, 1) := by decide +kernel
theorem dX5_nextDonor_16 : decode cX5_nextDonor 16 = .ok (.iload_n 2, 1) := by decide +kernel
theorem dX5_nextDonor_17 : decode cX5_nextDonor 17 = .ok (.bipush (-9), 2) := by decide +kernel
theorem dX5_nextDonor_19 : decode cX5_nextDonor 19 = .ok (.if_icmp .ne 8, 3) := by decide +kernel
theorem dX5_nextDonor_22 : decode cX5_nextDonor 22 = .ok (.bipush (-9), 2) := by decide +kernel
theorem dX5_nextDonor_24 : decode cX5_nextDonor 24 = .ok (.goto 7, 3) := by decide +kernel
theorem dX5_nextDonor_27 : decode cX5_nextDonor 27 = .ok (.aload_n 0, 1) := by decide +kernel
theorem dX5_nextDonor_28 : decode cX5_nextDonor 28 = .ok (.getfield 75, 3) := by decide +kernel
theorem dX5_nextDonor_31 : decode cX5_nextDonor 31 = .ok (.ireturn, 1) := by decide +kernel
theorem dX5_blockingCells_0 : decode cX5_blockingCells 0 = .ok (.iconst 0, 1) := by decide +kernel
theorem dX5_blockingCells_1 : decode cX5_blockingCells 1 = .ok (.istore_n 1, 1) := by decide +kernel
theorem dX5_blockingCells_2 : decode cX5_blockingCells 2 = .ok (.iconst 0, 1) := by decide +kernel
theorem dX5_blockingCells_3 : decode cX5_blockingCells 3 = .ok (.istore_n 2, 1) := by decide +kernel
theorem dX5_blockingCells_4 : decode cX5_blockingCells 4 = .ok (.iload_n 2, 1) := by decide +kernel
theorem dX5_blockingCells_5 : decode cX5_blockingCells 5 = .ok (.aload_n 0, 1) := by decide +kernel
theorem dX5_blockingCells_6 : decode cX5_blockingCells 6 = .ok (.invokevirtual 42, 3) := by decide +kernel
theorem dX5_blockingCells_9 : decode cX5_blockingCells 9 = .ok (.if_icmp .ge 27, 3) := by decide +kernel
theorem dX5_blockingCells_12 : decode cX5_blockingCells 12 = .ok (.iload_n 1, 1) := by decide +kernel
theorem dX5_blockingCells_13 : decode cX5_blockingCells 13 = .ok (.aload_n 0, 1) := by decide +kernel
theorem dX5_blockingCells_14 : decode cX5_blockingCells 14 = .ok (.iload_n 2, 1) := by decide +kernel
theorem dX5_blockingCells_15 : decode cX5_blockingCells 15 = .ok (.invokevirtual 91, 3) := by decide +kernel
theorem dX5_blockingCells_18 : decode cX5_blockingCells 18 = .ok (.bipush (-9), 2) := by decide +kernel
theorem dX5_blockingCells_20 : decode cX5_blockingCells 20 = .ok (.if_icmp .ne 7, 3) := by decide +kernel
theorem dX5_blockingCells_23 : decode cX5_blockingCells 23 = .ok (.iconst 1, 1) := by decide +kernel
theorem dX5_blockingCells_24 : decode cX5_blockingCells 24 = .ok (.goto 4, 3) := by decide +kernel
theorem dX5_blockingCells_27 : decode cX5_blockingCells 27 = .ok (.iconst 0, 1) := by decide +kernel
theorem dX5_blockingCells_28 : decode cX5_blockingCells 28 = .ok (.iadd, 1) := by decide +kernel
theorem dX5_blockingCells_29 : decode cX5_blockingCells 29 = .ok (.istore_n 1, 1) := by decide +kernel
theorem dX5_blockingCells_30 : decode cX5_blockingCells 30 = .ok (.iinc 2 1, 3) := by decide +kernel
theorem dX5_blockingCells_33 : decode cX5_blockingCells 33 = .ok (.goto (-29), 3) := by decide +kernel
theorem dX5_blockingCells_36 : decode cX5_blockingCells 36 = .ok (.iload_n 1, 1) := by decide +kernel
theorem dX5_blockingCells_37 : decode cX5_blockingCells 37 = .ok (.ireturn, 1) := by decide +kernel
theorem dX5_callCount_0 : decode cX5_callCount 0 = .ok (.aload_n 0, 1) := by decide +kernel
theorem dX5_callCount_1 : decode cX5_callCount 1 = .ok (.invokevirtual 38, 3) := by decide +kernel
theorem dX5_callCount_4 : decode cX5_callCount 4 = .ok (.ireturn, 1) := by decide +kernel
theorem dX5_attempts_0 : decode cX5_attempts 0 = .ok (.aload_n 0, 1) := by decide +kernel
theorem dX5_attempts_1 : decode cX5_attempts 1 = .ok (.getfield 7, 3) := by decide +kernel
theorem dX5_attempts_4 : decode cX5_attempts 4 = .ok (.bipush 7, 2) := by decide +kernel
theorem dX5_attempts_6 : decode cX5_attempts 6 = .ok (.iaload, 1) := by decide +kernel
theorem dX5_attempts_7 : decode cX5_attempts 7 = .ok (.ireturn, 1) := by decide +kernel
theorem dX5_blocked_0 : decode cX5_blocked 0 = .ok (.aload_n 0, 1) := by decide +kernel
theorem dX5_blocked_1 : decode cX5_blocked 1 = .ok (.getfield 7, 3) := by decide +kernel
theorem dX5_blocked_4 : decode cX5_blocked 4 = .ok (.bipush 8, 2) := by decide +kernel
theorem dX5_blocked_6 : decode cX5_blocked 6 = .ok (.iaload, 1) := by decide +kernel
theorem dX5_blocked_7 : decode cX5_blocked 7 = .ok (.ireturn, 1) := by decide +kernel
theorem dX5_blockedInFixedScheme_0 : decode cX5_blockedInFixedScheme 0 = .ok (.aload_n 0, 1) := by decide +kernel
theorem dX5_blockedInFixedScheme_1 : decode cX5_blockedInFixedScheme 1 = .ok (.getfield 7, 3) := by decide +kernel
theorem dX5_blockedInFixedScheme_4 : decode cX5_blockedInFixedScheme 4 = .ok (.bipush 9, 2) := by decide +kernel
theorem dX5_blockedInFixedScheme_6 : decode cX5_blockedInFixedScheme 6 = .ok (.iaload, 1) := by decide +kernel
theorem dX5_blockedInFixedScheme_7 : decode cX5_blockedInFixedScheme 7 = .ok (.ireturn, 1) := by decide +kernel
theorem dX5_dropped_0 : decode cX5_dropped 0 = .ok (.aload_n 0, 1) := by decide +kernel
theorem dX5_dropped_1 : decode cX5_dropped 1 = .ok (.getfield 7, 3) := by decide +kernel
theorem dX5_dropped_4 : decode cX5_dropped 4 = .ok (.bipush 10, 2) := by decide +kernel
theorem dX5_dropped_6 : decode cX5_dropped 6 = .ok (.iaload, 1) := by decide +kernel
theorem dX5_dropped_7 : decode cX5_dropped 7 = .ok (.ireturn, 1) := by decide +kernel
theorem dX5_droppedInFixedScheme_0 : decode cX5_droppedInFixedScheme 0 = .ok (.aload_n 0, 1) := by decide +kernel
theorem dX5_droppedInFixedScheme_1 : decode cX5_droppedInFixedScheme 1 = .ok (.getfield 7, 3) := by decide +kernel
theorem dX5_droppedInFixedScheme_4 : decode cX5_droppedInFixedScheme 4 = .ok (.bipush 11, 2) := by decide +kernel
theorem dX5_droppedInFixedScheme_6 : decode cX5_droppedInFixedScheme 6 = .ok (.iaload, 1) := by decide +kernel
theorem dX5_droppedInFixedScheme_7 : decode cX5_droppedInFixedScheme 7 = .ok (.ireturn, 1) := by decide +kernel
theorem dX5_borrowings_0 : decode cX5_borrowings 0 = .ok (.aload_n 0, 1) := by decide +kernel
theorem dX5_borrowings_1 : decode cX5_borrowings 1 = .ok (.getfield 7, 3) := by decide +kernel
theorem dX5_borrowings_4 : decode cX5_borrowings 4 = .ok (.bipush 12, 2) := by decide +kernel
theorem dX5_borrowings_6 : decode cX5_borrowings 6 = .ok (.iaload, 1) := by decide +kernel
theorem dX5_borrowings_7 : decode cX5_borrowings 7 = .ok (.ireturn, 1) := by decide +kernel
theorem dX5_returns_0 : decode cX5_returns 0 = .ok (.aload_n 0, 1) := by decide +kernel
theorem dX5_returns_1 : decode cX5_returns 1 = .ok (.getfield 7, 3) := by decide +kernel
theorem dX5_returns_4 : decode cX5_returns 4 = .ok (.bipush 13, 2) := by decide +kernel
theorem dX5_returns_6 : decode cX5_returns 6 = .ok (.iaload, 1) := by decide +kernel
theorem dX5_returns_7 : decode cX5_returns 7 = .ok (.ireturn, 1) := by decide +kernel
theorem dX5_appendCharacter_0 : decode cX5_appendCharacter 0 = .ok (.iload_n 1, 1) := by decide +kernel
theorem dX5_appendCharacter_1 : decode cX5_appendCharacter 1 = .ok (.iconst 0, 1) := by decide +kernel
theorem dX5_appendCharacter_2 : decode cX5_appendCharacter 2 = .ok (.sipush 255, 3) := by decide +kernel
theorem dX5_appendCharacter_5 : decode cX5_appendCharacter 5 = .ok (.invokestatic 34, 3) := by decide +kernel
theorem dX5_appendCharacter_8 : decode cX5_appendCharacter 8 = .ok (.ifCond .ne 5, 3) := by decide +kernel
theorem dX5_appendCharacter_11 : decode cX5_appendCharacter 11 = .ok (.iconst (-1), 1) := by decide +kernel
theorem dX5_appendCharacter_12 : decode cX5_appendCharacter 12 = .ok (.ireturn, 1) := by decide +kernel
theorem dX5_appendCharacter_13 : decode cX5_appendCharacter 13 = .ok (.aload_n 0, 1) := by decide +kernel
theorem dX5_appendCharacter_14 : decode cX5_appendCharacter 14 = .ok (.getfield 141, 3) := by decide +kernel
theorem dX5_appendCharacter_17 : decode cX5_appendCharacter 17 = .ok (.bipush 100, 2) := by decide +kernel
theorem dX5_appendCharacter_19 : decode cX5_appendCharacter 19 = .ok (.if_icmp .ne 6, 3) := by decide +kernel
theorem dX5_appendCharacter_22 : decode cX5_appendCharacter 22 = .ok (.bipush (-3), 2) := by decide +kernel
theorem dX5_appendCharacter_24 : decode cX5_appendCharacter 24 = .ok (.ireturn, 1) := by decide +kernel
theorem dX5_appendCharacter_25 : decode cX5_appendCharacter 25 = .ok (.aload_n 0, 1) := by decide +kernel
theorem dX5_appendCharacter_26 : decode cX5_appendCharacter 26 = .ok (.getfield 23, 3) := by decide +kernel
theorem dX5_appendCharacter_29 : decode cX5_appendCharacter 29 = .ok (.aload_n 0, 1) := by decide +kernel
theorem dX5_appendCharacter_30 : decode cX5_appendCharacter 30 = .ok (.getfield 141, 3) := by decide +kernel
theorem dX5_appendCharacter_33 : decode cX5_appendCharacter 33 = .ok (.iload_n 1, 1) := by decide +kernel
theorem dX5_appendCharacter_34 : decode cX5_appendCharacter 34 = .ok (.i2b, 1) := by decide +kernel
theorem dX5_appendCharacter_35 : decode cX5_appendCharacter 35 = .ok (.bastore, 1) := by decide +kernel
theorem dX5_appendCharacter_36 : decode cX5_appendCharacter 36 = .ok (.aload_n 0, 1) := by decide +kernel
theorem dX5_appendCharacter_37 : decode cX5_appendCharacter 37 = .ok (.dup, 1) := by decide +kernel
theorem dX5_appendCharacter_38 : decode cX5_appendCharacter 38 = .ok (.getfield 141, 3) := by decide +kernel
theorem dX5_appendCharacter_41 : decode cX5_appendCharacter 41 = .ok (.iconst 1, 1) := by decide +kernel
theorem dX5_appendCharacter_42 : decode cX5_appendCharacter 42 = .ok (.iadd, 1) := by decide +kernel
theorem dX5_appendCharacter_43 : decode cX5_appendCharacter 43 = .ok (.putfield 141, 3) := by decide +kernel
theorem dX5_appendCharacter_46 : decode cX5_appendCharacter 46 = .ok (.aload_n 0, 1) := by decide +kernel
theorem dX5_appendCharacter_47 : decode cX5_appendCharacter 47 = .ok (.getfield 141, 3) := by decide +kernel
theorem dX5_appendCharacter_50 : decode cX5_appendCharacter 50 = .ok (.ireturn, 1) := by decide +kernel
theorem dX5_clearText_0 : decode cX5_clearText 0 = .ok (.aload_n 0, 1) := by decide +kernel
theorem dX5_clearText_1 : decode cX5_clearText 1 = .ok (.getfield 141, 3) := by decide +kernel
theorem dX5_clearText_4 : decode cX5_clearText 4 = .ok (.istore_n 1, 1) := by decide +kernel
theorem dX5_clearText_5 : decode cX5_clearText 5 = .ok (.aload_n 0, 1) := by decide +kernel
theorem dX5_clearText_6 : decode cX5_clearText 6 = .ok (.iconst 0, 1) := by decide +kernel
theorem dX5_clearText_7 : decode cX5_clearText 7 = .ok (.putfield 141, 3) := by decide +kernel
theorem dX5_clearText_10 : decode cX5_clearText 10 = .ok (.iload_n 1, 1) := by decide +kernel
theorem dX5_clearText_11 : decode cX5_clearText 11 = .ok (.ireturn, 1) := by decide +kernel
theorem dX5_here_0 : decode cX5_here 0 = .ok (.aload_n 0, 1) := by decide +kernel
theorem dX5_here_1 : decode cX5_here 1 = .ok (.getfield 144, 3) := by decide +kernel
theorem dX5_here_4 : decode cX5_here 4 = .ok (.aload_n 0, 1) := by decide +kernel
theorem dX5_here_5 : decode cX5_here 5 = .ok (.getfield 141, 3) := by decide +kernel
theorem dX5_here_8 : decode cX5_here 8 = .ok (.if_icmp .ge 19, 3) := by decide +kernel
theorem dX5_here_11 : decode cX5_here 11 = .ok (.aload_n 0, 1) := by decide +kernel
theorem dX5_here_12 : decode cX5_here 12 = .ok (.getfield 23, 3) := by decide +kernel
theorem dX5_here_15 : decode cX5_here 15 = .ok (.aload_n 0, 1) := by decide +kernel
theorem dX5_here_16 : decode cX5_here 16 = .ok (.getfield 144, 3) := by decide +kernel
theorem dX5_here_19 : decode cX5_here 19 = .ok (.baload, 1) := by decide +kernel
theorem dX5_here_20 : decode cX5_here 20 = .ok (.sipush 255, 3) := by decide +kernel
theorem dX5_here_23 : decode cX5_here 23 = .ok (.iand, 1) := by decide +kernel
theorem dX5_here_24 : decode cX5_here 24 = .ok (.goto 4, 3) := by decide +kernel
theorem dX5_here_27 : decode cX5_here 27 = .ok (.iconst (-1), 1) := by decide +kernel
theorem dX5_here_28 : decode cX5_here 28 = .ok (.ireturn, 1) := by decide +kernel
theorem dX5_skip_0 : decode cX5_skip 0 = .ok (.aload_n 0, 1) := by decide +kernel
theorem dX5_skip_1 : decode cX5_skip 1 = .ok (.invokevirtual 147, 3) := by decide +kernel
theorem dX5_skip_4 : decode cX5_skip 4 = .ok (.bipush 32, 2) := by decide +kernel
theorem dX5_skip_6 : decode cX5_skip 6 = .ok (.if_icmp .ne 16, 3) := by decide +kernel
theorem dX5_skip_9 : decode cX5_skip 9 = .ok (.aload_n 0, 1) := by decide +kernel
theorem dX5_skip_10 : decode cX5_skip 10 = .ok (.dup, 1) := by decide +kernel
theorem dX5_skip_11 : decode cX5_skip 11 = .ok (.getfield 144, 3) := by decide +kernel
theorem dX5_skip_14 : decode cX5_skip 14 = .ok (.iconst 1, 1) := by decide +kernel
theorem dX5_skip_15 : decode cX5_skip 15 = .ok (.iadd, 1) := by decide +kernel
theorem dX5_skip_16 : decode cX5_skip 16 = .ok (.putfield 144, 3) := by decide +kernel
theorem dX5_skip_19 : decode cX5_skip 19 = .ok (.goto (-19), 3) := by decide +kernel
theorem dX5_skip_22 : decode cX5_skip 22 = .ok (.return_, 1) := by decide +kernel
theorem dX5_expect_0 : decode cX5_expect 0 = .ok (.aload_n 0, 1) := by decide +kernel
theorem dX5_expect_1 : decode cX5_expect 1 = .ok (.invokevirtual 150, 3) := by decide +kernel
theorem dX5_expect_4 : decode cX5_expect 4 = .ok (.aload_n 0, 1) := by decide +kernel
theorem dX5_expect_5 : decode cX5_expect 5 = .ok (.getfield 153, 3) := by decide +kernel
theorem dX5_expect_8 : decode cX5_expect 8 = .ok (.ifCond .ne 41, 3) := by decide +kernel
theorem dX5_expect_11 : decode cX5_expect 11 = .ok (.aload_n 0, 1) := by decide +kernel
theorem dX5_expect_12 : decode cX5_expect 12 = .ok (.aload_n 0, 1) := by decide +kernel
theorem dX5_expect_13 : decode cX5_expect 13 = .ok (.invokevirtual 147, 3) := by decide +kernel
theorem dX5_expect_16 : decode cX5_expect 16 = .ok (.iload_n 1, 1) := by decide +kernel
theorem dX5_expect_17 : decode cX5_expect 17 = .ok (.if_icmp .eq 7, 3) := by decide +kernel
theorem dX5_expect_20 : decode cX5_expect 20 = .ok (.iconst 1, 1) := by decide +kernel
theorem dX5_expect_21 : decode cX5_expect 21 = .ok (.goto 4, 3) := by decide +kernel
theorem dX5_expect_24 : decode cX5_expect 24 = .ok (.iconst 0, 1) := by decide +kernel
theorem dX5_expect_25 : decode cX5_expect 25 = .ok (.putfield 153, 3) := by decide +kernel
theorem dX5_expect_28 : decode cX5_expect 28 = .ok (.aload_n 0, 1) := by decide +kernel
theorem dX5_expect_29 : decode cX5_expect 29 = .ok (.dup, 1) := by decide +kernel
theorem dX5_expect_30 : decode cX5_expect 30 = .ok (.getfield 144, 3) := by decide +kernel
theorem dX5_expect_33 : decode cX5_expect 33 = .ok (.aload_n 0, 1) := by decide +kernel
theorem dX5_expect_34 : decode cX5_expect 34 = .ok (.getfield 153, 3) := by decide +kernel
theorem dX5_expect_37 : decode cX5_expect 37 = .ok (.ifCond .eq 7, 3) := by decide +kernel
theorem dX5_expect_40 : decode cX5_expect 40 = .ok (.iconst 0, 1) := by decide +kernel
theorem dX5_expect_41 : decode cX5_expect 41 = .ok (.goto 4, 3) := by decide +kernel
theorem dX5_expect_44 : decode cX5_expect 44 = .ok (.iconst 1, 1) := by decide +kernel
theorem dX5_expect_45 : decode cX5_expect 45 = .ok (.iadd, 1) := by decide +kernel
theorem dX5_expect_46 : decode cX5_expect 46 = .ok (.putfield 144, 3) := by decide +kernel
theorem dX5_expect_49 : decode cX5_expect 49 = .ok (.return_, 1) := by decide +kernel
theorem dX5_number_0 : decode cX5_number 0 = .ok (.aload_n 0, 1) := by decide +kernel
theorem dX5_number_1 : decode cX5_number 1 = .ok (.invokevirtual 150, 3) := by decide +kernel
theorem dX5_number_4 : decode cX5_number 4 = .ok (.aload_n 0, 1) := by decide +kernel
theorem dX5_number_5 : decode cX5_number 5 = .ok (.invokevirtual 147, 3) := by decide +kernel
theorem dX5_number_8 : decode cX5_number 8 = .ok (.bipush 48, 2) := by decide +kernel
theorem dX5_number_10 : decode cX5_number 10 = .ok (.isub, 1) := by decide +kernel
theorem dX5_number_11 : decode cX5_number 11 = .ok (.istore_n 1, 1) := by decide +kernel
theorem dX5_number_12 : decode cX5_number 12 = .ok (.aload_n 0, 1) := by decide +kernel
theorem dX5_number_13 : decode cX5_number 13 = .ok (.aload_n 0, 1) := by decide +kernel
theorem dX5_number_14 : decode cX5_number 14 = .ok (.getfield 153, 3) := by decide +kernel
theorem dX5_number_17 : decode cX5_number 17 = .ok (.ifCond .ne 13, 3) := by decide +kernel
theorem dX5_number_20 : decode cX5_number 20 = .ok (.iload_n 1, 1) := by decide +kernel
theorem dX5_number_21 : decode cX5_number 21 = .ok (.iconst 0, 1) := by decide +kernel
theorem dX5_number_22 : decode cX5_number 22 = .ok (.bipush 9, 2) := by decide +kernel
theorem dX5_number_24 : decode cX5_number 24 = .ok (.invokestatic 34, 3) := by decide +kernel
theorem dX5_number_27 : decode cX5_number 27 = .ok (.ifCond .ne 7, 3) := by decide +kernel
theorem dX5_number_30 : decode cX5_number 30 = .ok (.iconst 1, 1) := by decide +kernel
theorem dX5_number_31 : decode cX5_number 31 = .ok (.goto 4, 3) := by decide +kernel
theorem dX5_number_34 : decode cX5_number 34 = .ok (.iconst 0, 1) := by decide +kernel
theorem dX5_number_35 : decode cX5_number 35 = .ok (.putfield 153, 3) := by decide +kernel
theorem dX5_number_38 : decode cX5_number 38 = .ok (.aload_n 0, 1) := by decide +kernel
theorem dX5_number_39 : decode cX5_number 39 = .ok (.getfield 153, 3) := by decide +kernel
theorem dX5_number_42 : decode cX5_number 42 = .ok (.ifCond .eq 5, 3) := by decide +kernel
theorem dX5_number_45 : decode cX5_number 45 = .ok (.iconst 0, 1) := by decide +kernel
theorem dX5_number_46 : decode cX5_number 46 = .ok (.ireturn, 1) := by decide +kernel
theorem dX5_number_47 : decode cX5_number 47 = .ok (.aload_n 0, 1) := by decide +kernel
theorem dX5_number_48 : decode cX5_number 48 = .ok (.dup, 1) := by decide +kernel
theorem dX5_number_49 : decode cX5_number 49 = .ok (.getfield 144, 3) := by decide +kernel
theorem dX5_number_52 : decode cX5_number 52 = .ok (.iconst 1, 1) := by decide +kernel
theorem dX5_number_53 : decode cX5_number 53 = .ok (.iadd, 1) := by decide +kernel
theorem dX5_number_54 : decode cX5_number 54 = .ok (.putfield 144, 3) := by decide +kernel
theorem dX5_number_57 : decode cX5_number 57 = .ok (.iload_n 1, 1) := by decide +kernel
theorem dX5_number_58 : decode cX5_number 58 = .ok (.ifCond .le 40, 3) := by decide +kernel
theorem dX5_number_61 : decode cX5_number 61 = .ok (.aload_n 0, 1) := by decide +kernel
theorem dX5_number_62 : decode cX5_number 62 = .ok (.invokevirtual 147, 3) := by decide +kernel
theorem dX5_number_65 : decode cX5_number 65 = .ok (.bipush 48, 2) := by decide +kernel
theorem dX5_number_67 : decode cX5_number 67 = .ok (.bipush 57, 2) := by decide +kernel
theorem dX5_number_69 : decode cX5_number 69 = .ok (.invokestatic 34, 3) := by decide +kernel
theorem dX5_number_72 : decode cX5_number 72 = .ok (.ifCond .eq 26, 3) := by decide +kernel
theorem dX5_number_75 : decode cX5_number 75 = .ok (.bipush 10, 2) := by decide +kernel
theorem dX5_number_77 : decode cX5_number 77 = .ok (.iload_n 1, 1) := by decide +kernel
theorem dX5_number_78 : decode cX5_number 78 = .ok (.imul, 1) := by decide +kernel
theorem dX5_number_79 : decode cX5_number 79 = .ok (.aload_n 0, 1) := by decide +kernel
theorem dX5_number_80 : decode cX5_number 80 = .ok (.invokevirtual 147, 3) := by decide +kernel
theorem dX5_number_83 : decode cX5_number 83 = .ok (.iadd, 1) := by decide +kernel
theorem dX5_number_84 : decode cX5_number 84 = .ok (.bipush 48, 2) := by decide +kernel
theorem dX5_number_86 : decode cX5_number 86 = .ok (.isub, 1) := by decide +kernel
theorem dX5_number_87 : decode cX5_number 87 = .ok (.istore_n 1, 1) := by decide +kernel
theorem dX5_number_88 : decode cX5_number 88 = .ok (.aload_n 0, 1) := by decide +kernel
theorem dX5_number_89 : decode cX5_number 89 = .ok (.dup, 1) := by decide +kernel
theorem dX5_number_90 : decode cX5_number 90 = .ok (.getfield 144, 3) := by decide +kernel
theorem dX5_number_93 : decode cX5_number 93 = .ok (.iconst 1, 1) := by decide +kernel
theorem dX5_number_94 : decode cX5_number 94 = .ok (.iadd, 1) := by decide +kernel
theorem dX5_number_95 : decode cX5_number 95 = .ok (.putfield 144, 3) := by decide +kernel
theorem dX5_number_98 : decode cX5_number 98 = .ok (.iload_n 1, 1) := by decide +kernel
theorem dX5_number_99 : decode cX5_number 99 = .ok (.ireturn, 1) := by decide +kernel
theorem dX5_script_0 : decode cX5_script 0 = .ok (.aload_n 0, 1) := by decide +kernel
theorem dX5_script_1 : decode cX5_script 1 = .ok (.iconst 0, 1) := by decide +kernel
theorem dX5_script_2 : decode cX5_script 2 = .ok (.putfield 144, 3) := by decide +kernel
theorem dX5_script_5 : decode cX5_script 5 = .ok (.aload_n 0, 1) := by decide +kernel
theorem dX5_script_6 : decode cX5_script 6 = .ok (.iconst 0, 1) := by decide +kernel
theorem dX5_script_7 : decode cX5_script 7 = .ok (.putfield 153, 3) := by decide +kernel
theorem dX5_script_10 : decode cX5_script 10 = .ok (.iconst 0, 1) := by decide +kernel
theorem dX5_script_11 : decode cX5_script 11 = .ok (.istore_n 2, 1) := by decide +kernel
theorem dX5_script_12 : decode cX5_script 12 = .ok (.aload_n 0, 1) := by decide +kernel
theorem dX5_script_13 : decode cX5_script 13 = .ok (.invokevirtual 150, 3) := by decide +kernel
theorem dX5_script_16 : decode cX5_script 16 = .ok (.aload_n 0, 1) := by decide +kernel
theorem dX5_script_17 : decode cX5_script 17 = .ok (.aload_n 0, 1) := by decide +kernel
theorem dX5_script_18 : decode cX5_script 18 = .ok (.getfield 144, 3) := by decide +kernel
theorem dX5_script_21 : decode cX5_script 21 = .ok (.aload_n 0, 1) := by decide +kernel
theorem dX5_script_22 : decode cX5_script 22 = .ok (.getfield 141, 3) := by decide +kernel
theorem dX5_script_25 : decode cX5_script 25 = .ok (.if_icmp .ne 7, 3) := by decide +kernel
theorem dX5_script_28 : decode cX5_script 28 = .ok (.iconst 1, 1) := by decide +kernel
theorem dX5_script_29 : decode cX5_script 29 = .ok (.goto 4, 3) := by decide +kernel
theorem dX5_script_32 : decode cX5_script 32 = .ok (.iconst 0, 1) := by decide +kernel
theorem dX5_script_33 : decode cX5_script 33 = .ok (.putfield 153, 3) := by decide +kernel
theorem dX5_script_36 : decode cX5_script 36 = .ok (.aload_n 0, 1) := by decide +kernel
theorem dX5_script_37 : decode cX5_script 37 = .ok (.getfield 153, 3) := by decide +kernel
theorem dX5_script_40 : decode cX5_script 40 = .ok (.ifCond .ne 225, 3) := by decide +kernel
theorem dX5_script_43 : decode cX5_script 43 = .ok (.aload_n 0, 1) := by decide +kernel
theorem dX5_script_44 : decode cX5_script 44 = .ok (.getfield 144, 3) := by decide +kernel
theorem dX5_script_47 : decode cX5_script 47 = .ok (.aload_n 0, 1) := by decide +kernel
theorem dX5_script_48 : decode cX5_script 48 = .ok (.getfield 141, 3) := by decide +kernel
theorem dX5_script_51 : decode cX5_script 51 = .ok (.if_icmp .ge 214, 3) := by decide +kernel
theorem dX5_script_54 : decode cX5_script 54 = .ok (.aload_n 0, 1) := by decide +kernel
theorem dX5_script_55 : decode cX5_script 55 = .ok (.invokevirtual 147, 3) := by decide +kernel
theorem dX5_script_58 : decode cX5_script 58 = .ok (.istore_n 3, 1) := by decide +kernel
theorem dX5_script_59 : decode cX5_script 59 = .ok (.iload_n 3, 1) := by decide +kernel
theorem dX5_script_60 : decode cX5_script 60 = .ok (.bipush 115, 2) := by decide +kernel
theorem dX5_script_62 : decode cX5_script 62 = .ok (.if_icmp .ne 7, 3) := by decide +kernel
theorem dX5_script_65 : decode cX5_script 65 = .ok (.iconst 0, 1) := by decide +kernel
theorem dX5_script_66 : decode cX5_script 66 = .ok (.goto 25, 3) := by decide +kernel
theorem dX5_script_69 : decode cX5_script 69 = .ok (.iload_n 3, 1) := by decide +kernel
theorem dX5_script_70 : decode cX5_script 70 = .ok (.bipush 101, 2) := by decide +kernel
theorem dX5_script_72 : decode cX5_script 72 = .ok (.if_icmp .ne 7, 3) := by decide +kernel
theorem dX5_script_75 : decode cX5_script 75 = .ok (.iconst 1, 1) := by decide +kernel
theorem dX5_script_76 : decode cX5_script 76 = .ok (.goto 15, 3) := by decide +kernel
theorem dX5_script_79 : decode cX5_script 79 = .ok (.iload_n 3, 1) := by decide +kernel
theorem dX5_script_80 : decode cX5_script 80 = .ok (.bipush 104, 2) := by decide +kernel
theorem dX5_script_82 : decode cX5_script 82 = .ok (.if_icmp .ne 7, 3) := by decide +kernel
theorem dX5_script_85 : decode cX5_script 85 = .ok (.iconst 2, 1) := by decide +kernel
theorem dX5_script_86 : decode cX5_script 86 = .ok (.goto 5, 3) := by decide +kernel
theorem dX5_script_89 : decode cX5_script 89 = .ok (.bipush (-9), 2) := by decide +kernel
theorem dX5_script_91 : decode cX5_script 91 = .ok (.istore 4, 2) := by decide +kernel
theorem dX5_script_93 : decode cX5_script 93 = .ok (.aload_n 0, 1) := by decide +kernel
theorem dX5_script_94 : decode cX5_script 94 = .ok (.iload 4, 2) := by decide +kernel
theorem dX5_script_96 : decode cX5_script 96 = .ok (.bipush (-9), 2) := by decide +kernel
theorem dX5_script_98 : decode cX5_script 98 = .ok (.if_icmp .ne 7, 3) := by decide +kernel
theorem dX5_script_101 : decode cX5_script 101 = .ok (.iconst 1, 1) := by decide +kernel
theorem dX5_script_102 : decode cX5_script 102 = .ok (.goto 4, 3) := by decide +kernel
theorem dX5_script_105 : decode cX5_script 105 = .ok (.iconst 0, 1) := by decide +kernel
theorem dX5_script_106 : decode cX5_script 106 = .ok (.putfield 153, 3) := by decide +kernel
theorem dX5_script_109 : decode cX5_script 109 = .ok (.aload_n 0, 1) := by decide +kernel
theorem dX5_script_110 : decode cX5_script 110 = .ok (.getfield 153, 3) := by decide +kernel
theorem dX5_script_113 : decode cX5_script 113 = .ok (.ifCond .ne 149, 3) := by decide +kernel
theorem dX5_script_116 : decode cX5_script 116 = .ok (.aload_n 0, 1) := by decide +kernel
theorem dX5_script_117 : decode cX5_script 117 = .ok (.dup, 1) := by decide +kernel
theorem dX5_script_118 : decode cX5_script 118 = .ok (.getfield 144, 3) := by decide +kernel
theorem dX5_script_121 : decode cX5_script 121 = .ok (.iconst 1, 1) := by decide +kernel
theorem dX5_script_122 : decode cX5_script 122 = .ok (.iadd, 1) := by decide +kernel
theorem dX5_script_123 : decode cX5_script 123 = .ok (.putfield 144, 3) := by decide +kernel
theorem dX5_script_126 : decode cX5_script 126 = .ok (.aload_n 0, 1) := by decide +kernel
theorem dX5_script_127 : decode cX5_script 127 = .ok (.invokevirtual 157, 3) := by decide +kernel
theorem dX5_script_130 : decode cX5_script 130 = .ok (.istore 5, 2) := by decide +kernel
theorem dX5_script_132 : decode cX5_script 132 = .ok (.iconst 0, 1) := by decide +kernel
theorem dX5_script_133 : decode cX5_script 133 = .ok (.istore 6, 2) := by decide +kernel
theorem dX5_script_135 : decode cX5_script 135 = .ok (.iload 4, 2) := by decide +kernel
theorem dX5_script_137 : decode cX5_script 137 = .ok (.iconst 2, 1) := by decide +kernel
theorem dX5_script_138 : decode cX5_script 138 = .ok (.if_icmp .ne 26, 3) := by decide +kernel
theorem dX5_script_141 : decode cX5_script 141 = .ok (.aload_n 0, 1) := by decide +kernel
theorem dX5_script_142 : decode cX5_script 142 = .ok (.bipush 44, 2) := by decide +kernel
theorem dX5_script_144 : decode cX5_script 144 = .ok (.invokevirtual 160, 3) := by decide +kernel
theorem dX5_script_147 : decode cX5_script 147 = .ok (.aload_n 0, 1) := by decide +kernel
theorem dX5_script_148 : decode cX5_script 148 = .ok (.getfield 153, 3) := by decide +kernel
theorem dX5_script_151 : decode cX5_script 151 = .ok (.ifCond .eq 7, 3) := by decide +kernel
theorem dX5_script_154 : decode cX5_script 154 = .ok (.iconst 0, 1) := by decide +kernel
theorem dX5_script_155 : decode cX5_script 155 = .ok (.goto 7, 3) := by decide +kernel
theorem dX5_script_158 : decode cX5_script 158 = .ok (.aload_n 0, 1) := by decide +kernel
theorem dX5_script_159 : decode cX5_script 159 = .ok (.invokevirtual 157, 3) := by decide +kernel
theorem dX5_script_162 : decode cX5_script 162 = .ok (.istore 6, 2) := by decide +kernel
theorem dX5_script_164 : decode cX5_script 164 = .ok (.aload_n 0, 1) := by decide +kernel
theorem dX5_script_165 : decode cX5_script 165 = .ok (.bipush 59, 2) := by decide +kernel
theorem dX5_script_167 : decode cX5_script 167 = .ok (.invokevirtual 160, 3) := by decide +kernel
theorem dX5_script_170 : decode cX5_script 170 = .ok (.aload_n 0, 1) := by decide +kernel
theorem dX5_script_171 : decode cX5_script 171 = .ok (.invokevirtual 150, 3) := by decide +kernel
theorem dX5_script_174 : decode cX5_script 174 = .ok (.iload_n 1, 1) := by decide +kernel
theorem dX5_script_175 : decode cX5_script 175 = .ok (.ifCond .eq 20, 3) := by decide +kernel
theorem dX5_script_178 : decode cX5_script 178 = .ok (.aload_n 0, 1) := by decide +kernel
theorem dX5_script_179 : decode cX5_script 179 = .ok (.iload 4, 2) := by decide +kernel
theorem dX5_script_181 : decode cX5_script 181 = .ok (.iload 5, 2) := by decide +kernel
theorem dX5_script_183 : decode cX5_script 183 = .ok (.iload 6, 2) := by decide +kernel
theorem dX5_script_185 : decode cX5_script 185 = .ok (.invokevirtual 125, 3) := by decide +kernel
theorem dX5_script_188 : decode cX5_script 188 = .ok (.ifCond .ne 7, 3) := by decide +kernel
theorem dX5_script_191 : decode cX5_script 191 = .ok (.iconst 1, 1) := by decide +kernel
theorem dX5_script_192 : decode cX5_script 192 = .ok (.goto 4, 3) := by decide +kernel
theorem dX5_script_195 : decode cX5_script 195 = .ok (.iconst 0, 1) := by decide +kernel
theorem dX5_script_196 : decode cX5_script 196 = .ok (.istore 7, 2) := by decide +kernel
theorem dX5_script_198 : decode cX5_script 198 = .ok (.iload 7, 2) := by decide +kernel
theorem dX5_script_200 : decode cX5_script 200 = .ok (.ifCond .eq 62, 3) := by decide +kernel
theorem dX5_script_203 : decode cX5_script 203 = .ok (.iload 4, 2) := by decide +kernel
theorem dX5_script_205 : decode cX5_script 205 = .ok (.ifCond .ne 12, 3) := by decide +kernel
theorem dX5_script_208 : decode cX5_script 208 = .ok (.aload_n 0, 1) := by decide +kernel
theorem dX5_script_209 : decode cX5_script 209 = .ok (.iload 5, 2) := by decide +kernel
theorem dX5_script_211 : decode cX5_script 211 = .ok (.invokevirtual 110, 3) := by decide +kernel
theorem dX5_script_214 : decode cX5_script 214 = .ok (.goto 26, 3) := by decide +kernel
theorem dX5_script_217 : decode cX5_script 217 = .ok (.iload 4, 2) := by decide +kernel
theorem dX5_script_219 : decode cX5_script 219 = .ok (.iconst 1, 1) := by decide +kernel
theorem dX5_script_220 : decode cX5_script 220 = .ok (.if_icmp .ne 12, 3) := by decide +kernel
theorem dX5_script_223 : decode cX5_script 223 = .ok (.aload_n 0, 1) := by decide +kernel
theorem dX5_script_224 : decode cX5_script 224 = .ok (.iload 5, 2) := by decide +kernel
theorem dX5_script_226 : decode cX5_script 226 = .ok (.invokevirtual 113, 3) := by decide +kernel
theorem dX5_script_229 : decode cX5_script 229 = .ok (.goto 11, 3) := by decide +kernel
theorem dX5_script_232 : decode cX5_script 232 = .ok (.aload_n 0, 1) := by decide +kernel
theorem dX5_script_233 : decode cX5_script 233 = .ok (.iload 5, 2) := by decide +kernel
theorem dX5_script_235 : decode cX5_script 235 = .ok (.iload 6, 2) := by decide +kernel
theorem dX5_script_237 : decode cX5_script 237 = .ok (.invokevirtual 116, 3) := by decide +kernel
theorem dX5_script_240 : decode cX5_script 240 = .ok (.istore 8, 2) := by decide +kernel
theorem dX5_script_242 : decode cX5_script 242 = .ok (.iload_n 2, 1) := by decide +kernel
theorem dX5_script_243 : decode cX5_script 243 = .ok (.iload 8, 2) := by decide +kernel
theorem dX5_script_245 : decode cX5_script 245 = .ok (.ifCond .ge 10, 3) := by decide +kernel
theorem dX5_script_248 : decode cX5_script 248 = .ok (.iload 8, 2) := by decide +kernel
theorem dX5_script_250 : decode cX5_script 250 = .ok (.bipush (-9), 2) := by decide +kernel
theorem dX5_script_252 : decode cX5_script 252 = .ok (.if_icmp .ne 7, 3) := by decide +kernel
theorem dX5_script_255 : decode cX5_script 255 = .ok (.iconst 1, 1) := by decide +kernel
theorem dX5_script_256 : decode cX5_script 256 = .ok (.goto 4, 3) := by decide +kernel
theorem dX5_script_259 : decode cX5_script 259 = .ok (.iconst 0, 1) := by decide +kernel
theorem dX5_script_260 : decode cX5_script 260 = .ok (.iadd, 1) := by decide +kernel
theorem dX5_script_261 : decode cX5_script 261 = .ok (.istore_n 2, 1) := by decide +kernel
theorem dX5_script_262 : decode cX5_script 262 = .ok (.goto (-226), 3) := by decide +kernel
theorem dX5_script_265 : decode cX5_script 265 = .ok (.iload_n 2, 1) := by decide +kernel
theorem dX5_script_266 : decode cX5_script 266 = .ok (.ireturn, 1) := by decide +kernel
theorem dX5_runScript_0 : decode cX5_runScript 0 = .ok (.aload_n 0, 1) := by decide +kernel
theorem dX5_runScript_1 : decode cX5_runScript 1 = .ok (.iconst 0, 1) := by decide +kernel
theorem dX5_runScript_2 : decode cX5_runScript 2 = .ok (.invokevirtual 163, 3) := by decide +kernel
theorem dX5_runScript_5 : decode cX5_runScript 5 = .ok (.istore_n 1, 1) := by decide +kernel
theorem dX5_runScript_6 : decode cX5_runScript 6 = .ok (.aload_n 0, 1) := by decide +kernel
theorem dX5_runScript_7 : decode cX5_runScript 7 = .ok (.getfield 153, 3) := by decide +kernel
theorem dX5_runScript_10 : decode cX5_runScript 10 = .ok (.ifCond .eq 11, 3) := by decide +kernel
theorem dX5_runScript_13 : decode cX5_runScript 13 = .ok (.bipush (-10), 2) := by decide +kernel
theorem dX5_runScript_15 : decode cX5_runScript 15 = .ok (.aload_n 0, 1) := by decide +kernel
theorem dX5_runScript_16 : decode cX5_runScript 16 = .ok (.getfield 144, 3) := by decide +kernel
theorem dX5_runScript_19 : decode cX5_runScript 19 = .ok (.isub, 1) := by decide +kernel
theorem dX5_runScript_20 : decode cX5_runScript 20 = .ok (.ireturn, 1) := by decide +kernel
theorem dX5_runScript_21 : decode cX5_runScript 21 = .ok (.aload_n 0, 1) := by decide +kernel
theorem dX5_runScript_22 : decode cX5_runScript 22 = .ok (.invokevirtual 107, 3) := by decide +kernel
theorem dX5_runScript_25 : decode cX5_runScript 25 = .ok (.aload_n 0, 1) := by decide +kernel
theorem dX5_runScript_26 : decode cX5_runScript 26 = .ok (.iconst 1, 1) := by decide +kernel
theorem dX5_runScript_27 : decode cX5_runScript 27 = .ok (.invokevirtual 163, 3) := by decide +kernel
theorem dX5_runScript_30 : decode cX5_runScript 30 = .ok (.istore_n 1, 1) := by decide +kernel
theorem dX5_runScript_31 : decode cX5_runScript 31 = .ok (.aload_n 0, 1) := by decide +kernel
theorem dX5_runScript_32 : decode cX5_runScript 32 = .ok (.iconst 0, 1) := by decide +kernel
theorem dX5_runScript_33 : decode cX5_runScript 33 = .ok (.putfield 141, 3) := by decide +kernel
theorem dX5_runScript_36 : decode cX5_runScript 36 = .ok (.iload_n 1, 1) := by decide +kernel
theorem dX5_runScript_37 : decode cX5_runScript 37 = .ok (.ireturn, 1) := by decide +kernel
theorem dJ6_bitCount_0f7a4_0 : decode cJ6_bitCount_0f7a4 0 = .ok (.iload_n 0, 1) := by decide +kernel
theorem dJ6_bitCount_0f7a4_1 : decode cJ6_bitCount_0f7a4 1 = .ok (.iload_n 0, 1) := by decide +kernel
theorem dJ6_bitCount_0f7a4_2 : decode cJ6_bitCount_0f7a4 2 = .ok (.iconst 1, 1) := by decide +kernel
theorem dJ6_bitCount_0f7a4_3 : decode cJ6_bitCount_0f7a4 3 = .ok (.iushr, 1) := by decide +kernel
theorem dJ6_bitCount_0f7a4_4 : decode cJ6_bitCount_0f7a4 4 = .ok (.ldc_w 265, 3) := by decide +kernel
theorem dJ6_bitCount_0f7a4_7 : decode cJ6_bitCount_0f7a4 7 = .ok (.iand, 1) := by decide +kernel
theorem dJ6_bitCount_0f7a4_8 : decode cJ6_bitCount_0f7a4 8 = .ok (.isub, 1) := by decide +kernel
theorem dJ6_bitCount_0f7a4_9 : decode cJ6_bitCount_0f7a4 9 = .ok (.istore_n 0, 1) := by decide +kernel
theorem dJ6_bitCount_0f7a4_10 : decode cJ6_bitCount_0f7a4 10 = .ok (.iload_n 0, 1) := by decide +kernel
theorem dJ6_bitCount_0f7a4_11 : decode cJ6_bitCount_0f7a4 11 = .ok (.ldc_w 266, 3) := by decide +kernel
theorem dJ6_bitCount_0f7a4_14 : decode cJ6_bitCount_0f7a4 14 = .ok (.iand, 1) := by decide +kernel
theorem dJ6_bitCount_0f7a4_15 : decode cJ6_bitCount_0f7a4 15 = .ok (.iload_n 0, 1) := by decide +kernel
theorem dJ6_bitCount_0f7a4_16 : decode cJ6_bitCount_0f7a4 16 = .ok (.iconst 2, 1) := by decide +kernel
theorem dJ6_bitCount_0f7a4_17 : decode cJ6_bitCount_0f7a4 17 = .ok (.iushr, 1) := by decide +kernel
theorem dJ6_bitCount_0f7a4_18 : decode cJ6_bitCount_0f7a4 18 = .ok (.ldc_w 266, 3) := by decide +kernel
theorem dJ6_bitCount_0f7a4_21 : decode cJ6_bitCount_0f7a4 21 = .ok (.iand, 1) := by decide +kernel
theorem dJ6_bitCount_0f7a4_22 : decode cJ6_bitCount_0f7a4 22 = .ok (.iadd, 1) := by decide +kernel
theorem dJ6_bitCount_0f7a4_23 : decode cJ6_bitCount_0f7a4 23 = .ok (.istore_n 0, 1) := by decide +kernel
theorem dJ6_bitCount_0f7a4_24 : decode cJ6_bitCount_0f7a4 24 = .ok (.iload_n 0, 1) := by decide +kernel
theorem dJ6_bitCount_0f7a4_25 : decode cJ6_bitCount_0f7a4 25 = .ok (.iload_n 0, 1) := by decide +kernel
theorem dJ6_bitCount_0f7a4_26 : decode cJ6_bitCount_0f7a4 26 = .ok (.iconst 4, 1) := by decide +kernel
theorem dJ6_bitCount_0f7a4_27 : decode cJ6_bitCount_0f7a4 27 = .ok (.iushr, 1) := by decide +kernel
theorem dJ6_bitCount_0f7a4_28 : decode cJ6_bitCount_0f7a4 28 = .ok (.iadd, 1) := by decide +kernel
theorem dJ6_bitCount_0f7a4_29 : decode cJ6_bitCount_0f7a4 29 = .ok (.ldc_w 267, 3) := by decide +kernel
theorem dJ6_bitCount_0f7a4_32 : decode cJ6_bitCount_0f7a4 32 = .ok (.iand, 1) := by decide +kernel
theorem dJ6_bitCount_0f7a4_33 : decode cJ6_bitCount_0f7a4 33 = .ok (.istore_n 0, 1) := by decide +kernel
theorem dJ6_bitCount_0f7a4_34 : decode cJ6_bitCount_0f7a4 34 = .ok (.iload_n 0, 1) := by decide +kernel
theorem dJ6_bitCount_0f7a4_35 : decode cJ6_bitCount_0f7a4 35 = .ok (.iload_n 0, 1) := by decide +kernel
theorem dJ6_bitCount_0f7a4_36 : decode cJ6_bitCount_0f7a4 36 = .ok (.bipush 8, 2) := by decide +kernel
theorem dJ6_bitCount_0f7a4_38 : decode cJ6_bitCount_0f7a4 38 = .ok (.iushr, 1) := by decide +kernel
theorem dJ6_bitCount_0f7a4_39 : decode cJ6_bitCount_0f7a4 39 = .ok (.iadd, 1) := by decide +kernel
theorem dJ6_bitCount_0f7a4_40 : decode cJ6_bitCount_0f7a4 40 = .ok (.istore_n 0, 1) := by decide +kernel
theorem dJ6_bitCount_0f7a4_41 : decode cJ6_bitCount_0f7a4 41 = .ok (.iload_n 0, 1) := by decide +kernel
theorem dJ6_bitCount_0f7a4_42 : decode cJ6_bitCount_0f7a4 42 = .ok (.iload_n 0, 1) := by decide +kernel
theorem dJ6_bitCount_0f7a4_43 : decode cJ6_bitCount_0f7a4 43 = .ok (.bipush 16, 2) := by decide +kernel
theorem dJ6_bitCount_0f7a4_45 : decode cJ6_bitCount_0f7a4 45 = .ok (.iushr, 1) := by decide +kernel
theorem dJ6_bitCount_0f7a4_46 : decode cJ6_bitCount_0f7a4 46 = .ok (.iadd, 1) := by decide +kernel
theorem dJ6_bitCount_0f7a4_47 : decode cJ6_bitCount_0f7a4 47 = .ok (.istore_n 0, 1) := by decide +kernel
theorem dJ6_bitCount_0f7a4_48 : decode cJ6_bitCount_0f7a4 48 = .ok (.iload_n 0, 1) := by decide +kernel
theorem dJ6_bitCount_0f7a4_49 : decode cJ6_bitCount_0f7a4 49 = .ok (.bipush 63, 2) := by decide +kernel
theorem dJ6_bitCount_0f7a4_51 : decode cJ6_bitCount_0f7a4 51 = .ok (.iand, 1) := by decide +kernel
theorem dJ6_bitCount_0f7a4_52 : decode cJ6_bitCount_0f7a4 52 = .ok (.ireturn, 1) := by decide +kernel
theorem dJ9_abs_0f7a4_0 : decode cJ9_abs_0f7a4 0 = .ok (.iload_n 0, 1) := by decide +kernel
theorem dJ9_abs_0f7a4_1 : decode cJ9_abs_0f7a4 1 = .ok (.ifCond .ge 8, 3) := by decide +kernel
theorem dJ9_abs_0f7a4_4 : decode cJ9_abs_0f7a4 4 = .ok (.iload_n 0, 1) := by decide +kernel
theorem dJ9_abs_0f7a4_5 : decode cJ9_abs_0f7a4 5 = .ok (.ineg, 1) := by decide +kernel
theorem dJ9_abs_0f7a4_6 : decode cJ9_abs_0f7a4 6 = .ok (.goto 4, 3) := by decide +kernel
theorem dJ9_abs_0f7a4_9 : decode cJ9_abs_0f7a4 9 = .ok (.iload_n 0, 1) := by decide +kernel
theorem dJ9_abs_0f7a4_10 : decode cJ9_abs_0f7a4 10 = .ok (.ireturn, 1) := by decide +kernel
theorem dJ9_max_7cf53_0 : decode cJ9_max_7cf53 0 = .ok (.iload_n 0, 1) := by decide +kernel
theorem dJ9_max_7cf53_1 : decode cJ9_max_7cf53 1 = .ok (.iload_n 1, 1) := by decide +kernel
theorem dJ9_max_7cf53_2 : decode cJ9_max_7cf53 2 = .ok (.if_icmp .lt 7, 3) := by decide +kernel
theorem dJ9_max_7cf53_5 : decode cJ9_max_7cf53 5 = .ok (.iload_n 0, 1) := by decide +kernel
theorem dJ9_max_7cf53_6 : decode cJ9_max_7cf53 6 = .ok (.goto 4, 3) := by decide +kernel
theorem dJ9_max_7cf53_9 : decode cJ9_max_7cf53 9 = .ok (.iload_n 1, 1) := by decide +kernel
theorem dJ9_max_7cf53_10 : decode cJ9_max_7cf53 10 = .ok (.ireturn, 1) := by decide +kernel
theorem dJ9_min_7cf53_0 : decode cJ9_min_7cf53 0 = .ok (.iload_n 0, 1) := by decide +kernel
theorem dJ9_min_7cf53_1 : decode cJ9_min_7cf53 1 = .ok (.iload_n 1, 1) := by decide +kernel
theorem dJ9_min_7cf53_2 : decode cJ9_min_7cf53 2 = .ok (.if_icmp .gt 7, 3) := by decide +kernel
theorem dJ9_min_7cf53_5 : decode cJ9_min_7cf53 5 = .ok (.iload_n 0, 1) := by decide +kernel
theorem dJ9_min_7cf53_6 : decode cJ9_min_7cf53 6 = .ok (.goto 4, 3) := by decide +kernel
theorem dJ9_min_7cf53_9 : decode cJ9_min_7cf53 9 = .ok (.iload_n 1, 1) := by decide +kernel
theorem dJ9_min_7cf53_10 : decode cJ9_min_7cf53 10 = .ok (.ireturn, 1) := by decide +kernel
theorem dJ7_fill_53178_0 : decode cJ7_fill_53178 0 = .ok (.iconst 0, 1) := by decide +kernel
theorem dJ7_fill_53178_1 : decode cJ7_fill_53178 1 = .ok (.istore_n 2, 1) := by decide +kernel
theorem dJ7_fill_53178_2 : decode cJ7_fill_53178 2 = .ok (.aload_n 0, 1) := by decide +kernel
theorem dJ7_fill_53178_3 : decode cJ7_fill_53178 3 = .ok (.arraylength, 1) := by decide +kernel
theorem dJ7_fill_53178_4 : decode cJ7_fill_53178 4 = .ok (.istore_n 3, 1) := by decide +kernel
theorem dJ7_fill_53178_5 : decode cJ7_fill_53178 5 = .ok (.iload_n 2, 1) := by decide +kernel
theorem dJ7_fill_53178_6 : decode cJ7_fill_53178 6 = .ok (.iload_n 3, 1) := by decide +kernel
theorem dJ7_fill_53178_7 : decode cJ7_fill_53178 7 = .ok (.if_icmp .ge 13, 3) := by decide +kernel
theorem dJ7_fill_53178_10 : decode cJ7_fill_53178 10 = .ok (.aload_n 0, 1) := by decide +kernel
theorem dJ7_fill_53178_11 : decode cJ7_fill_53178 11 = .ok (.iload_n 2, 1) := by decide +kernel
theorem dJ7_fill_53178_12 : decode cJ7_fill_53178 12 = .ok (.iload_n 1, 1) := by decide +kernel
theorem dJ7_fill_53178_13 : decode cJ7_fill_53178 13 = .ok (.iastore, 1) := by decide +kernel
theorem dJ7_fill_53178_14 : decode cJ7_fill_53178 14 = .ok (.iinc 2 1, 3) := by decide +kernel
theorem dJ7_fill_53178_17 : decode cJ7_fill_53178 17 = .ok (.goto (-12), 3) := by decide +kernel
theorem dJ7_fill_53178_20 : decode cJ7_fill_53178 20 = .ok (.return_, 1) := by decide +kernel
theorem dL_law_0 : decode cL_law 0 = .ok (.new 7, 3) := by decide +kernel
theorem dL_law_3 : decode cL_law 3 = .ok (.dup, 1) := by decide +kernel
theorem dL_law_4 : decode cL_law 4 = .ok (.invokespecial 9, 3) := by decide +kernel
theorem dL_law_7 : decode cL_law 7 = .ok (.astore_n 1, 1) := by decide +kernel
theorem dL_law_8 : decode cL_law 8 = .ok (.new 10, 3) := by decide +kernel
theorem dL_law_11 : decode cL_law 11 = .ok (.dup, 1) := by decide +kernel
theorem dL_law_12 : decode cL_law 12 = .ok (.invokespecial 12, 3) := by decide +kernel
theorem dL_law_15 : decode cL_law 15 = .ok (.astore_n 2, 1) := by decide +kernel
theorem dL_law_16 : decode cL_law 16 = .ok (.iconst 0, 1) := by decide +kernel
theorem dL_law_17 : decode cL_law 17 = .ok (.istore_n 3, 1) := by decide +kernel
theorem dL_law_18 : decode cL_law 18 = .ok (.iload_n 3, 1) := by decide +kernel
theorem dL_law_19 : decode cL_law 19 = .ok (.aload_n 0, 1) := by decide +kernel
theorem dL_law_20 : decode cL_law 20 = .ok (.arraylength, 1) := by decide +kernel
theorem dL_law_21 : decode cL_law 21 = .ok (.iconst 5, 1) := by decide +kernel
theorem dL_law_22 : decode cL_law 22 = .ok (.isub, 1) := by decide +kernel
theorem dL_law_23 : decode cL_law 23 = .ok (.if_icmp .gt 997, 3) := by decide +kernel
theorem dL_law_26 : decode cL_law 26 = .ok (.aload_n 0, 1) := by decide +kernel
theorem dL_law_27 : decode cL_law 27 = .ok (.iload_n 3, 1) := by decide +kernel
theorem dL_law_28 : decode cL_law 28 = .ok (.iaload, 1) := by decide +kernel
theorem dL_law_29 : decode cL_law 29 = .ok (.bipush 63, 2) := by decide +kernel
theorem dL_law_31 : decode cL_law 31 = .ok (.iand, 1) := by decide +kernel
theorem dL_law_32 : decode cL_law 32 = .ok (.tableswitch 982 0 37 #[168, 221, 244, 267, 290, 303, 316, 339, 372, 395, 418, 451, 474, 497, 520, 543, 576, 609, 642, 665, 688, 711, 734, 757, 770, 783, 796, 809, 822, 835, 848, 861, 874, 897, 910, 923, 936, 959], 168) := by decide +kernel
theorem dL_law_200 : decode cL_law 200 = .ok (.aload_n 1, 1) := by decide +kernel
theorem dL_law_201 : decode cL_law 201 = .ok (.aload_n 0, 1) := by decide +kernel
theorem dL_law_202 : decode cL_law 202 = .ok (.iload_n 3, 1) := by decide +kernel
theorem dL_law_203 : decode cL_law 203 = .ok (.iconst 1, 1) := by decide +kernel
theorem dL_law_204 : decode cL_law 204 = .ok (.iadd, 1) := by decide +kernel
theorem dL_law_205 : decode cL_law 205 = .ok (.iaload, 1) := by decide +kernel
theorem dL_law_206 : decode cL_law 206 = .ok (.aload_n 0, 1) := by decide +kernel
theorem dL_law_207 : decode cL_law 207 = .ok (.iload_n 3, 1) := by decide +kernel
theorem dL_law_208 : decode cL_law 208 = .ok (.iconst 2, 1) := by decide +kernel
theorem dL_law_209 : decode cL_law 209 = .ok (.iadd, 1) := by decide +kernel
theorem dL_law_210 : decode cL_law 210 = .ok (.iaload, 1) := by decide +kernel
theorem dL_law_211 : decode cL_law 211 = .ok (.aload_n 0, 1) := by decide +kernel
theorem dL_law_212 : decode cL_law 212 = .ok (.iload_n 3, 1) := by decide +kernel
theorem dL_law_213 : decode cL_law 213 = .ok (.iconst 3, 1) := by decide +kernel
theorem dL_law_214 : decode cL_law 214 = .ok (.iadd, 1) := by decide +kernel
theorem dL_law_215 : decode cL_law 215 = .ok (.iaload, 1) := by decide +kernel
theorem dL_law_216 : decode cL_law 216 = .ok (.aload_n 0, 1) := by decide +kernel
theorem dL_law_217 : decode cL_law 217 = .ok (.iload_n 3, 1) := by decide +kernel
theorem dL_law_218 : decode cL_law 218 = .ok (.iconst 4, 1) := by decide +kernel
theorem dL_law_219 : decode cL_law 219 = .ok (.iadd, 1) := by decide +kernel
theorem dL_law_220 : decode cL_law 220 = .ok (.iaload, 1) := by decide +kernel
theorem dL_law_221 : decode cL_law 221 = .ok (.invokevirtual 13, 3) := by decide +kernel
theorem dL_law_224 : decode cL_law 224 = .ok (.aload_n 2, 1) := by decide +kernel
theorem dL_law_225 : decode cL_law 225 = .ok (.aload_n 0, 1) := by decide +kernel
theorem dL_law_226 : decode cL_law 226 = .ok (.iload_n 3, 1) := by decide +kernel
theorem dL_law_227 : decode cL_law 227 = .ok (.iconst 1, 1) := by decide +kernel
theorem dL_law_228 : decode cL_law 228 = .ok (.iadd, 1) := by decide +kernel
theorem dL_law_229 : decode cL_law 229 = .ok (.iaload, 1) := by decide +kernel
theorem dL_law_230 : decode cL_law 230 = .ok (.aload_n 0, 1) := by decide +kernel
theorem dL_law_231 : decode cL_law 231 = .ok (.iload_n 3, 1) := by decide +kernel
theorem dL_law_232 : decode cL_law 232 = .ok (.iconst 2, 1) := by decide +kernel
theorem dL_law_233 : decode cL_law 233 = .ok (.iadd, 1) := by decide +kernel
theorem dL_law_234 : decode cL_law 234 = .ok (.iaload, 1) := by decide +kernel
theorem dL_law_235 : decode cL_law 235 = .ok (.aload_n 0, 1) := by decide +kernel
theorem dL_law_236 : decode cL_law 236 = .ok (.iload_n 3, 1) := by decide +kernel
theorem dL_law_237 : decode cL_law 237 = .ok (.iconst 3, 1) := by decide +kernel
theorem dL_law_238 : decode cL_law 238 = .ok (.iadd, 1) := by decide +kernel
theorem dL_law_239 : decode cL_law 239 = .ok (.iaload, 1) := by decide +kernel
theorem dL_law_240 : decode cL_law 240 = .ok (.aload_n 0, 1) := by decide +kernel
theorem dL_law_241 : decode cL_law 241 = .ok (.iload_n 3, 1) := by decide +kernel
theorem dL_law_242 : decode cL_law 242 = .ok (.iconst 4, 1) := by decide +kernel
theorem dL_law_243 : decode cL_law 243 = .ok (.iadd, 1) := by decide +kernel
theorem dL_law_244 : decode cL_law 244 = .ok (.iaload, 1) := by decide +kernel
theorem dL_law_245 : decode cL_law 245 = .ok (.invokevirtual 17, 3) := by decide +kernel
theorem dL_law_248 : decode cL_law 248 = .ok (.if_icmp .eq 766, 3) := by decide +kernel
theorem dL_law_251 : decode cL_law 251 = .ok (.iconst 0, 1) := by decide +kernel
theorem dL_law_252 : decode cL_law 252 = .ok (.ireturn, 1) := by decide +kernel
theorem dL_law_253 : decode cL_law 253 = .ok (.aload_n 1, 1) := by decide +kernel
theorem dL_law_254 : decode cL_law 254 = .ok (.aload_n 0, 1) := by decide +kernel
theorem dL_law_255 : decode cL_law 255 = .ok (.iload_n 3, 1) := by decide +kernel
theorem dL_law_256 : decode cL_law 256 = .ok (.iconst 1, 1) := by decide +kernel
theorem dL_law_257 : decode cL_law 257 = .ok (.iadd, 1) := by decide +kernel
theorem dL_law_258 : decode cL_law 258 = .ok (.iaload, 1) := by decide +kernel
theorem dL_law_259 : decode cL_law 259 = .ok (.invokevirtual 18, 3) := by decide +kernel
theorem dL_law_262 : decode cL_law 262 = .ok (.aload_n 2, 1) := by decide +kernel
theorem dL_law_263 : decode cL_law 263 = .ok (.aload_n 0, 1) := by decide +kernel
theorem dL_law_264 : decode cL_law 264 = .ok (.iload_n 3, 1) := by decide +kernel
theorem dL_law_265 : decode cL_law 265 = .ok (.iconst 1, 1) := by decide +kernel
theorem dL_law_266 : decode cL_law 266 = .ok (.iadd, 1) := by decide +kernel
theorem dL_law_267 : decode cL_law 267 = .ok (.iaload, 1) := by decide +kernel
theorem dL_law_268 : decode cL_law 268 = .ok (.invokevirtual 22, 3) := by decide +kernel
theorem dL_law_271 : decode cL_law 271 = .ok (.if_icmp .eq 743, 3) := by decide +kernel
theorem dL_law_274 : decode cL_law 274 = .ok (.iconst 0, 1) := by decide +kernel
theorem dL_law_275 : decode cL_law 275 = .ok (.ireturn, 1) := by decide +kernel
theorem dL_law_276 : decode cL_law 276 = .ok (.aload_n 1, 1) := by decide +kernel
theorem dL_law_277 : decode cL_law 277 = .ok (.aload_n 0, 1) := by decide +kernel
theorem dL_law_278 : decode cL_law 278 = .ok (.iload_n 3, 1) := by decide +kernel
theorem dL_law_279 : decode cL_law 279 = .ok (.iconst 1, 1) := by decide +kernel
theorem dL_law_280 : decode cL_law 280 = .ok (.iadd, 1) := by decide +kernel
theorem dL_law_281 : decode cL_law 281 = .ok (.iaload, 1) := by decide +kernel
theorem dL_law_282 : decode cL_law 282 = .ok (.invokevirtual 23, 3) := by decide +kernel
theorem dL_law_285 : decode cL_law 285 = .ok (.aload_n 2, 1) := by decide +kernel
theorem dL_law_286 : decode cL_law 286 = .ok (.aload_n 0, 1) := by decide +kernel
theorem dL_law_287 : decode cL_law 287 = .ok (.iload_n 3, 1) := by decide +kernel
theorem dL_law_288 : decode cL_law 288 = .ok (.iconst 1, 1) := by decide +kernel
theorem dL_law_289 : decode cL_law 289 = .ok (.iadd, 1) := by decide +kernel
theorem dL_law_290 : decode cL_law 290 = .ok (.iaload, 1) := by decide +kernel
theorem dL_law_291 : decode cL_law 291 = .ok (.invokevirtual 26, 3) := by decide +kernel
theorem dL_law_294 : decode cL_law 294 = .ok (.if_icmp .eq 720, 3) := by decide +kernel
theorem dL_law_297 : decode cL_law 297 = .ok (.iconst 0, 1) := by decide +kernel
theorem dL_law_298 : decode cL_law 298 = .ok (.ireturn, 1) := by decide +kernel
theorem dL_law_299 : decode cL_law 299 = .ok (.aload_n 1, 1) := by decide +kernel
theorem dL_law_300 : decode cL_law 300 = .ok (.aload_n 0, 1) := by decide +kernel
theorem dL_law_301 : decode cL_law 301 = .ok (.iload_n 3, 1) := by decide +kernel
theorem dL_law_302 : decode cL_law 302 = .ok (.iconst 1, 1) := by decide +kernel
theorem dL_law_303 : decode cL_law 303 = .ok (.iadd, 1) := by decide +kernel
theorem dL_law_304 : decode cL_law 304 = .ok (.iaload, 1) := by decide +kernel
theorem dL_law_305 : decode cL_law 305 = .ok (.invokevirtual 27, 3) := by decide +kernel
theorem dL_law_308 : decode cL_law 308 = .ok (.aload_n 2, 1) := by decide +kernel
theorem dL_law_309 : decode cL_law 309 = .ok (.aload_n 0, 1) := by decide +kernel
theorem dL_law_310 : decode cL_law 310 = .ok (.iload_n 3, 1) := by decide +kernel
theorem dL_law_311 : decode cL_law 311 = .ok (.iconst 1, 1) := by decide +kernel
theorem dL_law_312 : decode cL_law 312 = .ok (.iadd, 1) := by decide +kernel
theorem dL_law_313 : decode cL_law 313 = .ok (.iaload, 1) := by decide +kernel
theorem dL_law_314 : decode cL_law 314 = .ok (.invokevirtual 30, 3) := by decide +kernel
theorem dL_law_317 : decode cL_law 317 = .ok (.if_icmp .eq 697, 3) := by decide +kernel
theorem dL_law_320 : decode cL_law 320 = .ok (.iconst 0, 1) := by decide +kernel
theorem dL_law_321 : decode cL_law 321 = .ok (.ireturn, 1) := by decide +kernel
theorem dL_law_322 : decode cL_law 322 = .ok (.aload_n 1, 1) := by decide +kernel
theorem dL_law_323 : decode cL_law 323 = .ok (.invokevirtual 31, 3) := by decide +kernel
theorem dL_law_326 : decode cL_law 326 = .ok (.aload_n 2, 1) := by decide +kernel
theorem dL_law_327 : decode cL_law 327 = .ok (.invokevirtual 35, 3) := by decide +kernel
theorem dL_law_330 : decode cL_law 330 = .ok (.if_icmp .eq 684, 3) := by decide +kernel
theorem dL_law_333 : decode cL_law 333 = .ok (.iconst 0, 1) := by decide +kernel
theorem dL_law_334 : decode cL_law 334 = .ok (.ireturn, 1) := by decide +kernel
theorem dL_law_335 : decode cL_law 335 = .ok (.aload_n 1, 1) := by decide +kernel
theorem dL_law_336 : decode cL_law 336 = .ok (.invokevirtual 36, 3) := by decide +kernel
theorem dL_law_339 : decode cL_law 339 = .ok (.aload_n 2, 1) := by decide +kernel
theorem dL_law_340 : decode cL_law 340 = .ok (.invokevirtual 39, 3) := by decide +kernel
theorem dL_law_343 : decode cL_law 343 = .ok (.if_icmp .eq 671, 3) := by decide +kernel
theorem dL_law_346 : decode cL_law 346 = .ok (.iconst 0, 1) := by decide +kernel
theorem dL_law_347 : decode cL_law 347 = .ok (.ireturn, 1) := by decide +kernel
theorem dL_law_348 : decode cL_law 348 = .ok (.aload_n 1, 1) := by decide +kernel
theorem dL_law_349 : decode cL_law 349 = .ok (.aload_n 0, 1) := by decide +kernel
theorem dL_law_350 : decode cL_law 350 = .ok (.iload_n 3, 1) := by decide +kernel
theorem dL_law_351 : decode cL_law 351 = .ok (.iconst 1, 1) := by decide +kernel
theorem dL_law_352 : decode cL_law 352 = .ok (.iadd, 1) := by decide +kernel
theorem dL_law_353 : decode cL_law 353 = .ok (.iaload, 1) := by decide +kernel
theorem dL_law_354 : decode cL_law 354 = .ok (.invokevirtual 40, 3) := by decide +kernel
theorem dL_law_357 : decode cL_law 357 = .ok (.aload_n 2, 1) := by decide +kernel
theorem dL_law_358 : decode cL_law 358 = .ok (.aload_n 0, 1) := by decide +kernel
theorem dL_law_359 : decode cL_law 359 = .ok (.iload_n 3, 1) := by decide +kernel
theorem dL_law_360 : decode cL_law 360 = .ok (.iconst 1, 1) := by decide +kernel
theorem dL_law_361 : decode cL_law 361 = .ok (.iadd, 1) := by decide +kernel
theorem dL_law_362 : decode cL_law 362 = .ok (.iaload, 1) := by decide +kernel
theorem dL_law_363 : decode cL_law 363 = .ok (.invokevirtual 43, 3) := by decide +kernel
theorem dL_law_366 : decode cL_law 366 = .ok (.if_icmp .eq 648, 3) := by decide +kernel
theorem dL_law_369 : decode cL_law 369 = .ok (.iconst 0, 1) := by decide +kernel
theorem dL_law_370 : decode cL_law 370 = .ok (.ireturn, 1) := by decide +kernel
theorem dL_law_371 : decode cL_law 371 = .ok (.aload_n 1, 1) := by decide +kernel
theorem dL_law_372 : decode cL_law 372 = .ok (.aload_n 0, 1) := by decide +kernel
theorem dL_law_373 : decode cL_law 373 = .ok (.iload_n 3, 1) := by decide +kernel
theorem dL_law_374 : decode cL_law 374 = .ok (.iconst 1, 1) := by decide +kernel
theorem dL_law_375 : decode cL_law 375 = .ok (.iadd, 1) := by decide +kernel
theorem dL_law_376 : decode cL_law 376 = .ok (.iaload, 1) := by decide +kernel
theorem dL_law_377 : decode cL_law 377 = .ok (.aload_n 0, 1) := by decide +kernel
theorem dL_law_378 : decode cL_law 378 = .ok (.iload_n 3, 1) := by decide +kernel
theorem dL_law_379 : decode cL_law 379 = .ok (.iconst 2, 1) := by decide +kernel
theorem dL_law_380 : decode cL_law 380 = .ok (.iadd, 1) := by decide +kernel
theorem dL_law_381 : decode cL_law 381 = .ok (.iaload, 1) := by decide +kernel
theorem dL_law_382 : decode cL_law 382 = .ok (.invokevirtual 44, 3) := by decide +kernel
theorem dL_law_385 : decode cL_law 385 = .ok (.aload_n 2, 1) := by decide +kernel
theorem dL_law_386 : decode cL_law 386 = .ok (.aload_n 0, 1) := by decide +kernel
theorem dL_law_387 : decode cL_law 387 = .ok (.iload_n 3, 1) := by decide +kernel
theorem dL_law_388 : decode cL_law 388 = .ok (.iconst 1, 1) := by decide +kernel
theorem dL_law_389 : decode cL_law 389 = .ok (.iadd, 1) := by decide +kernel
theorem dL_law_390 : decode cL_law 390 = .ok (.iaload, 1) := by decide +kernel
theorem dL_law_391 : decode cL_law 391 = .ok (.aload_n 0, 1) := by decide +kernel
theorem dL_law_392 : decode cL_law 392 = .ok (.iload_n 3, 1) := by decide +kernel
theorem dL_law_393 : decode cL_law 393 = .ok (.iconst 2, 1) := by decide +kernel
theorem dL_law_394 : decode cL_law 394 = .ok (.iadd, 1) := by decide +kernel
theorem dL_law_395 : decode cL_law 395 = .ok (.iaload, 1) := by decide +kernel
theorem dL_law_396 : decode cL_law 396 = .ok (.invokevirtual 48, 3) := by decide +kernel
theorem dL_law_399 : decode cL_law 399 = .ok (.if_icmp .eq 615, 3) := by decide +kernel
theorem dL_law_402 : decode cL_law 402 = .ok (.iconst 0, 1) := by decide +kernel
theorem dL_law_403 : decode cL_law 403 = .ok (.ireturn, 1) := by decide +kernel
theorem dL_law_404 : decode cL_law 404 = .ok (.aload_n 1, 1) := by decide +kernel
theorem dL_law_405 : decode cL_law 405 = .ok (.aload_n 0, 1) := by decide +kernel
theorem dL_law_406 : decode cL_law 406 = .ok (.iload_n 3, 1) := by decide +kernel
theorem dL_law_407 : decode cL_law 407 = .ok (.iconst 1, 1) := by decide +kernel
theorem dL_law_408 : decode cL_law 408 = .ok (.iadd, 1) := by decide +kernel
theorem dL_law_409 : decode cL_law 409 = .ok (.iaload, 1) := by decide +kernel
theorem dL_law_410 : decode cL_law 410 = .ok (.invokevirtual 49, 3) := by decide +kernel
theorem dL_law_413 : decode cL_law 413 = .ok (.aload_n 2, 1) := by decide +kernel
theorem dL_law_414 : decode cL_law 414 = .ok (.aload_n 0, 1) := by decide +kernel
theorem dL_law_415 : decode cL_law 415 = .ok (.iload_n 3, 1) := by decide +kernel
theorem dL_law_416 : decode cL_law 416 = .ok (.iconst 1, 1) := by decide +kernel
theorem dL_law_417 : decode cL_law 417 = .ok (.iadd, 1) := by decide +kernel
theorem dL_law_418 : decode cL_law 418 = .ok (.iaload, 1) := by decide +kernel
theorem dL_law_419 : decode cL_law 419 = .ok (.invokevirtual 52, 3) := by decide +kernel
theorem dL_law_422 : decode cL_law 422 = .ok (.if_icmp .eq 592, 3) := by decide +kernel
theorem dL_law_425 : decode cL_law 425 = .ok (.iconst 0, 1) := by decide +kernel
theorem dL_law_426 : decode cL_law 426 = .ok (.ireturn, 1) := by decide +kernel
theorem dL_law_427 : decode cL_law 427 = .ok (.aload_n 1, 1) := by decide +kernel
theorem dL_law_428 : decode cL_law 428 = .ok (.aload_n 0, 1) := by decide +kernel
theorem dL_law_429 : decode cL_law 429 = .ok (.iload_n 3, 1) := by decide +kernel
theorem dL_law_430 : decode cL_law 430 = .ok (.iconst 1, 1) := by decide +kernel
theorem dL_law_431 : decode cL_law 431 = .ok (.iadd, 1) := by decide +kernel
theorem dL_law_432 : decode cL_law 432 = .ok (.iaload, 1) := by decide +kernel
theorem dL_law_433 : decode cL_law 433 = .ok (.invokevirtual 53, 3) := by decide +kernel
theorem dL_law_436 : decode cL_law 436 = .ok (.aload_n 2, 1) := by decide +kernel
theorem dL_law_437 : decode cL_law 437 = .ok (.aload_n 0, 1) := by decide +kernel
theorem dL_law_438 : decode cL_law 438 = .ok (.iload_n 3, 1) := by decide +kernel
theorem dL_law_439 : decode cL_law 439 = .ok (.iconst 1, 1) := by decide +kernel
theorem dL_law_440 : decode cL_law 440 = .ok (.iadd, 1) := by decide +kernel
theorem dL_law_441 : decode cL_law 441 = .ok (.iaload, 1) := by decide +kernel
theorem dL_law_442 : decode cL_law 442 = .ok (.invokevirtual 56, 3) := by decide +kernel
theorem dL_law_445 : decode cL_law 445 = .ok (.if_icmp .eq 569, 3) := by decide +kernel
theorem dL_law_448 : decode cL_law 448 = .ok (.iconst 0, 1) := by decide +kernel
theorem dL_law_449 : decode cL_law 449 = .ok (.ireturn, 1) := by decide +kernel
theorem dL_law_450 : decode cL_law 450 = .ok (.aload_n 1, 1) := by decide +kernel
theorem dL_law_451 : decode cL_law 451 = .ok (.aload_n 0, 1) := by decide +kernel
theorem dL_law_452 : decode cL_law 452 = .ok (.iload_n 3, 1) := by decide +kernel
theorem dL_law_453 : decode cL_law 453 = .ok (.iconst 1, 1) := by decide +kernel
theorem dL_law_454 : decode cL_law 454 = .ok (.iadd, 1) := by decide +kernel
theorem dL_law_455 : decode cL_law 455 = .ok (.iaload, 1) := by decide +kernel
theorem dL_law_456 : decode cL_law 456 = .ok (.aload_n 0, 1) := by decide +kernel
theorem dL_law_457 : decode cL_law 457 = .ok (.iload_n 3, 1) := by decide +kernel
theorem dL_law_458 : decode cL_law 458 = .ok (.iconst 2, 1) := by decide +kernel
theorem dL_law_459 : decode cL_law 459 = .ok (.iadd, 1) := by decide +kernel
theorem dL_law_460 : decode cL_law 460 = .ok (.iaload, 1) := by decide +kernel
theorem dL_law_461 : decode cL_law 461 = .ok (.invokevirtual 57, 3) := by decide +kernel
theorem dL_law_464 : decode cL_law 464 = .ok (.aload_n 2, 1) := by decide +kernel
theorem dL_law_465 : decode cL_law 465 = .ok (.aload_n 0, 1) := by decide +kernel
theorem dL_law_466 : decode cL_law 466 = .ok (.iload_n 3, 1) := by decide +kernel
theorem dL_law_467 : decode cL_law 467 = .ok (.iconst 1, 1) := by decide +kernel
theorem dL_law_468 : decode cL_law 468 = .ok (.iadd, 1) := by decide +kernel
theorem dL_law_469 : decode cL_law 469 = .ok (.iaload, 1) := by decide +kernel
theorem dL_law_470 : decode cL_law 470 = .ok (.aload_n 0, 1) := by decide +kernel
theorem dL_law_471 : decode cL_law 471 = .ok (.iload_n 3, 1) := by decide +kernel
theorem dL_law_472 : decode cL_law 472 = .ok (.iconst 2, 1) := by decide +kernel
theorem dL_law_473 : decode cL_law 473 = .ok (.iadd, 1) := by decide +kernel
theorem dL_law_474 : decode cL_law 474 = .ok (.iaload, 1) := by decide +kernel
theorem dL_law_475 : decode cL_law 475 = .ok (.invokevirtual 60, 3) := by decide +kernel
theorem dL_law_478 : decode cL_law 478 = .ok (.if_icmp .eq 536, 3) := by decide +kernel
theorem dL_law_481 : decode cL_law 481 = .ok (.iconst 0, 1) := by decide +kernel
theorem dL_law_482 : decode cL_law 482 = .ok (.ireturn, 1) := by decide +kernel
theorem dL_law_483 : decode cL_law 483 = .ok (.aload_n 1, 1) := by decide +kernel
theorem dL_law_484 : decode cL_law 484 = .ok (.aload_n 0, 1) := by decide +kernel
theorem dL_law_485 : decode cL_law 485 = .ok (.iload_n 3, 1) := by decide +kernel
theorem dL_law_486 : decode cL_law 486 = .ok (.iconst 1, 1) := by decide +kernel
theorem dL_law_487 : decode cL_law 487 = .ok (.iadd, 1) := by decide +kernel
theorem dL_law_488 : decode cL_law 488 = .ok (.iaload, 1) := by decide +kernel
theorem dL_law_489 : decode cL_law 489 = .ok (.invokevirtual 61, 3) := by decide +kernel
theorem dL_law_492 : decode cL_law 492 = .ok (.aload_n 2, 1) := by decide +kernel
theorem dL_law_493 : decode cL_law 493 = .ok (.aload_n 0, 1) := by decide +kernel
theorem dL_law_494 : decode cL_law 494 = .ok (.iload_n 3, 1) := by decide +kernel
theorem dL_law_495 : decode cL_law 495 = .ok (.iconst 1, 1) := by decide +kernel
theorem dL_law_496 : decode cL_law 496 = .ok (.iadd, 1) := by decide +kernel
theorem dL_law_497 : decode cL_law 497 = .ok (.iaload, 1) := by decide +kernel
theorem dL_law_498 : decode cL_law 498 = .ok (.invokevirtual 64, 3) := by decide +kernel
theorem dL_law_501 : decode cL_law 501 = .ok (.if_icmp .eq 513, 3) := by decide +kernel
theorem dL_law_504 : decode cL_law 504 = .ok (.iconst 0, 1) := by decide +kernel
theorem dL_law_505 : decode cL_law 505 = .ok (.ireturn, 1) := by decide +kernel
theorem dL_law_506 : decode cL_law 506 = .ok (.aload_n 1, 1) := by decide +kernel
theorem dL_law_507 : decode cL_law 507 = .ok (.aload_n 0, 1) := by decide +kernel
theorem dL_law_508 : decode cL_law 508 = .ok (.iload_n 3, 1) := by decide +kernel
theorem dL_law_509 : decode cL_law 509 = .ok (.iconst 1, 1) := by decide +kernel
theorem dL_law_510 : decode cL_law 510 = .ok (.iadd, 1) := by decide +kernel
theorem dL_law_511 : decode cL_law 511 = .ok (.iaload, 1) := by decide +kernel
theorem dL_law_512 : decode cL_law 512 = .ok (.invokevirtual 65, 3) := by decide +kernel
theorem dL_law_515 : decode cL_law 515 = .ok (.aload_n 2, 1) := by decide +kernel
theorem dL_law_516 : decode cL_law 516 = .ok (.aload_n 0, 1) := by decide +kernel
theorem dL_law_517 : decode cL_law 517 = .ok (.iload_n 3, 1) := by decide +kernel
theorem dL_law_518 : decode cL_law 518 = .ok (.iconst 1, 1) := by decide +kernel
theorem dL_law_519 : decode cL_law 519 = .ok (.iadd, 1) := by decide +kernel
theorem dL_law_520 : decode cL_law 520 = .ok (.iaload, 1) := by decide +kernel
theorem dL_law_521 : decode cL_law 521 = .ok (.invokevirtual 68, 3) := by decide +kernel
theorem dL_law_524 : decode cL_law 524 = .ok (.if_icmp .eq 490, 3) := by decide +kernel
theorem dL_law_527 : decode cL_law 527 = .ok (.iconst 0, 1) := by decide +kernel
theorem dL_law_528 : decode cL_law 528 = .ok (.ireturn, 1) := by decide +kernel
theorem dL_law_529 : decode cL_law 529 = .ok (.aload_n 1, 1) := by decide +kernel
theorem dL_law_530 : decode cL_law 530 = .ok (.aload_n 0, 1) := by decide +kernel
theorem dL_law_531 : decode cL_law 531 = .ok (.iload_n 3, 1) := by decide +kernel
theorem dL_law_532 : decode cL_law 532 = .ok (.iconst 1, 1) := by decide +kernel
theorem dL_law_533 : decode cL_law 533 = .ok (.iadd, 1) := by decide +kernel
theorem dL_law_534 : decode cL_law 534 = .ok (.iaload, 1) := by decide +kernel
theorem dL_law_535 : decode cL_law 535 = .ok (.invokevirtual 69, 3) := by decide +kernel
theorem dL_law_538 : decode cL_law 538 = .ok (.aload_n 2, 1) := by decide +kernel
theorem dL_law_539 : decode cL_law 539 = .ok (.aload_n 0, 1) := by decide +kernel
theorem dL_law_540 : decode cL_law 540 = .ok (.iload_n 3, 1) := by decide +kernel
theorem dL_law_541 : decode cL_law 541 = .ok (.iconst 1, 1) := by decide +kernel
theorem dL_law_542 : decode cL_law 542 = .ok (.iadd, 1) := by decide +kernel
theorem dL_law_543 : decode cL_law 543 = .ok (.iaload, 1) := by decide +kernel
theorem dL_law_544 : decode cL_law 544 = .ok (.invokevirtual 72, 3) := by decide +kernel
theorem dL_law_547 : decode cL_law 547 = .ok (.if_icmp .eq 467, 3) := by decide +kernel
theorem dL_law_550 : decode cL_law 550 = .ok (.iconst 0, 1) := by decide +kernel
theorem dL_law_551 : decode cL_law 551 = .ok (.ireturn, 1) := by decide +kernel
theorem dL_law_552 : decode cL_law 552 = .ok (.aload_n 1, 1) := by decide +kernel
theorem dL_law_553 : decode cL_law 553 = .ok (.aload_n 0, 1) := by decide +kernel
theorem dL_law_554 : decode cL_law 554 = .ok (.iload_n 3, 1) := by decide +kernel
theorem dL_law_555 : decode cL_law 555 = .ok (.iconst 1, 1) := by decide +kernel
theorem dL_law_556 : decode cL_law 556 = .ok (.iadd, 1) := by decide +kernel
theorem dL_law_557 : decode cL_law 557 = .ok (.iaload, 1) := by decide +kernel
theorem dL_law_558 : decode cL_law 558 = .ok (.invokevirtual 73, 3) := by decide +kernel
theorem dL_law_561 : decode cL_law 561 = .ok (.aload_n 2, 1) := by decide +kernel
theorem dL_law_562 : decode cL_law 562 = .ok (.aload_n 0, 1) := by decide +kernel
theorem dL_law_563 : decode cL_law 563 = .ok (.iload_n 3, 1) := by decide +kernel
theorem dL_law_564 : decode cL_law 564 = .ok (.iconst 1, 1) := by decide +kernel
theorem dL_law_565 : decode cL_law 565 = .ok (.iadd, 1) := by decide +kernel
theorem dL_law_566 : decode cL_law 566 = .ok (.iaload, 1) := by decide +kernel
theorem dL_law_567 : decode cL_law 567 = .ok (.invokevirtual 76, 3) := by decide +kernel
theorem dL_law_570 : decode cL_law 570 = .ok (.if_icmp .eq 444, 3) := by decide +kernel
theorem dL_law_573 : decode cL_law 573 = .ok (.iconst 0, 1) := by decide +kernel
theorem dL_law_574 : decode cL_law 574 = .ok (.ireturn, 1) := by decide +kernel
theorem dL_law_575 : decode cL_law 575 = .ok (.aload_n 1, 1) := by decide +kernel
theorem dL_law_576 : decode cL_law 576 = .ok (.aload_n 0, 1) := by decide +kernel
theorem dL_law_577 : decode cL_law 577 = .ok (.iload_n 3, 1) := by decide +kernel
theorem dL_law_578 : decode cL_law 578 = .ok (.iconst 1, 1) := by decide +kernel
theorem dL_law_579 : decode cL_law 579 = .ok (.iadd, 1) := by decide +kernel
theorem dL_law_580 : decode cL_law 580 = .ok (.iaload, 1) := by decide +kernel
theorem dL_law_581 : decode cL_law 581 = .ok (.aload_n 0, 1) := by decide +kernel
theorem dL_law_582 : decode cL_law 582 = .ok (.iload_n 3, 1) := by decide +kernel
theorem dL_law_583 : decode cL_law 583 = .ok (.iconst 2, 1) := by decide +kernel
theorem dL_law_584 : decode cL_law 584 = .ok (.iadd, 1) := by decide +kernel
theorem dL_law_585 : decode cL_law 585 = .ok (.iaload, 1) := by decide +kernel
theorem dL_law_586 : decode cL_law 586 = .ok (.invokevirtual 77, 3) := by decide +kernel
theorem dL_law_589 : decode cL_law 589 = .ok (.aload_n 2, 1) := by decide +kernel
theorem dL_law_590 : decode cL_law 590 = .ok (.aload_n 0, 1) := by decide +kernel
theorem dL_law_591 : decode cL_law 591 = .ok (.iload_n 3, 1) := by decide +kernel
theorem dL_law_592 : decode cL_law 592 = .ok (.iconst 1, 1) := by decide +kernel
theorem dL_law_593 : decode cL_law 593 = .ok (.iadd, 1) := by decide +kernel
theorem dL_law_594 : decode cL_law 594 = .ok (.iaload, 1) := by decide +kernel
theorem dL_law_595 : decode cL_law 595 = .ok (.aload_n 0, 1) := by decide +kernel
theorem dL_law_596 : decode cL_law 596 = .ok (.iload_n 3, 1) := by decide +kernel
theorem dL_law_597 : decode cL_law 597 = .ok (.iconst 2, 1) := by decide +kernel
theorem dL_law_598 : decode cL_law 598 = .ok (.iadd, 1) := by decide +kernel
theorem dL_law_599 : decode cL_law 599 = .ok (.iaload, 1) := by decide +kernel
theorem dL_law_600 : decode cL_law 600 = .ok (.invokevirtual 80, 3) := by decide +kernel
theorem dL_law_603 : decode cL_law 603 = .ok (.if_icmp .eq 411, 3) := by decide +kernel
theorem dL_law_606 : decode cL_law 606 = .ok (.iconst 0, 1) := by decide +kernel
theorem dL_law_607 : decode cL_law 607 = .ok (.ireturn, 1) := by decide +kernel
theorem dL_law_608 : decode cL_law 608 = .ok (.aload_n 1, 1) := by decide +kernel
theorem dL_law_609 : decode cL_law 609 = .ok (.aload_n 0, 1) := by decide +kernel
theorem dL_law_610 : decode cL_law 610 = .ok (.iload_n 3, 1) := by decide +kernel
theorem dL_law_611 : decode cL_law 611 = .ok (.iconst 1, 1) := by decide +kernel
theorem dL_law_612 : decode cL_law 612 = .ok (.iadd, 1) := by decide +kernel
theorem dL_law_613 : decode cL_law 613 = .ok (.iaload, 1) := by decide +kernel
theorem dL_law_614 : decode cL_law 614 = .ok (.aload_n 0, 1) := by decide +kernel
theorem dL_law_615 : decode cL_law 615 = .ok (.iload_n 3, 1) := by decide +kernel
theorem dL_law_616 : decode cL_law 616 = .ok (.iconst 2, 1) := by decide +kernel
theorem dL_law_617 : decode cL_law 617 = .ok (.iadd, 1) := by decide +kernel
theorem dL_law_618 : decode cL_law 618 = .ok (.iaload, 1) := by decide +kernel
theorem dL_law_619 : decode cL_law 619 = .ok (.invokevirtual 81, 3) := by decide +kernel
theorem dL_law_622 : decode cL_law 622 = .ok (.aload_n 2, 1) := by decide +kernel
theorem dL_law_623 : decode cL_law 623 = .ok (.aload_n 0, 1) := by decide +kernel
theorem dL_law_624 : decode cL_law 624 = .ok (.iload_n 3, 1) := by decide +kernel
theorem dL_law_625 : decode cL_law 625 = .ok (.iconst 1, 1) := by decide +kernel
theorem dL_law_626 : decode cL_law 626 = .ok (.iadd, 1) := by decide +kernel
theorem dL_law_627 : decode cL_law 627 = .ok (.iaload, 1) := by decide +kernel
theorem dL_law_628 : decode cL_law 628 = .ok (.aload_n 0, 1) := by decide +kernel
theorem dL_law_629 : decode cL_law 629 = .ok (.iload_n 3, 1) := by decide +kernel
theorem dL_law_630 : decode cL_law 630 = .ok (.iconst 2, 1) := by decide +kernel
theorem dL_law_631 : decode cL_law 631 = .ok (.iadd, 1) := by decide +kernel
theorem dL_law_632 : decode cL_law 632 = .ok (.iaload, 1) := by decide +kernel
theorem dL_law_633 : decode cL_law 633 = .ok (.invokevirtual 84, 3) := by decide +kernel
theorem dL_law_636 : decode cL_law 636 = .ok (.if_icmp .eq 378, 3) := by decide +kernel
theorem dL_law_639 : decode cL_law 639 = .ok (.iconst 0, 1) := by decide +kernel
theorem dL_law_640 : decode cL_law 640 = .ok (.ireturn, 1) := by decide +kernel
theorem dL_law_641 : decode cL_law 641 = .ok (.aload_n 1, 1) := by decide +kernel
theorem dL_law_642 : decode cL_law 642 = .ok (.aload_n 0, 1) := by decide +kernel
theorem dL_law_643 : decode cL_law 643 = .ok (.iload_n 3, 1) := by decide +kernel
theorem dL_law_644 : decode cL_law 644 = .ok (.iconst 1, 1) := by decide +kernel
theorem dL_law_645 : decode cL_law 645 = .ok (.iadd, 1) := by decide +kernel
theorem dL_law_646 : decode cL_law 646 = .ok (.iaload, 1) := by decide +kernel
theorem dL_law_647 : decode cL_law 647 = .ok (.aload_n 0, 1) := by decide +kernel
theorem dL_law_648 : decode cL_law 648 = .ok (.iload_n 3, 1) := by decide +kernel
theorem dL_law_649 : decode cL_law 649 = .ok (.iconst 2, 1) := by decide +kernel
theorem dL_law_650 : decode cL_law 650 = .ok (.iadd, 1) := by decide +kernel
theorem dL_law_651 : decode cL_law 651 = .ok (.iaload, 1) := by decide +kernel
theorem dL_law_652 : decode cL_law 652 = .ok (.invokevirtual 85, 3) := by decide +kernel
theorem dL_law_655 : decode cL_law 655 = .ok (.aload_n 2, 1) := by decide +kernel
theorem dL_law_656 : decode cL_law 656 = .ok (.aload_n 0, 1) := by decide +kernel
theorem dL_law_657 : decode cL_law 657 = .ok (.iload_n 3, 1) := by decide +kernel
theorem dL_law_658 : decode cL_law 658 = .ok (.iconst 1, 1) := by decide +kernel
theorem dL_law_659 : decode cL_law 659 = .ok (.iadd, 1) := by decide +kernel
theorem dL_law_660 : decode cL_law 660 = .ok (.iaload, 1) := by decide +kernel
theorem dL_law_661 : decode cL_law 661 = .ok (.aload_n 0, 1) := by decide +kernel
theorem dL_law_662 : decode cL_law 662 = .ok (.iload_n 3, 1) := by decide +kernel
theorem dL_law_663 : decode cL_law 663 = .ok (.iconst 2, 1) := by decide +kernel
theorem dL_law_664 : decode cL_law 664 = .ok (.iadd, 1) := by decide +kernel
theorem dL_law_665 : decode cL_law 665 = .ok (.iaload, 1) := by decide +kernel
theorem dL_law_666 : decode cL_law 666 = .ok (.invokevirtual 88, 3) := by decide +kernel
theorem dL_law_669 : decode cL_law 669 = .ok (.if_icmp .eq 345, 3) := by decide +kernel
theorem dL_law_672 : decode cL_law 672 = .ok (.iconst 0, 1) := by decide +kernel
theorem dL_law_673 : decode cL_law 673 = .ok (.ireturn, 1) := by decide +kernel
theorem dL_law_674 : decode cL_law 674 = .ok (.aload_n 1, 1) := by decide +kernel
theorem dL_law_675 : decode cL_law 675 = .ok (.aload_n 0, 1) := by decide +kernel
theorem dL_law_676 : decode cL_law 676 = .ok (.iload_n 3, 1) := by decide +kernel
theorem dL_law_677 : decode cL_law 677 = .ok (.iconst 1, 1) := by decide +kernel
theorem dL_law_678 : decode cL_law 678 = .ok (.iadd, 1) := by decide +kernel
theorem dL_law_679 : decode cL_law 679 = .ok (.iaload, 1) := by decide +kernel
theorem dL_law_680 : decode cL_law 680 = .ok (.invokevirtual 89, 3) := by decide +kernel
theorem dL_law_683 : decode cL_law 683 = .ok (.aload_n 2, 1) := by decide +kernel
theorem dL_law_684 : decode cL_law 684 = .ok (.aload_n 0, 1) := by decide +kernel
theorem dL_law_685 : decode cL_law 685 = .ok (.iload_n 3, 1) := by decide +kernel
theorem dL_law_686 : decode cL_law 686 = .ok (.iconst 1, 1) := by decide +kernel
theorem dL_law_687 : decode cL_law 687 = .ok (.iadd, 1) := by decide +kernel
theorem dL_law_688 : decode cL_law 688 = .ok (.iaload, 1) := by decide +kernel
theorem dL_law_689 : decode cL_law 689 = .ok (.invokevirtual 92, 3) := by decide +kernel
theorem dL_law_692 : decode cL_law 692 = .ok (.if_icmp .eq 322, 3) := by decide +kernel
theorem dL_law_695 : decode cL_law 695 = .ok (.iconst 0, 1) := by decide +kernel
theorem dL_law_696 : decode cL_law 696 = .ok (.ireturn, 1) := by decide +kernel
theorem dL_law_697 : decode cL_law 697 = .ok (.aload_n 1, 1) := by decide +kernel
theorem dL_law_698 : decode cL_law 698 = .ok (.aload_n 0, 1) := by decide +kernel
theorem dL_law_699 : decode cL_law 699 = .ok (.iload_n 3, 1) := by decide +kernel
theorem dL_law_700 : decode cL_law 700 = .ok (.iconst 1, 1) := by decide +kernel
theorem dL_law_701 : decode cL_law 701 = .ok (.iadd, 1) := by decide +kernel
theorem dL_law_702 : decode cL_law 702 = .ok (.iaload, 1) := by decide +kernel
theorem dL_law_703 : decode cL_law 703 = .ok (.invokevirtual 93, 3) := by decide +kernel
theorem dL_law_706 : decode cL_law 706 = .ok (.aload_n 2, 1) := by decide +kernel
theorem dL_law_707 : decode cL_law 707 = .ok (.aload_n 0, 1) := by decide +kernel
theorem dL_law_708 : decode cL_law 708 = .ok (.iload_n 3, 1) := by decide +kernel
theorem dL_law_709 : decode cL_law 709 = .ok (.iconst 1, 1) := by decide +kernel
theorem dL_law_710 : decode cL_law 710 = .ok (.iadd, 1) := by decide +kernel
theorem dL_law_711 : decode cL_law 711 = .ok (.iaload, 1) := by decide +kernel
theorem dL_law_712 : decode cL_law 712 = .ok (.invokevirtual 96, 3) := by decide +kernel
theorem dL_law_715 : decode cL_law 715 = .ok (.if_icmp .eq 299, 3) := by decide +kernel
theorem dL_law_718 : decode cL_law 718 = .ok (.iconst 0, 1) := by decide +kernel
theorem dL_law_719 : decode cL_law 719 = .ok (.ireturn, 1) := by decide +kernel
theorem dL_law_720 : decode cL_law 720 = .ok (.aload_n 1, 1) := by decide +kernel
theorem dL_law_721 : decode cL_law 721 = .ok (.aload_n 0, 1) := by decide +kernel
theorem dL_law_722 : decode cL_law 722 = .ok (.iload_n 3, 1) := by decide +kernel
theorem dL_law_723 : decode cL_law 723 = .ok (.iconst 1, 1) := by decide +kernel
theorem dL_law_724 : decode cL_law 724 = .ok (.iadd, 1) := by decide +kernel
theorem dL_law_725 : decode cL_law 725 = .ok (.iaload, 1) := by decide +kernel
theorem dL_law_726 : decode cL_law 726 = .ok (.invokevirtual 97, 3) := by decide +kernel
theorem dL_law_729 : decode cL_law 729 = .ok (.aload_n 2, 1) := by decide +kernel
theorem dL_law_730 : decode cL_law 730 = .ok (.aload_n 0, 1) := by decide +kernel
theorem dL_law_731 : decode cL_law 731 = .ok (.iload_n 3, 1) := by decide +kernel
theorem dL_law_732 : decode cL_law 732 = .ok (.iconst 1, 1) := by decide +kernel
theorem dL_law_733 : decode cL_law 733 = .ok (.iadd, 1) := by decide +kernel
theorem dL_law_734 : decode cL_law 734 = .ok (.iaload, 1) := by decide +kernel
theorem dL_law_735 : decode cL_law 735 = .ok (.invokevirtual 100, 3) := by decide +kernel
theorem dL_law_738 : decode cL_law 738 = .ok (.if_icmp .eq 276, 3) := by decide +kernel
theorem dL_law_741 : decode cL_law 741 = .ok (.iconst 0, 1) := by decide +kernel
theorem dL_law_742 : decode cL_law 742 = .ok (.ireturn, 1) := by decide +kernel
theorem dL_law_743 : decode cL_law 743 = .ok (.aload_n 1, 1) := by decide +kernel
theorem dL_law_744 : decode cL_law 744 = .ok (.aload_n 0, 1) := by decide +kernel
theorem dL_law_745 : decode cL_law 745 = .ok (.iload_n 3, 1) := by decide +kernel
theorem dL_law_746 : decode cL_law 746 = .ok (.iconst 1, 1) := by decide +kernel
theorem dL_law_747 : decode cL_law 747 = .ok (.iadd, 1) := by decide +kernel
theorem dL_law_748 : decode cL_law 748 = .ok (.iaload, 1) := by decide +kernel
theorem dL_law_749 : decode cL_law 749 = .ok (.invokevirtual 101, 3) := by decide +kernel
theorem dL_law_752 : decode cL_law 752 = .ok (.aload_n 2, 1) := by decide +kernel
theorem dL_law_753 : decode cL_law 753 = .ok (.aload_n 0, 1) := by decide +kernel
theorem dL_law_754 : decode cL_law 754 = .ok (.iload_n 3, 1) := by decide +kernel
theorem dL_law_755 : decode cL_law 755 = .ok (.iconst 1, 1) := by decide +kernel
theorem dL_law_756 : decode cL_law 756 = .ok (.iadd, 1) := by decide +kernel
theorem dL_law_757 : decode cL_law 757 = .ok (.iaload, 1) := by decide +kernel
theorem dL_law_758 : decode cL_law 758 = .ok (.invokevirtual 104, 3) := by decide +kernel
theorem dL_law_761 : decode cL_law 761 = .ok (.if_icmp .eq 253, 3) := by decide +kernel
theorem dL_law_764 : decode cL_law 764 = .ok (.iconst 0, 1) := by decide +kernel
theorem dL_law_765 : decode cL_law 765 = .ok (.ireturn, 1) := by decide +kernel
theorem dL_law_766 : decode cL_law 766 = .ok (.aload_n 1, 1) := by decide +kernel
theorem dL_law_767 : decode cL_law 767 = .ok (.aload_n 0, 1) := by decide +kernel
theorem dL_law_768 : decode cL_law 768 = .ok (.iload_n 3, 1) := by decide +kernel
theorem dL_law_769 : decode cL_law 769 = .ok (.iconst 1, 1) := by decide +kernel
theorem dL_law_770 : decode cL_law 770 = .ok (.iadd, 1) := by decide +kernel
theorem dL_law_771 : decode cL_law 771 = .ok (.iaload, 1) := by decide +kernel
theorem dL_law_772 : decode cL_law 772 = .ok (.invokevirtual 105, 3) := by decide +kernel
theorem dL_law_775 : decode cL_law 775 = .ok (.aload_n 2, 1) := by decide +kernel
theorem dL_law_776 : decode cL_law 776 = .ok (.aload_n 0, 1) := by decide +kernel
theorem dL_law_777 : decode cL_law 777 = .ok (.iload_n 3, 1) := by decide +kernel
theorem dL_law_778 : decode cL_law 778 = .ok (.iconst 1, 1) := by decide +kernel
theorem dL_law_779 : decode cL_law 779 = .ok (.iadd, 1) := by decide +kernel
theorem dL_law_780 : decode cL_law 780 = .ok (.iaload, 1) := by decide +kernel
theorem dL_law_781 : decode cL_law 781 = .ok (.invokevirtual 108, 3) := by decide +kernel
theorem dL_law_784 : decode cL_law 784 = .ok (.if_icmp .eq 230, 3) := by decide +kernel
theorem dL_law_787 : decode cL_law 787 = .ok (.iconst 0, 1) := by decide +kernel
theorem dL_law_788 : decode cL_law 788 = .ok (.ireturn, 1) := by decide +kernel
theorem dL_law_789 : decode cL_law 789 = .ok (.aload_n 1, 1) := by decide +kernel
theorem dL_law_790 : decode cL_law 790 = .ok (.invokevirtual 109, 3) := by decide +kernel
theorem dL_law_793 : decode cL_law 793 = .ok (.aload_n 2, 1) := by decide +kernel
theorem dL_law_794 : decode cL_law 794 = .ok (.invokevirtual 112, 3) := by decide +kernel
theorem dL_law_797 : decode cL_law 797 = .ok (.if_icmp .eq 217, 3) := by decide +kernel
theorem dL_law_800 : decode cL_law 800 = .ok (.iconst 0, 1) := by decide +kernel
theorem dL_law_801 : decode cL_law 801 = .ok (.ireturn, 1) := by decide +kernel
theorem dL_law_802 : decode cL_law 802 = .ok (.aload_n 1, 1) := by decide +kernel
theorem dL_law_803 : decode cL_law 803 = .ok (.invokevirtual 113, 3) := by decide +kernel
theorem dL_law_806 : decode cL_law 806 = .ok (.aload_n 2, 1) := by decide +kernel
theorem dL_law_807 : decode cL_law 807 = .ok (.invokevirtual 116, 3) := by decide +kernel
theorem dL_law_810 : decode cL_law 810 = .ok (.if_icmp .eq 204, 3) := by decide +kernel
theorem dL_law_813 : decode cL_law 813 = .ok (.iconst 0, 1) := by decide +kernel
theorem dL_law_814 : decode cL_law 814 = .ok (.ireturn, 1) := by decide +kernel
theorem dL_law_815 : decode cL_law 815 = .ok (.aload_n 1, 1) := by decide +kernel
theorem dL_law_816 : decode cL_law 816 = .ok (.invokevirtual 117, 3) := by decide +kernel
theorem dL_law_819 : decode cL_law 819 = .ok (.aload_n 2, 1) := by decide +kernel
theorem dL_law_820 : decode cL_law 820 = .ok (.invokevirtual 120, 3) := by decide +kernel
theorem dL_law_823 : decode cL_law 823 = .ok (.if_icmp .eq 191, 3) := by decide +kernel
theorem dL_law_826 : decode cL_law 826 = .ok (.iconst 0, 1) := by decide +kernel
theorem dL_law_827 : decode cL_law 827 = .ok (.ireturn, 1) := by decide +kernel
theorem dL_law_828 : decode cL_law 828 = .ok (.aload_n 1, 1) := by decide +kernel
theorem dL_law_829 : decode cL_law 829 = .ok (.invokevirtual 121, 3) := by decide +kernel
theorem dL_law_832 : decode cL_law 832 = .ok (.aload_n 2, 1) := by decide +kernel
theorem dL_law_833 : decode cL_law 833 = .ok (.invokevirtual 124, 3) := by decide +kernel
theorem dL_law_836 : decode cL_law 836 = .ok (.if_icmp .eq 178, 3) := by decide +kernel
theorem dL_law_839 : decode cL_law 839 = .ok (.iconst 0, 1) := by decide +kernel
theorem dL_law_840 : decode cL_law 840 = .ok (.ireturn, 1) := by decide +kernel
theorem dL_law_841 : decode cL_law 841 = .ok (.aload_n 1, 1) := by decide +kernel
theorem dL_law_842 : decode cL_law 842 = .ok (.invokevirtual 125, 3) := by decide +kernel
theorem dL_law_845 : decode cL_law 845 = .ok (.aload_n 2, 1) := by decide +kernel
theorem dL_law_846 : decode cL_law 846 = .ok (.invokevirtual 128, 3) := by decide +kernel
theorem dL_law_849 : decode cL_law 849 = .ok (.if_icmp .eq 165, 3) := by decide +kernel
theorem dL_law_852 : decode cL_law 852 = .ok (.iconst 0, 1) := by decide +kernel
theorem dL_law_853 : decode cL_law 853 = .ok (.ireturn, 1) := by decide +kernel
theorem dL_law_854 : decode cL_law 854 = .ok (.aload_n 1, 1) := by decide +kernel
theorem dL_law_855 : decode cL_law 855 = .ok (.invokevirtual 129, 3) := by decide +kernel
theorem dL_law_858 : decode cL_law 858 = .ok (.aload_n 2, 1) := by decide +kernel
theorem dL_law_859 : decode cL_law 859 = .ok (.invokevirtual 132, 3) := by decide +kernel
theorem dL_law_862 : decode cL_law 862 = .ok (.if_icmp .eq 152, 3) := by decide +kernel
theorem dL_law_865 : decode cL_law 865 = .ok (.iconst 0, 1) := by decide +kernel
theorem dL_law_866 : decode cL_law 866 = .ok (.ireturn, 1) := by decide +kernel
theorem dL_law_867 : decode cL_law 867 = .ok (.aload_n 1, 1) := by decide +kernel
theorem dL_law_868 : decode cL_law 868 = .ok (.invokevirtual 133, 3) := by decide +kernel
theorem dL_law_871 : decode cL_law 871 = .ok (.aload_n 2, 1) := by decide +kernel
theorem dL_law_872 : decode cL_law 872 = .ok (.invokevirtual 136, 3) := by decide +kernel
theorem dL_law_875 : decode cL_law 875 = .ok (.if_icmp .eq 139, 3) := by decide +kernel
theorem dL_law_878 : decode cL_law 878 = .ok (.iconst 0, 1) := by decide +kernel
theorem dL_law_879 : decode cL_law 879 = .ok (.ireturn, 1) := by decide +kernel
theorem dL_law_880 : decode cL_law 880 = .ok (.aload_n 1, 1) := by decide +kernel
theorem dL_law_881 : decode cL_law 881 = .ok (.invokevirtual 137, 3) := by decide +kernel
theorem dL_law_884 : decode cL_law 884 = .ok (.aload_n 2, 1) := by decide +kernel
theorem dL_law_885 : decode cL_law 885 = .ok (.invokevirtual 140, 3) := by decide +kernel
theorem dL_law_888 : decode cL_law 888 = .ok (.if_icmp .eq 126, 3) := by decide +kernel
theorem dL_law_891 : decode cL_law 891 = .ok (.iconst 0, 1) := by decide +kernel
theorem dL_law_892 : decode cL_law 892 = .ok (.ireturn, 1) := by decide +kernel
theorem dL_law_893 : decode cL_law 893 = .ok (.aload_n 1, 1) := by decide +kernel
theorem dL_law_894 : decode cL_law 894 = .ok (.invokevirtual 141, 3) := by decide +kernel
theorem dL_law_897 : decode cL_law 897 = .ok (.aload_n 2, 1) := by decide +kernel
theorem dL_law_898 : decode cL_law 898 = .ok (.invokevirtual 144, 3) := by decide +kernel
theorem dL_law_901 : decode cL_law 901 = .ok (.if_icmp .eq 113, 3) := by decide +kernel
theorem dL_law_904 : decode cL_law 904 = .ok (.iconst 0, 1) := by decide +kernel
theorem dL_law_905 : decode cL_law 905 = .ok (.ireturn, 1) := by decide +kernel
theorem dL_law_906 : decode cL_law 906 = .ok (.aload_n 1, 1) := by decide +kernel
theorem dL_law_907 : decode cL_law 907 = .ok (.aload_n 0, 1) := by decide +kernel
theorem dL_law_908 : decode cL_law 908 = .ok (.iload_n 3, 1) := by decide +kernel
theorem dL_law_909 : decode cL_law 909 = .ok (.iconst 1, 1) := by decide +kernel
theorem dL_law_910 : decode cL_law 910 = .ok (.iadd, 1) := by decide +kernel
theorem dL_law_911 : decode cL_law 911 = .ok (.iaload, 1) := by decide +kernel
theorem dL_law_912 : decode cL_law 912 = .ok (.invokevirtual 145, 3) := by decide +kernel
theorem dL_law_915 : decode cL_law 915 = .ok (.aload_n 2, 1) := by decide +kernel
theorem dL_law_916 : decode cL_law 916 = .ok (.aload_n 0, 1) := by decide +kernel
theorem dL_law_917 : decode cL_law 917 = .ok (.iload_n 3, 1) := by decide +kernel
theorem dL_law_918 : decode cL_law 918 = .ok (.iconst 1, 1) := by decide +kernel
theorem dL_law_919 : decode cL_law 919 = .ok (.iadd, 1) := by decide +kernel
theorem dL_law_920 : decode cL_law 920 = .ok (.iaload, 1) := by decide +kernel
theorem dL_law_921 : decode cL_law 921 = .ok (.invokevirtual 148, 3) := by decide +kernel
theorem dL_law_924 : decode cL_law 924 = .ok (.if_icmp .eq 90, 3) := by decide +kernel
theorem dL_law_927 : decode cL_law 927 = .ok (.iconst 0, 1) := by decide +kernel
theorem dL_law_928 : decode cL_law 928 = .ok (.ireturn, 1) := by decide +kernel
theorem dL_law_929 : decode cL_law 929 = .ok (.aload_n 1, 1) := by decide +kernel
theorem dL_law_930 : decode cL_law 930 = .ok (.invokevirtual 149, 3) := by decide +kernel
theorem dL_law_933 : decode cL_law 933 = .ok (.aload_n 2, 1) := by decide +kernel
theorem dL_law_934 : decode cL_law 934 = .ok (.invokevirtual 152, 3) := by decide +kernel
theorem dL_law_937 : decode cL_law 937 = .ok (.if_icmp .eq 77, 3) := by decide +kernel
theorem dL_law_940 : decode cL_law 940 = .ok (.iconst 0, 1) := by decide +kernel
theorem dL_law_941 : decode cL_law 941 = .ok (.ireturn, 1) := by decide +kernel
theorem dL_law_942 : decode cL_law 942 = .ok (.aload_n 1, 1) := by decide +kernel
theorem dL_law_943 : decode cL_law 943 = .ok (.invokevirtual 153, 3) := by decide +kernel
theorem dL_law_946 : decode cL_law 946 = .ok (.aload_n 2, 1) := by decide +kernel
theorem dL_law_947 : decode cL_law 947 = .ok (.invokevirtual 156, 3) := by decide +kernel
theorem dL_law_950 : decode cL_law 950 = .ok (.if_icmp .eq 64, 3) := by decide +kernel
theorem dL_law_953 : decode cL_law 953 = .ok (.iconst 0, 1) := by decide +kernel
theorem dL_law_954 : decode cL_law 954 = .ok (.ireturn, 1) := by decide +kernel
theorem dL_law_955 : decode cL_law 955 = .ok (.aload_n 1, 1) := by decide +kernel
theorem dL_law_956 : decode cL_law 956 = .ok (.invokevirtual 157, 3) := by decide +kernel
theorem dL_law_959 : decode cL_law 959 = .ok (.aload_n 2, 1) := by decide +kernel
theorem dL_law_960 : decode cL_law 960 = .ok (.invokevirtual 160, 3) := by decide +kernel
theorem dL_law_963 : decode cL_law 963 = .ok (.if_icmp .eq 51, 3) := by decide +kernel
theorem dL_law_966 : decode cL_law 966 = .ok (.iconst 0, 1) := by decide +kernel
theorem dL_law_967 : decode cL_law 967 = .ok (.ireturn, 1) := by decide +kernel
theorem dL_law_968 : decode cL_law 968 = .ok (.aload_n 1, 1) := by decide +kernel
theorem dL_law_969 : decode cL_law 969 = .ok (.aload_n 0, 1) := by decide +kernel
theorem dL_law_970 : decode cL_law 970 = .ok (.iload_n 3, 1) := by decide +kernel
theorem dL_law_971 : decode cL_law 971 = .ok (.iconst 1, 1) := by decide +kernel
theorem dL_law_972 : decode cL_law 972 = .ok (.iadd, 1) := by decide +kernel
theorem dL_law_973 : decode cL_law 973 = .ok (.iaload, 1) := by decide +kernel
theorem dL_law_974 : decode cL_law 974 = .ok (.invokevirtual 161, 3) := by decide +kernel
theorem dL_law_977 : decode cL_law 977 = .ok (.aload_n 2, 1) := by decide +kernel
theorem dL_law_978 : decode cL_law 978 = .ok (.aload_n 0, 1) := by decide +kernel
theorem dL_law_979 : decode cL_law 979 = .ok (.iload_n 3, 1) := by decide +kernel
theorem dL_law_980 : decode cL_law 980 = .ok (.iconst 1, 1) := by decide +kernel
theorem dL_law_981 : decode cL_law 981 = .ok (.iadd, 1) := by decide +kernel
theorem dL_law_982 : decode cL_law 982 = .ok (.iaload, 1) := by decide +kernel
theorem dL_law_983 : decode cL_law 983 = .ok (.invokevirtual 164, 3) := by decide +kernel
theorem dL_law_986 : decode cL_law 986 = .ok (.if_icmp .eq 28, 3) := by decide +kernel
theorem dL_law_989 : decode cL_law 989 = .ok (.iconst 0, 1) := by decide +kernel
theorem dL_law_990 : decode cL_law 990 = .ok (.ireturn, 1) := by decide +kernel
theorem dL_law_991 : decode cL_law 991 = .ok (.aload_n 1, 1) := by decide +kernel
theorem dL_law_992 : decode cL_law 992 = .ok (.aload_n 0, 1) := by decide +kernel
theorem dL_law_993 : decode cL_law 993 = .ok (.iload_n 3, 1) := by decide +kernel
theorem dL_law_994 : decode cL_law 994 = .ok (.iconst 1, 1) := by decide +kernel
theorem dL_law_995 : decode cL_law 995 = .ok (.iadd, 1) := by decide +kernel
theorem dL_law_996 : decode cL_law 996 = .ok (.iaload, 1) := by decide +kernel
theorem dL_law_997 : decode cL_law 997 = .ok (.invokevirtual 165, 3) := by decide +kernel
theorem dL_law_1000 : decode cL_law 1000 = .ok (.aload_n 2, 1) := by decide +kernel
theorem dL_law_1001 : decode cL_law 1001 = .ok (.aload_n 0, 1) := by decide +kernel
theorem dL_law_1002 : decode cL_law 1002 = .ok (.iload_n 3, 1) := by decide +kernel
theorem dL_law_1003 : decode cL_law 1003 = .ok (.iconst 1, 1) := by decide +kernel
theorem dL_law_1004 : decode cL_law 1004 = .ok (.iadd, 1) := by decide +kernel
theorem dL_law_1005 : decode cL_law 1005 = .ok (.iaload, 1) := by decide +kernel
theorem dL_law_1006 : decode cL_law 1006 = .ok (.invokevirtual 168, 3) := by decide +kernel
theorem dL_law_1009 : decode cL_law 1009 = .ok (.if_icmp .eq 5, 3) := by decide +kernel
theorem dL_law_1012 : decode cL_law 1012 = .ok (.iconst 0, 1) := by decide +kernel
theorem dL_law_1013 : decode cL_law 1013 = .ok (.ireturn, 1) := by decide +kernel
theorem dL_law_1014 : decode cL_law 1014 = .ok (.iinc 3 5, 3) := by decide +kernel
theorem dL_law_1017 : decode cL_law 1017 = .ok (.goto (-999), 3) := by decide +kernel
theorem dL_law_1020 : decode cL_law 1020 = .ok (.iconst 1, 1) := by decide +kernel
theorem dL_law_1021 : decode cL_law 1021 = .ok (.ireturn, 1) := by decide +kernel
end
section
theorem qw_0 : Cond.classLink RL 7 RX4 ∈ wsL_law := List.mem_of_getElem? (i := 0) (by decide +kernel)
theorem qw_1 : Cond.instantiable RX4 4 ∈ wsL_law := List.mem_of_getElem? (i := 1) (by decide +kernel)
theorem qw_2 : Cond.initialized RX4 ∈ wsL_law := List.mem_of_getElem? (i := 2) (by decide +kernel)
theorem qw_3 : Cond.classLink RL 10 RX5 ∈ wsL_law := List.mem_of_getElem? (i := 3) (by decide +kernel)
theorem qw_4 : Cond.instantiable RX5 11 ∈ wsL_law := List.mem_of_getElem? (i := 4) (by decide +kernel)
theorem qw_5 : Cond.initialized RX5 ∈ wsL_law := List.mem_of_getElem? (i := 5) (by decide +kernel)
theorem qw_6 : Cond.methodLink RL 9 yX4_init ∈ wsL_law := List.mem_of_getElem? (i := 6) (by decide +kernel)
theorem qw_7 : Cond.instanceMethod yX4_init ∈ wsL_law := List.mem_of_getElem? (i := 7) (by decide +kernel)
theorem qw_8 : Cond.code yX4_init cX4_init 2 none ∈ wsL_law := List.mem_of_getElem? (i := 8) (by decide +kernel)
theorem qw_9 : Cond.methodLink RX4 3 objectInit ∈ wsL_law := List.mem_of_getElem? (i := 9) (by decide +kernel)
theorem qw_10 : Cond.instanceMethod objectInit ∈ wsL_law := List.mem_of_getElem? (i := 10) (by decide +kernel)
theorem qw_11 : Cond.code objectInit ⟨#[0xb1]⟩ 1 none ∈ wsL_law := List.mem_of_getElem? (i := 11) (by decide +kernel)
theorem qw_12 : Cond.classLink RX4 9 RX1 ∈ wsL_law := List.mem_of_getElem? (i := 12) (by decide +kernel)
theorem qw_13 : Cond.instantiable RX1 8 ∈ wsL_law := List.mem_of_getElem? (i := 13) (by decide +kernel)
theorem qw_14 : Cond.initialized RX1 ∈ wsL_law := List.mem_of_getElem? (i := 14) (by decide +kernel)
theorem qw_15 : Cond.classLink RX4 14 RX2 ∈ wsL_law := List.mem_of_getElem? (i := 15) (by decide +kernel)
theorem qw_16 : Cond.instantiable RX2 15 ∈ wsL_law := List.mem_of_getElem? (i := 16) (by decide +kernel)
theorem qw_17 : Cond.initialized RX2 ∈ wsL_law := List.mem_of_getElem? (i := 17) (by decide +kernel)
theorem qw_18 : Cond.fieldLink RX4 19 "ChannelBorrower" "network" "LChannelBorrower$Network;" ∈ wsL_law := List.mem_of_getElem? (i := 18) (by decide +kernel)
theorem qw_19 : Cond.classLink RX4 23 RX0 ∈ wsL_law := List.mem_of_getElem? (i := 19) (by decide +kernel)
theorem qw_20 : Cond.instantiable RX0 3 ∈ wsL_law := List.mem_of_getElem? (i := 20) (by decide +kernel)
theorem qw_21 : Cond.initialized RX0 ∈ wsL_law := List.mem_of_getElem? (i := 21) (by decide +kernel)
theorem qw_22 : Cond.fieldLink RX4 26 "ChannelBorrower" "history" "LChannelBorrower$History;" ∈ wsL_law := List.mem_of_getElem? (i := 22) (by decide +kernel)
theorem qw_23 : Cond.fieldLink RX4 30 "ChannelBorrower" "snapshots" "[LChannelBorrower$Network;" ∈ wsL_law := List.mem_of_getElem? (i := 23) (by decide +kernel)
theorem qw_24 : Cond.classLink RX4 34 RX3 ∈ wsL_law := List.mem_of_getElem? (i := 24) (by decide +kernel)
theorem qw_25 : Cond.instantiable RX3 7 ∈ wsL_law := List.mem_of_getElem? (i := 25) (by decide +kernel)
theorem qw_26 : Cond.initialized RX3 ∈ wsL_law := List.mem_of_getElem? (i := 26) (by decide +kernel)
theorem qw_27 : Cond.fieldLink RX4 37 "ChannelBorrower" "script" "LChannelBorrower$Script;" ∈ wsL_law := List.mem_of_getElem? (i := 27) (by decide +kernel)
theorem qw_28 : Cond.methodLink RX4 11 yX1_init ∈ wsL_law := List.mem_of_getElem? (i := 28) (by decide +kernel)
theorem qw_29 : Cond.instanceMethod yX1_init ∈ wsL_law := List.mem_of_getElem? (i := 29) (by decide +kernel)
theorem qw_30 : Cond.code yX1_init cX1_init 7 none ∈ wsL_law := List.mem_of_getElem? (i := 30) (by decide +kernel)
theorem qw_31 : Cond.methodLink RX1 3 objectInit ∈ wsL_law := List.mem_of_getElem? (i := 31) (by decide +kernel)
theorem qw_32 : Cond.arrayClass .int ∈ wsL_law := List.mem_of_getElem? (i := 32) (by decide +kernel)
theorem qw_33 : Cond.fieldLink RX1 9 "ChannelBorrower$Layout" "row" "[I" ∈ wsL_law := List.mem_of_getElem? (i := 33) (by decide +kernel)
theorem qw_34 : Cond.fieldLink RX1 15 "ChannelBorrower$Layout" "column" "[I" ∈ wsL_law := List.mem_of_getElem? (i := 34) (by decide +kernel)
theorem qw_35 : Cond.fieldLink RX1 18 "ChannelBorrower$Layout" "group" "[I" ∈ wsL_law := List.mem_of_getElem? (i := 35) (by decide +kernel)
theorem qw_36 : Cond.fieldLink RX1 21 "ChannelBorrower$Layout" "nominals" "[I" ∈ wsL_law := List.mem_of_getElem? (i := 36) (by decide +kernel)
theorem qw_37 : Cond.fieldLink RX1 24 "ChannelBorrower$Layout" "nearCells" "[I" ∈ wsL_law := List.mem_of_getElem? (i := 37) (by decide +kernel)
theorem qw_38 : Cond.fieldLink RX1 27 "ChannelBorrower$Layout" "cells" "I" ∈ wsL_law := List.mem_of_getElem? (i := 38) (by decide +kernel)
theorem qw_39 : Cond.fieldLink RX1 31 "ChannelBorrower$Layout" "channels" "I" ∈ wsL_law := List.mem_of_getElem? (i := 39) (by decide +kernel)
theorem qw_40 : Cond.fieldLink RX1 34 "ChannelBorrower$Layout" "groupSize" "I" ∈ wsL_law := List.mem_of_getElem? (i := 40) (by decide +kernel)
theorem qw_41 : Cond.methodLink RX1 37 yX1_placeCells ∈ wsL_law := List.mem_of_getElem? (i := 41) (by decide +kernel)
theorem qw_42 : Cond.instanceMethod yX1_placeCells ∈ wsL_law := List.mem_of_getElem? (i := 42) (by decide +kernel)
theorem qw_43 : Cond.selects RX1 yX1_placeCells yX1_placeCells ∈ wsL_law := List.mem_of_getElem? (i := 43) (by decide +kernel)
theorem qw_44 : Cond.code yX1_placeCells cX1_placeCells 6 none ∈ wsL_law := List.mem_of_getElem? (i := 44) (by decide +kernel)
theorem qw_45 : Cond.methodLink RX1 41 yX1_channelsOfGroup ∈ wsL_law := List.mem_of_getElem? (i := 45) (by decide +kernel)
theorem qw_46 : Cond.instanceMethod yX1_channelsOfGroup ∈ wsL_law := List.mem_of_getElem? (i := 46) (by decide +kernel)
theorem qw_47 : Cond.selects RX1 yX1_channelsOfGroup yX1_channelsOfGroup ∈ wsL_law := List.mem_of_getElem? (i := 47) (by decide +kernel)
theorem qw_48 : Cond.code yX1_channelsOfGroup cX1_channelsOfGroup 5 (some .int) ∈ wsL_law := List.mem_of_getElem? (i := 48) (by decide +kernel)
theorem qw_49 : Cond.methodLink RX1 45 yX1_cellsWithin ∈ wsL_law := List.mem_of_getElem? (i := 49) (by decide +kernel)
theorem qw_50 : Cond.instanceMethod yX1_cellsWithin ∈ wsL_law := List.mem_of_getElem? (i := 50) (by decide +kernel)
theorem qw_51 : Cond.selects RX1 yX1_cellsWithin yX1_cellsWithin ∈ wsL_law := List.mem_of_getElem? (i := 51) (by decide +kernel)
theorem qw_52 : Cond.code yX1_cellsWithin cX1_cellsWithin 5 (some .int) ∈ wsL_law := List.mem_of_getElem? (i := 52) (by decide +kernel)
theorem qw_53 : Cond.methodLink RX1 48 yX1_separation ∈ wsL_law := List.mem_of_getElem? (i := 53) (by decide +kernel)
theorem qw_54 : Cond.instanceMethod yX1_separation ∈ wsL_law := List.mem_of_getElem? (i := 54) (by decide +kernel)
theorem qw_55 : Cond.selects RX1 yX1_separation yX1_separation ∈ wsL_law := List.mem_of_getElem? (i := 55) (by decide +kernel)
theorem qw_56 : Cond.code yX1_separation cX1_separation 5 (some .int) ∈ wsL_law := List.mem_of_getElem? (i := 56) (by decide +kernel)
theorem qw_57 : Cond.methodLink RX1 55 Lib.Math.abs.name ∈ wsL_law := List.mem_of_getElem? (i := 57) (by decide +kernel)
theorem qw_58 : Cond.static Lib.Math.abs.name ∈ wsL_law := List.mem_of_getElem? (i := 58) (by decide +kernel)
theorem qw_59 : Cond.initialized "java/lang/Math" ∈ wsL_law := List.mem_of_getElem? (i := 59) (by decide +kernel)
theorem qw_60 : Cond.code Lib.Math.abs.name Lib.Math.abs.code 1 (some .int) ∈ wsL_law := List.mem_of_getElem? (i := 60) (by decide +kernel)
theorem qw_61 : Cond.methodLink RX1 61 Lib.Math.max.name ∈ wsL_law := List.mem_of_getElem? (i := 61) (by decide +kernel)
theorem qw_62 : Cond.static Lib.Math.max.name ∈ wsL_law := List.mem_of_getElem? (i := 62) (by decide +kernel)
theorem qw_63 : Cond.code Lib.Math.max.name Lib.Math.max.code 2 (some .int) ∈ wsL_law := List.mem_of_getElem? (i := 63) (by decide +kernel)
theorem qw_64 : Cond.methodLink RX1 51 yX1_hasCell ∈ wsL_law := List.mem_of_getElem? (i := 64) (by decide +kernel)
theorem qw_65 : Cond.instanceMethod yX1_hasCell ∈ wsL_law := List.mem_of_getElem? (i := 65) (by decide +kernel)
theorem qw_66 : Cond.selects RX1 yX1_hasCell yX1_hasCell ∈ wsL_law := List.mem_of_getElem? (i := 66) (by decide +kernel)
theorem qw_67 : Cond.code yX1_hasCell cX1_hasCell 2 (some .boolean) ∈ wsL_law := List.mem_of_getElem? (i := 67) (by decide +kernel)
theorem qw_68 : Cond.methodLink RX4 16 yX2_init ∈ wsL_law := List.mem_of_getElem? (i := 68) (by decide +kernel)
theorem qw_69 : Cond.instanceMethod yX2_init ∈ wsL_law := List.mem_of_getElem? (i := 69) (by decide +kernel)
theorem qw_70 : Cond.code yX2_init cX2_init 2 none ∈ wsL_law := List.mem_of_getElem? (i := 70) (by decide +kernel)
theorem qw_71 : Cond.methodLink RX2 3 objectInit ∈ wsL_law := List.mem_of_getElem? (i := 71) (by decide +kernel)
theorem qw_72 : Cond.fieldLink RX2 9 "ChannelBorrower$Network" "returning" "Z" ∈ wsL_law := List.mem_of_getElem? (i := 72) (by decide +kernel)
theorem qw_73 : Cond.fieldLink RX2 15 "ChannelBorrower$Network" "callCell" "[I" ∈ wsL_law := List.mem_of_getElem? (i := 73) (by decide +kernel)
theorem qw_74 : Cond.fieldLink RX2 19 "ChannelBorrower$Network" "callChannel" "[I" ∈ wsL_law := List.mem_of_getElem? (i := 74) (by decide +kernel)
theorem qw_75 : Cond.fieldLink RX2 22 "ChannelBorrower$Network" "callFixed" "[I" ∈ wsL_law := List.mem_of_getElem? (i := 75) (by decide +kernel)
theorem qw_76 : Cond.fieldLink RX2 25 "ChannelBorrower$Network" "used" "[I" ∈ wsL_law := List.mem_of_getElem? (i := 76) (by decide +kernel)
theorem qw_77 : Cond.methodLink RX2 28 yX2_begin ∈ wsL_law := List.mem_of_getElem? (i := 77) (by decide +kernel)
theorem qw_78 : Cond.instanceMethod yX2_begin ∈ wsL_law := List.mem_of_getElem? (i := 78) (by decide +kernel)
theorem qw_79 : Cond.selects RX2 yX2_begin yX2_begin ∈ wsL_law := List.mem_of_getElem? (i := 79) (by decide +kernel)
theorem qw_80 : Cond.code yX2_begin cX2_begin 2 none ∈ wsL_law := List.mem_of_getElem? (i := 80) (by decide +kernel)
theorem qw_81 : Cond.fieldLink RX2 32 "ChannelBorrower$Network" "layout" "LChannelBorrower$Layout;" ∈ wsL_law := List.mem_of_getElem? (i := 81) (by decide +kernel)
theorem qw_82 : Cond.fieldLink RX2 36 "ChannelBorrower$Network" "attempts" "I" ∈ wsL_law := List.mem_of_getElem? (i := 82) (by decide +kernel)
theorem qw_83 : Cond.fieldLink RX2 40 "ChannelBorrower$Network" "blocked" "I" ∈ wsL_law := List.mem_of_getElem? (i := 83) (by decide +kernel)
theorem qw_84 : Cond.fieldLink RX2 43 "ChannelBorrower$Network" "blockedInFixed" "I" ∈ wsL_law := List.mem_of_getElem? (i := 84) (by decide +kernel)
theorem qw_85 : Cond.fieldLink RX2 46 "ChannelBorrower$Network" "dropped" "I" ∈ wsL_law := List.mem_of_getElem? (i := 85) (by decide +kernel)
theorem qw_86 : Cond.fieldLink RX2 49 "ChannelBorrower$Network" "droppedInFixed" "I" ∈ wsL_law := List.mem_of_getElem? (i := 86) (by decide +kernel)
theorem qw_87 : Cond.fieldLink RX2 52 "ChannelBorrower$Network" "borrowings" "I" ∈ wsL_law := List.mem_of_getElem? (i := 87) (by decide +kernel)
theorem qw_88 : Cond.fieldLink RX2 55 "ChannelBorrower$Network" "returnSteps" "I" ∈ wsL_law := List.mem_of_getElem? (i := 88) (by decide +kernel)
theorem qw_89 : Cond.methodLink RX2 58 yJ7_fill_53178 ∈ wsL_law := List.mem_of_getElem? (i := 89) (by decide +kernel)
theorem qw_90 : Cond.static yJ7_fill_53178 ∈ wsL_law := List.mem_of_getElem? (i := 90) (by decide +kernel)
theorem qw_91 : Cond.initialized RJ7 ∈ wsL_law := List.mem_of_getElem? (i := 91) (by decide +kernel)
theorem qw_92 : Cond.code yJ7_fill_53178 cJ7_fill_53178 4 none ∈ wsL_law := List.mem_of_getElem? (i := 92) (by decide +kernel)
theorem qw_93 : Cond.methodLink RX4 25 yX0_init ∈ wsL_law := List.mem_of_getElem? (i := 93) (by decide +kernel)
theorem qw_94 : Cond.instanceMethod yX0_init ∈ wsL_law := List.mem_of_getElem? (i := 94) (by decide +kernel)
theorem qw_95 : Cond.code yX0_init cX0_init 3 none ∈ wsL_law := List.mem_of_getElem? (i := 95) (by decide +kernel)
theorem qw_96 : Cond.methodLink RX0 3 objectInit ∈ wsL_law := List.mem_of_getElem? (i := 96) (by decide +kernel)
theorem qw_97 : Cond.classLink RX0 9 RX2 ∈ wsL_law := List.mem_of_getElem? (i := 97) (by decide +kernel)
theorem qw_98 : Cond.fieldLink RX0 11 "ChannelBorrower$History" "states" "[LChannelBorrower$Network;" ∈ wsL_law := List.mem_of_getElem? (i := 98) (by decide +kernel)
theorem qw_99 : Cond.methodLink RX0 17 yX2_init ∈ wsL_law := List.mem_of_getElem? (i := 99) (by decide +kernel)
theorem qw_100 : Cond.instanceMethod yX3_init ∈ wsL_law := List.mem_of_getElem? (i := 100) (by decide +kernel)
theorem qw_101 : Cond.code yX3_init cX3_init 1 none ∈ wsL_law := List.mem_of_getElem? (i := 101) (by decide +kernel)
theorem qw_102 : Cond.methodLink RX3 3 objectInit ∈ wsL_law := List.mem_of_getElem? (i := 102) (by decide +kernel)
theorem qw_103 : Cond.fieldLink RX3 9 "ChannelBorrower$Script" "letters" "[I" ∈ wsL_law := List.mem_of_getElem? (i := 103) (by decide +kernel)
theorem qw_104 : Cond.fieldLink RX3 15 "ChannelBorrower$Script" "firsts" "[I" ∈ wsL_law := List.mem_of_getElem? (i := 104) (by decide +kernel)
theorem qw_105 : Cond.fieldLink RX3 18 "ChannelBorrower$Script" "seconds" "[I" ∈ wsL_law := List.mem_of_getElem? (i := 105) (by decide +kernel)
theorem qw_106 : Cond.fieldLink RX3 21 "ChannelBorrower$Script" "text" "[I" ∈ wsL_law := List.mem_of_getElem? (i := 106) (by decide +kernel)
theorem qw_107 : Cond.methodLink RL 12 yX5_init ∈ wsL_law := List.mem_of_getElem? (i := 107) (by decide +kernel)
theorem qw_108 : Cond.instanceMethod yX5_init ∈ wsL_law := List.mem_of_getElem? (i := 108) (by decide +kernel)
theorem qw_109 : Cond.code yX5_init cX5_init 1 none ∈ wsL_law := List.mem_of_getElem? (i := 109) (by decide +kernel)
theorem qw_110 : Cond.methodLink RX5 1 objectInit ∈ wsL_law := List.mem_of_getElem? (i := 110) (by decide +kernel)
theorem qw_111 : Cond.fieldLink RX5 7 "ChannelBorrowerModel" "s" "[I" ∈ wsL_law := List.mem_of_getElem? (i := 111) (by decide +kernel)
theorem qw_112 : Cond.fieldLink RX5 13 "ChannelBorrowerModel" "past" "[I" ∈ wsL_law := List.mem_of_getElem? (i := 112) (by decide +kernel)
theorem qw_113 : Cond.fieldLink RX5 16 "ChannelBorrowerModel" "slots" "[I" ∈ wsL_law := List.mem_of_getElem? (i := 113) (by decide +kernel)
theorem qw_114 : Cond.arrayClass .boolean ∈ wsL_law := List.mem_of_getElem? (i := 114) (by decide +kernel)
theorem qw_115 : Cond.fieldLink RX5 19 "ChannelBorrowerModel" "isSaved" "[Z" ∈ wsL_law := List.mem_of_getElem? (i := 115) (by decide +kernel)
theorem qw_116 : Cond.arrayClass .byte ∈ wsL_law := List.mem_of_getElem? (i := 116) (by decide +kernel)
theorem qw_117 : Cond.fieldLink RX5 23 "ChannelBorrowerModel" "text" "[B" ∈ wsL_law := List.mem_of_getElem? (i := 117) (by decide +kernel)
theorem qw_118 : Cond.fieldLink RX5 27 "ChannelBorrowerModel" "isOpen" "[Z" ∈ wsL_law := List.mem_of_getElem? (i := 118) (by decide +kernel)
theorem qw_119 : Cond.methodLink RL 13 yX4_configure ∈ wsL_law := List.mem_of_getElem? (i := 119) (by decide +kernel)
theorem qw_120 : Cond.instanceMethod yX4_configure ∈ wsL_law := List.mem_of_getElem? (i := 120) (by decide +kernel)
theorem qw_121 : Cond.selects RX4 yX4_configure yX4_configure ∈ wsL_law := List.mem_of_getElem? (i := 121) (by decide +kernel)
theorem qw_122 : Cond.code yX4_configure cX4_configure 6 (some .int) ∈ wsL_law := List.mem_of_getElem? (i := 122) (by decide +kernel)
theorem qw_123 : Cond.fieldLink RX4 52 "ChannelBorrower$Network" "layout" "LChannelBorrower$Layout;" ∈ wsL_law := List.mem_of_getElem? (i := 123) (by decide +kernel)
theorem qw_124 : Cond.fieldLink RX4 56 "ChannelBorrower$Layout" "channels" "I" ∈ wsL_law := List.mem_of_getElem? (i := 124) (by decide +kernel)
theorem qw_125 : Cond.methodLink RX4 41 yX4_isBetween ∈ wsL_law := List.mem_of_getElem? (i := 125) (by decide +kernel)
theorem qw_126 : Cond.static yX4_isBetween ∈ wsL_law := List.mem_of_getElem? (i := 126) (by decide +kernel)
theorem qw_127 : Cond.code yX4_isBetween cX4_isBetween 3 (some .boolean) ∈ wsL_law := List.mem_of_getElem? (i := 127) (by decide +kernel)
theorem qw_128 : Cond.methodLink RX4 45 yX0_push ∈ wsL_law := List.mem_of_getElem? (i := 128) (by decide +kernel)
theorem qw_129 : Cond.instanceMethod yX0_push ∈ wsL_law := List.mem_of_getElem? (i := 129) (by decide +kernel)
theorem qw_130 : Cond.selects RX0 yX0_push yX0_push ∈ wsL_law := List.mem_of_getElem? (i := 130) (by decide +kernel)
theorem qw_131 : Cond.code yX0_push cX0_push 3 none ∈ wsL_law := List.mem_of_getElem? (i := 131) (by decide +kernel)
theorem qw_132 : Cond.fieldLink RX0 20 "ChannelBorrower$History" "newest" "I" ∈ wsL_law := List.mem_of_getElem? (i := 132) (by decide +kernel)
theorem qw_133 : Cond.fieldLink RX0 32 "ChannelBorrower$History" "count" "I" ∈ wsL_law := List.mem_of_getElem? (i := 133) (by decide +kernel)
theorem qw_134 : Cond.methodLink RX0 35 Lib.Math.min.name ∈ wsL_law := List.mem_of_getElem? (i := 134) (by decide +kernel)
theorem qw_135 : Cond.static Lib.Math.min.name ∈ wsL_law := List.mem_of_getElem? (i := 135) (by decide +kernel)
theorem qw_136 : Cond.code Lib.Math.min.name Lib.Math.min.code 2 (some .int) ∈ wsL_law := List.mem_of_getElem? (i := 136) (by decide +kernel)
theorem qw_137 : Cond.methodLink RX0 24 yX0_newestState ∈ wsL_law := List.mem_of_getElem? (i := 137) (by decide +kernel)
theorem qw_138 : Cond.instanceMethod yX0_newestState ∈ wsL_law := List.mem_of_getElem? (i := 138) (by decide +kernel)
theorem qw_139 : Cond.selects RX0 yX0_newestState yX0_newestState ∈ wsL_law := List.mem_of_getElem? (i := 139) (by decide +kernel)
theorem qw_140 : Cond.code yX0_newestState cX0_newestState 1 (some (.object "ChannelBorrower$Network")) ∈ wsL_law := List.mem_of_getElem? (i := 140) (by decide +kernel)
theorem qw_141 : Cond.methodLink RX0 28 yX2_copyFrom ∈ wsL_law := List.mem_of_getElem? (i := 141) (by decide +kernel)
theorem qw_142 : Cond.instanceMethod yX2_copyFrom ∈ wsL_law := List.mem_of_getElem? (i := 142) (by decide +kernel)
theorem qw_143 : Cond.selects RX2 yX2_copyFrom yX2_copyFrom ∈ wsL_law := List.mem_of_getElem? (i := 143) (by decide +kernel)
theorem qw_144 : Cond.code yX2_copyFrom cX2_copyFrom 2 none ∈ wsL_law := List.mem_of_getElem? (i := 144) (by decide +kernel)
theorem qw_145 : Cond.fieldLink RX2 64 "ChannelBorrower$Network" "strategy" "I" ∈ wsL_law := List.mem_of_getElem? (i := 145) (by decide +kernel)
theorem qw_146 : Cond.fieldLink RX2 67 "ChannelBorrower$Network" "reserve" "I" ∈ wsL_law := List.mem_of_getElem? (i := 146) (by decide +kernel)
theorem qw_147 : Cond.methodLink RX2 70 arraycopyName ∈ wsL_law := List.mem_of_getElem? (i := 147) (by decide +kernel)
theorem qw_148 : Cond.native arraycopyName ∈ wsL_law := List.mem_of_getElem? (i := 148) (by decide +kernel)
theorem qw_149 : Cond.static arraycopyName ∈ wsL_law := List.mem_of_getElem? (i := 149) (by decide +kernel)
theorem qw_150 : Cond.initialized "java/lang/System" ∈ wsL_law := List.mem_of_getElem? (i := 150) (by decide +kernel)
theorem qw_151 : Cond.methodLink RX4 49 yX2_begin ∈ wsL_law := List.mem_of_getElem? (i := 151) (by decide +kernel)
theorem qw_152 : Cond.methodLink RL 17 yX5_configure ∈ wsL_law := List.mem_of_getElem? (i := 152) (by decide +kernel)
theorem qw_153 : Cond.instanceMethod yX5_configure ∈ wsL_law := List.mem_of_getElem? (i := 153) (by decide +kernel)
theorem qw_154 : Cond.selects RX5 yX5_configure yX5_configure ∈ wsL_law := List.mem_of_getElem? (i := 154) (by decide +kernel)
theorem qw_155 : Cond.code yX5_configure cX5_configure 6 (some .int) ∈ wsL_law := List.mem_of_getElem? (i := 155) (by decide +kernel)
theorem qw_156 : Cond.methodLink RX5 34 yX5_in ∈ wsL_law := List.mem_of_getElem? (i := 156) (by decide +kernel)
theorem qw_157 : Cond.static yX5_in ∈ wsL_law := List.mem_of_getElem? (i := 157) (by decide +kernel)
theorem qw_158 : Cond.code yX5_in cX5_in 3 (some .boolean) ∈ wsL_law := List.mem_of_getElem? (i := 158) (by decide +kernel)
theorem qw_159 : Cond.methodLink RX5 107 yX5_note ∈ wsL_law := List.mem_of_getElem? (i := 159) (by decide +kernel)
theorem qw_160 : Cond.instanceMethod yX5_note ∈ wsL_law := List.mem_of_getElem? (i := 160) (by decide +kernel)
theorem qw_161 : Cond.selects RX5 yX5_note yX5_note ∈ wsL_law := List.mem_of_getElem? (i := 161) (by decide +kernel)
theorem qw_162 : Cond.code yX5_note cX5_note 2 none ∈ wsL_law := List.mem_of_getElem? (i := 162) (by decide +kernel)
theorem qw_163 : Cond.fieldLink RX5 30 "ChannelBorrowerModel" "pasts" "I" ∈ wsL_law := List.mem_of_getElem? (i := 163) (by decide +kernel)
theorem qw_164 : Cond.methodLink RX5 48 yX5_channels ∈ wsL_law := List.mem_of_getElem? (i := 164) (by decide +kernel)
theorem qw_165 : Cond.instanceMethod yX5_channels ∈ wsL_law := List.mem_of_getElem? (i := 165) (by decide +kernel)
theorem qw_166 : Cond.selects RX5 yX5_channels yX5_channels ∈ wsL_law := List.mem_of_getElem? (i := 166) (by decide +kernel)
theorem qw_167 : Cond.code yX5_channels cX5_channels 1 (some .int) ∈ wsL_law := List.mem_of_getElem? (i := 167) (by decide +kernel)
theorem qw_168 : Cond.methodLink RX5 45 yX5_groups ∈ wsL_law := List.mem_of_getElem? (i := 168) (by decide +kernel)
theorem qw_169 : Cond.instanceMethod yX5_groups ∈ wsL_law := List.mem_of_getElem? (i := 169) (by decide +kernel)
theorem qw_170 : Cond.selects RX5 yX5_groups yX5_groups ∈ wsL_law := List.mem_of_getElem? (i := 170) (by decide +kernel)
theorem qw_171 : Cond.code yX5_groups cX5_groups 1 (some .int) ∈ wsL_law := List.mem_of_getElem? (i := 171) (by decide +kernel)
theorem qw_172 : Cond.methodLink RL 18 yX4_setStrategy ∈ wsL_law := List.mem_of_getElem? (i := 172) (by decide +kernel)
theorem qw_173 : Cond.instanceMethod yX4_setStrategy ∈ wsL_law := List.mem_of_getElem? (i := 173) (by decide +kernel)
theorem qw_174 : Cond.selects RX4 yX4_setStrategy yX4_setStrategy ∈ wsL_law := List.mem_of_getElem? (i := 174) (by decide +kernel)
theorem qw_175 : Cond.code yX4_setStrategy cX4_setStrategy 3 (some .int) ∈ wsL_law := List.mem_of_getElem? (i := 175) (by decide +kernel)
theorem qw_176 : Cond.fieldLink RX4 60 "ChannelBorrower$Network" "strategy" "I" ∈ wsL_law := List.mem_of_getElem? (i := 176) (by decide +kernel)
theorem qw_177 : Cond.methodLink RL 22 yX5_setStrategy ∈ wsL_law := List.mem_of_getElem? (i := 177) (by decide +kernel)
theorem qw_178 : Cond.instanceMethod yX5_setStrategy ∈ wsL_law := List.mem_of_getElem? (i := 178) (by decide +kernel)
theorem qw_179 : Cond.selects RX5 yX5_setStrategy yX5_setStrategy ∈ wsL_law := List.mem_of_getElem? (i := 179) (by decide +kernel)
theorem qw_180 : Cond.code yX5_setStrategy cX5_setStrategy 2 (some .int) ∈ wsL_law := List.mem_of_getElem? (i := 180) (by decide +kernel)
theorem qw_181 : Cond.methodLink RX5 135 yX5_change ∈ wsL_law := List.mem_of_getElem? (i := 181) (by decide +kernel)
theorem qw_182 : Cond.instanceMethod yX5_change ∈ wsL_law := List.mem_of_getElem? (i := 182) (by decide +kernel)
theorem qw_183 : Cond.selects RX5 yX5_change yX5_change ∈ wsL_law := List.mem_of_getElem? (i := 183) (by decide +kernel)
theorem qw_184 : Cond.code yX5_change cX5_change 4 (some .int) ∈ wsL_law := List.mem_of_getElem? (i := 184) (by decide +kernel)
theorem qw_185 : Cond.methodLink RL 23 yX4_setReserve ∈ wsL_law := List.mem_of_getElem? (i := 185) (by decide +kernel)
theorem qw_186 : Cond.instanceMethod yX4_setReserve ∈ wsL_law := List.mem_of_getElem? (i := 186) (by decide +kernel)
theorem qw_187 : Cond.selects RX4 yX4_setReserve yX4_setReserve ∈ wsL_law := List.mem_of_getElem? (i := 187) (by decide +kernel)
theorem qw_188 : Cond.code yX4_setReserve cX4_setReserve 3 (some .int) ∈ wsL_law := List.mem_of_getElem? (i := 188) (by decide +kernel)
theorem qw_189 : Cond.fieldLink RX4 63 "ChannelBorrower$Network" "reserve" "I" ∈ wsL_law := List.mem_of_getElem? (i := 189) (by decide +kernel)
theorem qw_190 : Cond.methodLink RL 26 yX5_setReserve ∈ wsL_law := List.mem_of_getElem? (i := 190) (by decide +kernel)
theorem qw_191 : Cond.instanceMethod yX5_setReserve ∈ wsL_law := List.mem_of_getElem? (i := 191) (by decide +kernel)
theorem qw_192 : Cond.selects RX5 yX5_setReserve yX5_setReserve ∈ wsL_law := List.mem_of_getElem? (i := 192) (by decide +kernel)
theorem qw_193 : Cond.code yX5_setReserve cX5_setReserve 2 (some .int) ∈ wsL_law := List.mem_of_getElem? (i := 193) (by decide +kernel)
theorem qw_194 : Cond.methodLink RL 27 yX4_setReturning ∈ wsL_law := List.mem_of_getElem? (i := 194) (by decide +kernel)
theorem qw_195 : Cond.instanceMethod yX4_setReturning ∈ wsL_law := List.mem_of_getElem? (i := 195) (by decide +kernel)
theorem qw_196 : Cond.selects RX4 yX4_setReturning yX4_setReturning ∈ wsL_law := List.mem_of_getElem? (i := 196) (by decide +kernel)
theorem qw_197 : Cond.code yX4_setReturning cX4_setReturning 2 (some .int) ∈ wsL_law := List.mem_of_getElem? (i := 197) (by decide +kernel)
theorem qw_198 : Cond.fieldLink RX4 66 "ChannelBorrower$Network" "returning" "Z" ∈ wsL_law := List.mem_of_getElem? (i := 198) (by decide +kernel)
theorem qw_199 : Cond.methodLink RX4 70 yX2_returnCalls ∈ wsL_law := List.mem_of_getElem? (i := 199) (by decide +kernel)
theorem qw_200 : Cond.instanceMethod yX2_returnCalls ∈ wsL_law := List.mem_of_getElem? (i := 200) (by decide +kernel)
theorem qw_201 : Cond.selects RX2 yX2_returnCalls yX2_returnCalls ∈ wsL_law := List.mem_of_getElem? (i := 201) (by decide +kernel)
theorem qw_202 : Cond.code yX2_returnCalls cX2_returnCalls 5 (some .int) ∈ wsL_law := List.mem_of_getElem? (i := 202) (by decide +kernel)
theorem qw_203 : Cond.methodLink RX2 139 yX2_nextToReturn ∈ wsL_law := List.mem_of_getElem? (i := 203) (by decide +kernel)
theorem qw_204 : Cond.instanceMethod yX2_nextToReturn ∈ wsL_law := List.mem_of_getElem? (i := 204) (by decide +kernel)
theorem qw_205 : Cond.selects RX2 yX2_nextToReturn yX2_nextToReturn ∈ wsL_law := List.mem_of_getElem? (i := 205) (by decide +kernel)
theorem qw_206 : Cond.code yX2_nextToReturn cX2_nextToReturn 5 (some .int) ∈ wsL_law := List.mem_of_getElem? (i := 206) (by decide +kernel)
theorem qw_207 : Cond.methodLink RX2 133 yX2_borrows ∈ wsL_law := List.mem_of_getElem? (i := 207) (by decide +kernel)
theorem qw_208 : Cond.instanceMethod yX2_borrows ∈ wsL_law := List.mem_of_getElem? (i := 208) (by decide +kernel)
theorem qw_209 : Cond.selects RX2 yX2_borrows yX2_borrows ∈ wsL_law := List.mem_of_getElem? (i := 209) (by decide +kernel)
theorem qw_210 : Cond.code yX2_borrows cX2_borrows 3 (some .boolean) ∈ wsL_law := List.mem_of_getElem? (i := 210) (by decide +kernel)
theorem qw_211 : Cond.methodLink RX2 80 yX2_channelAt ∈ wsL_law := List.mem_of_getElem? (i := 211) (by decide +kernel)
theorem qw_212 : Cond.instanceMethod yX2_channelAt ∈ wsL_law := List.mem_of_getElem? (i := 212) (by decide +kernel)
theorem qw_213 : Cond.selects RX2 yX2_channelAt yX2_channelAt ∈ wsL_law := List.mem_of_getElem? (i := 213) (by decide +kernel)
theorem qw_214 : Cond.code yX2_channelAt cX2_channelAt 2 (some .int) ∈ wsL_law := List.mem_of_getElem? (i := 214) (by decide +kernel)
theorem qw_215 : Cond.methodLink RX2 76 yX2_isPresent ∈ wsL_law := List.mem_of_getElem? (i := 215) (by decide +kernel)
theorem qw_216 : Cond.instanceMethod yX2_isPresent ∈ wsL_law := List.mem_of_getElem? (i := 216) (by decide +kernel)
theorem qw_217 : Cond.selects RX2 yX2_isPresent yX2_isPresent ∈ wsL_law := List.mem_of_getElem? (i := 217) (by decide +kernel)
theorem qw_218 : Cond.code yX2_isPresent cX2_isPresent 2 (some .boolean) ∈ wsL_law := List.mem_of_getElem? (i := 218) (by decide +kernel)
theorem qw_219 : Cond.methodLink RX2 84 yX2_cellAt ∈ wsL_law := List.mem_of_getElem? (i := 219) (by decide +kernel)
theorem qw_220 : Cond.instanceMethod yX2_cellAt ∈ wsL_law := List.mem_of_getElem? (i := 220) (by decide +kernel)
theorem qw_221 : Cond.selects RX2 yX2_cellAt yX2_cellAt ∈ wsL_law := List.mem_of_getElem? (i := 221) (by decide +kernel)
theorem qw_222 : Cond.code yX2_cellAt cX2_cellAt 2 (some .int) ∈ wsL_law := List.mem_of_getElem? (i := 222) (by decide +kernel)
theorem qw_223 : Cond.methodLink RX2 87 yX2_isNominal ∈ wsL_law := List.mem_of_getElem? (i := 223) (by decide +kernel)
theorem qw_224 : Cond.instanceMethod yX2_isNominal ∈ wsL_law := List.mem_of_getElem? (i := 224) (by decide +kernel)
theorem qw_225 : Cond.selects RX2 yX2_isNominal yX2_isNominal ∈ wsL_law := List.mem_of_getElem? (i := 225) (by decide +kernel)
theorem qw_226 : Cond.code yX2_isNominal cX2_isNominal 3 (some .boolean) ∈ wsL_law := List.mem_of_getElem? (i := 226) (by decide +kernel)
theorem qw_227 : Cond.methodLink RX2 151 yX1_nominalsOf ∈ wsL_law := List.mem_of_getElem? (i := 227) (by decide +kernel)
theorem qw_228 : Cond.instanceMethod yX1_nominalsOf ∈ wsL_law := List.mem_of_getElem? (i := 228) (by decide +kernel)
theorem qw_229 : Cond.selects RX1 yX1_nominalsOf yX1_nominalsOf ∈ wsL_law := List.mem_of_getElem? (i := 229) (by decide +kernel)
theorem qw_230 : Cond.code yX1_nominalsOf cX1_nominalsOf 2 (some .int) ∈ wsL_law := List.mem_of_getElem? (i := 230) (by decide +kernel)
theorem qw_231 : Cond.static yX4_contains ∈ wsL_law := List.mem_of_getElem? (i := 231) (by decide +kernel)
theorem qw_232 : Cond.code yX4_contains cX4_contains 2 (some .boolean) ∈ wsL_law := List.mem_of_getElem? (i := 232) (by decide +kernel)
theorem qw_233 : Cond.methodLink RX2 142 yX2_availableNominals ∈ wsL_law := List.mem_of_getElem? (i := 233) (by decide +kernel)
theorem qw_234 : Cond.instanceMethod yX2_availableNominals ∈ wsL_law := List.mem_of_getElem? (i := 234) (by decide +kernel)
theorem qw_235 : Cond.selects RX2 yX2_availableNominals yX2_availableNominals ∈ wsL_law := List.mem_of_getElem? (i := 235) (by decide +kernel)
theorem qw_236 : Cond.code yX2_availableNominals cX2_availableNominals 2 (some .int) ∈ wsL_law := List.mem_of_getElem? (i := 236) (by decide +kernel)
theorem qw_237 : Cond.methodLink RX2 166 yX2_availableIn ∈ wsL_law := List.mem_of_getElem? (i := 237) (by decide +kernel)
theorem qw_238 : Cond.instanceMethod yX2_availableIn ∈ wsL_law := List.mem_of_getElem? (i := 238) (by decide +kernel)
theorem qw_239 : Cond.selects RX2 yX2_availableIn yX2_availableIn ∈ wsL_law := List.mem_of_getElem? (i := 239) (by decide +kernel)
theorem qw_240 : Cond.code yX2_availableIn cX2_availableIn 5 (some .int) ∈ wsL_law := List.mem_of_getElem? (i := 240) (by decide +kernel)
theorem qw_241 : Cond.fieldLink RX2 163 "ChannelBorrower$Layout" "channels" "I" ∈ wsL_law := List.mem_of_getElem? (i := 241) (by decide +kernel)
theorem qw_242 : Cond.methodLink RX2 157 yX2_usedIn ∈ wsL_law := List.mem_of_getElem? (i := 242) (by decide +kernel)
theorem qw_243 : Cond.instanceMethod yX2_usedIn ∈ wsL_law := List.mem_of_getElem? (i := 243) (by decide +kernel)
theorem qw_244 : Cond.selects RX2 yX2_usedIn yX2_usedIn ∈ wsL_law := List.mem_of_getElem? (i := 244) (by decide +kernel)
theorem qw_245 : Cond.code yX2_usedIn cX2_usedIn 2 (some .int) ∈ wsL_law := List.mem_of_getElem? (i := 245) (by decide +kernel)
theorem qw_246 : Cond.methodLink RX2 160 yX1_near ∈ wsL_law := List.mem_of_getElem? (i := 246) (by decide +kernel)
theorem qw_247 : Cond.instanceMethod yX1_near ∈ wsL_law := List.mem_of_getElem? (i := 247) (by decide +kernel)
theorem qw_248 : Cond.selects RX1 yX1_near yX1_near ∈ wsL_law := List.mem_of_getElem? (i := 248) (by decide +kernel)
theorem qw_249 : Cond.code yX1_near cX1_near 2 (some .int) ∈ wsL_law := List.mem_of_getElem? (i := 249) (by decide +kernel)
theorem qw_250 : Cond.methodLink RX2 148 yX1_burdenIn ∈ wsL_law := List.mem_of_getElem? (i := 250) (by decide +kernel)
theorem qw_251 : Cond.instanceMethod yX1_burdenIn ∈ wsL_law := List.mem_of_getElem? (i := 251) (by decide +kernel)
theorem qw_252 : Cond.selects RX1 yX1_burdenIn yX1_burdenIn ∈ wsL_law := List.mem_of_getElem? (i := 252) (by decide +kernel)
theorem qw_253 : Cond.code yX1_burdenIn cX1_burdenIn 6 (some .int) ∈ wsL_law := List.mem_of_getElem? (i := 253) (by decide +kernel)
theorem qw_254 : Cond.methodLink RX1 64 yX1_near ∈ wsL_law := List.mem_of_getElem? (i := 254) (by decide +kernel)
theorem qw_255 : Cond.methodLink RX2 145 yX2_lowestOf ∈ wsL_law := List.mem_of_getElem? (i := 255) (by decide +kernel)
theorem qw_256 : Cond.instanceMethod yX2_lowestOf ∈ wsL_law := List.mem_of_getElem? (i := 256) (by decide +kernel)
theorem qw_257 : Cond.selects RX2 yX2_lowestOf yX2_lowestOf ∈ wsL_law := List.mem_of_getElem? (i := 257) (by decide +kernel)
theorem qw_258 : Cond.code yX2_lowestOf cX2_lowestOf 3 (some .int) ∈ wsL_law := List.mem_of_getElem? (i := 258) (by decide +kernel)
theorem qw_259 : Cond.methodLink RX2 114 yX2_release ∈ wsL_law := List.mem_of_getElem? (i := 259) (by decide +kernel)
theorem qw_260 : Cond.instanceMethod yX2_release ∈ wsL_law := List.mem_of_getElem? (i := 260) (by decide +kernel)
theorem qw_261 : Cond.selects RX2 yX2_release yX2_release ∈ wsL_law := List.mem_of_getElem? (i := 261) (by decide +kernel)
theorem qw_262 : Cond.code yX2_release cX2_release 4 none ∈ wsL_law := List.mem_of_getElem? (i := 262) (by decide +kernel)
theorem qw_263 : Cond.methodLink RX2 91 yX1_hasCell ∈ wsL_law := List.mem_of_getElem? (i := 263) (by decide +kernel)
theorem qw_264 : Cond.methodLink RX2 129 yX2_occupy ∈ wsL_law := List.mem_of_getElem? (i := 264) (by decide +kernel)
theorem qw_265 : Cond.instanceMethod yX2_occupy ∈ wsL_law := List.mem_of_getElem? (i := 265) (by decide +kernel)
theorem qw_266 : Cond.selects RX2 yX2_occupy yX2_occupy ∈ wsL_law := List.mem_of_getElem? (i := 266) (by decide +kernel)
theorem qw_267 : Cond.code yX2_occupy cX2_occupy 4 none ∈ wsL_law := List.mem_of_getElem? (i := 267) (by decide +kernel)
theorem qw_268 : Cond.methodLink RL 30 yX5_setReturning ∈ wsL_law := List.mem_of_getElem? (i := 268) (by decide +kernel)
theorem qw_269 : Cond.instanceMethod yX5_setReturning ∈ wsL_law := List.mem_of_getElem? (i := 269) (by decide +kernel)
theorem qw_270 : Cond.selects RX5 yX5_setReturning yX5_setReturning ∈ wsL_law := List.mem_of_getElem? (i := 270) (by decide +kernel)
theorem qw_271 : Cond.code yX5_setReturning cX5_setReturning 2 (some .int) ∈ wsL_law := List.mem_of_getElem? (i := 271) (by decide +kernel)
theorem qw_272 : Cond.methodLink RX5 104 yX5_pass ∈ wsL_law := List.mem_of_getElem? (i := 272) (by decide +kernel)
theorem qw_273 : Cond.instanceMethod yX5_pass ∈ wsL_law := List.mem_of_getElem? (i := 273) (by decide +kernel)
theorem qw_274 : Cond.selects RX5 yX5_pass yX5_pass ∈ wsL_law := List.mem_of_getElem? (i := 274) (by decide +kernel)
theorem qw_275 : Cond.code yX5_pass cX5_pass 7 (some .int) ∈ wsL_law := List.mem_of_getElem? (i := 275) (by decide +kernel)
theorem qw_276 : Cond.methodLink RX5 87 yX5_borrowed ∈ wsL_law := List.mem_of_getElem? (i := 276) (by decide +kernel)
theorem qw_277 : Cond.instanceMethod yX5_borrowed ∈ wsL_law := List.mem_of_getElem? (i := 277) (by decide +kernel)
theorem qw_278 : Cond.selects RX5 yX5_borrowed yX5_borrowed ∈ wsL_law := List.mem_of_getElem? (i := 278) (by decide +kernel)
theorem qw_279 : Cond.code yX5_borrowed cX5_borrowed 2 (some .boolean) ∈ wsL_law := List.mem_of_getElem? (i := 279) (by decide +kernel)
theorem qw_280 : Cond.methodLink RX5 69 yX5_isNominal ∈ wsL_law := List.mem_of_getElem? (i := 280) (by decide +kernel)
theorem qw_281 : Cond.instanceMethod yX5_isNominal ∈ wsL_law := List.mem_of_getElem? (i := 281) (by decide +kernel)
theorem qw_282 : Cond.selects RX5 yX5_isNominal yX5_isNominal ∈ wsL_law := List.mem_of_getElem? (i := 282) (by decide +kernel)
theorem qw_283 : Cond.code yX5_isNominal cX5_isNominal 3 (some .boolean) ∈ wsL_law := List.mem_of_getElem? (i := 283) (by decide +kernel)
theorem qw_284 : Cond.methodLink RX5 55 yX5_group ∈ wsL_law := List.mem_of_getElem? (i := 284) (by decide +kernel)
theorem qw_285 : Cond.instanceMethod yX5_group ∈ wsL_law := List.mem_of_getElem? (i := 285) (by decide +kernel)
theorem qw_286 : Cond.selects RX5 yX5_group yX5_group ∈ wsL_law := List.mem_of_getElem? (i := 286) (by decide +kernel)
theorem qw_287 : Cond.code yX5_group cX5_group 4 (some .int) ∈ wsL_law := List.mem_of_getElem? (i := 287) (by decide +kernel)
theorem qw_288 : Cond.methodLink RX5 78 yX5_nominal ∈ wsL_law := List.mem_of_getElem? (i := 288) (by decide +kernel)
theorem qw_289 : Cond.instanceMethod yX5_nominal ∈ wsL_law := List.mem_of_getElem? (i := 289) (by decide +kernel)
theorem qw_290 : Cond.selects RX5 yX5_nominal yX5_nominal ∈ wsL_law := List.mem_of_getElem? (i := 290) (by decide +kernel)
theorem qw_291 : Cond.code yX5_nominal cX5_nominal 3 (some .int) ∈ wsL_law := List.mem_of_getElem? (i := 291) (by decide +kernel)
theorem qw_292 : Cond.methodLink RX5 72 yX5_available ∈ wsL_law := List.mem_of_getElem? (i := 292) (by decide +kernel)
theorem qw_293 : Cond.instanceMethod yX5_available ∈ wsL_law := List.mem_of_getElem? (i := 293) (by decide +kernel)
theorem qw_294 : Cond.selects RX5 yX5_available yX5_available ∈ wsL_law := List.mem_of_getElem? (i := 294) (by decide +kernel)
theorem qw_295 : Cond.code yX5_available cX5_available 3 (some .boolean) ∈ wsL_law := List.mem_of_getElem? (i := 295) (by decide +kernel)
theorem qw_296 : Cond.methodLink RX5 62 yX5_uses ∈ wsL_law := List.mem_of_getElem? (i := 296) (by decide +kernel)
theorem qw_297 : Cond.instanceMethod yX5_uses ∈ wsL_law := List.mem_of_getElem? (i := 297) (by decide +kernel)
theorem qw_298 : Cond.selects RX5 yX5_uses yX5_uses ∈ wsL_law := List.mem_of_getElem? (i := 298) (by decide +kernel)
theorem qw_299 : Cond.code yX5_uses cX5_uses 5 (some .boolean) ∈ wsL_law := List.mem_of_getElem? (i := 299) (by decide +kernel)
theorem qw_300 : Cond.methodLink RX5 66 yX5_locks ∈ wsL_law := List.mem_of_getElem? (i := 300) (by decide +kernel)
theorem qw_301 : Cond.instanceMethod yX5_locks ∈ wsL_law := List.mem_of_getElem? (i := 301) (by decide +kernel)
theorem qw_302 : Cond.selects RX5 yX5_locks yX5_locks ∈ wsL_law := List.mem_of_getElem? (i := 302) (by decide +kernel)
theorem qw_303 : Cond.code yX5_locks cX5_locks 5 (some .int) ∈ wsL_law := List.mem_of_getElem? (i := 303) (by decide +kernel)
theorem qw_304 : Cond.methodLink RX5 42 yX5_cells ∈ wsL_law := List.mem_of_getElem? (i := 304) (by decide +kernel)
theorem qw_305 : Cond.instanceMethod yX5_cells ∈ wsL_law := List.mem_of_getElem? (i := 305) (by decide +kernel)
theorem qw_306 : Cond.selects RX5 yX5_cells yX5_cells ∈ wsL_law := List.mem_of_getElem? (i := 306) (by decide +kernel)
theorem qw_307 : Cond.code yX5_cells cX5_cells 1 (some .int) ∈ wsL_law := List.mem_of_getElem? (i := 307) (by decide +kernel)
theorem qw_308 : Cond.methodLink RX5 58 yX5_far ∈ wsL_law := List.mem_of_getElem? (i := 308) (by decide +kernel)
theorem qw_309 : Cond.instanceMethod yX5_far ∈ wsL_law := List.mem_of_getElem? (i := 309) (by decide +kernel)
theorem qw_310 : Cond.selects RX5 yX5_far yX5_far ∈ wsL_law := List.mem_of_getElem? (i := 310) (by decide +kernel)
theorem qw_311 : Cond.code yX5_far cX5_far 6 (some .int) ∈ wsL_law := List.mem_of_getElem? (i := 311) (by decide +kernel)
theorem qw_312 : Cond.methodLink RX5 51 yX5_size ∈ wsL_law := List.mem_of_getElem? (i := 312) (by decide +kernel)
theorem qw_313 : Cond.static yX5_size ∈ wsL_law := List.mem_of_getElem? (i := 313) (by decide +kernel)
theorem qw_314 : Cond.code yX5_size cX5_size 1 (some .int) ∈ wsL_law := List.mem_of_getElem? (i := 314) (by decide +kernel)
theorem qw_315 : Cond.methodLink RX5 84 yX5_burdenOf ∈ wsL_law := List.mem_of_getElem? (i := 315) (by decide +kernel)
theorem qw_316 : Cond.instanceMethod yX5_burdenOf ∈ wsL_law := List.mem_of_getElem? (i := 316) (by decide +kernel)
theorem qw_317 : Cond.selects RX5 yX5_burdenOf yX5_burdenOf ∈ wsL_law := List.mem_of_getElem? (i := 317) (by decide +kernel)
theorem qw_318 : Cond.code yX5_burdenOf cX5_burdenOf 5 (some .int) ∈ wsL_law := List.mem_of_getElem? (i := 318) (by decide +kernel)
theorem qw_319 : Cond.methodLink RL 31 yX4_cellCount ∈ wsL_law := List.mem_of_getElem? (i := 319) (by decide +kernel)
theorem qw_320 : Cond.instanceMethod yX4_cellCount ∈ wsL_law := List.mem_of_getElem? (i := 320) (by decide +kernel)
theorem qw_321 : Cond.selects RX4 yX4_cellCount yX4_cellCount ∈ wsL_law := List.mem_of_getElem? (i := 321) (by decide +kernel)
theorem qw_322 : Cond.code yX4_cellCount cX4_cellCount 1 (some .int) ∈ wsL_law := List.mem_of_getElem? (i := 322) (by decide +kernel)
theorem qw_323 : Cond.fieldLink RX4 74 "ChannelBorrower$Layout" "cells" "I" ∈ wsL_law := List.mem_of_getElem? (i := 323) (by decide +kernel)
theorem qw_324 : Cond.methodLink RL 35 yX5_cellCount ∈ wsL_law := List.mem_of_getElem? (i := 324) (by decide +kernel)
theorem qw_325 : Cond.instanceMethod yX5_cellCount ∈ wsL_law := List.mem_of_getElem? (i := 325) (by decide +kernel)
theorem qw_326 : Cond.selects RX5 yX5_cellCount yX5_cellCount ∈ wsL_law := List.mem_of_getElem? (i := 326) (by decide +kernel)
theorem qw_327 : Cond.code yX5_cellCount cX5_cellCount 1 (some .int) ∈ wsL_law := List.mem_of_getElem? (i := 327) (by decide +kernel)
theorem qw_328 : Cond.methodLink RL 36 yX4_channelCount ∈ wsL_law := List.mem_of_getElem? (i := 328) (by decide +kernel)
theorem qw_329 : Cond.instanceMethod yX4_channelCount ∈ wsL_law := List.mem_of_getElem? (i := 329) (by decide +kernel)
theorem qw_330 : Cond.selects RX4 yX4_channelCount yX4_channelCount ∈ wsL_law := List.mem_of_getElem? (i := 330) (by decide +kernel)
theorem qw_331 : Cond.code yX4_channelCount cX4_channelCount 1 (some .int) ∈ wsL_law := List.mem_of_getElem? (i := 331) (by decide +kernel)
theorem qw_332 : Cond.methodLink RL 39 yX5_channelCount ∈ wsL_law := List.mem_of_getElem? (i := 332) (by decide +kernel)
theorem qw_333 : Cond.instanceMethod yX5_channelCount ∈ wsL_law := List.mem_of_getElem? (i := 333) (by decide +kernel)
theorem qw_334 : Cond.selects RX5 yX5_channelCount yX5_channelCount ∈ wsL_law := List.mem_of_getElem? (i := 334) (by decide +kernel)
theorem qw_335 : Cond.code yX5_channelCount cX5_channelCount 1 (some .int) ∈ wsL_law := List.mem_of_getElem? (i := 335) (by decide +kernel)
theorem qw_336 : Cond.methodLink RL 40 yX4_groupOf ∈ wsL_law := List.mem_of_getElem? (i := 336) (by decide +kernel)
theorem qw_337 : Cond.instanceMethod yX4_groupOf ∈ wsL_law := List.mem_of_getElem? (i := 337) (by decide +kernel)
theorem qw_338 : Cond.selects RX4 yX4_groupOf yX4_groupOf ∈ wsL_law := List.mem_of_getElem? (i := 338) (by decide +kernel)
theorem qw_339 : Cond.code yX4_groupOf cX4_groupOf 2 (some .int) ∈ wsL_law := List.mem_of_getElem? (i := 339) (by decide +kernel)
theorem qw_340 : Cond.methodLink RX4 77 yX4_isCell ∈ wsL_law := List.mem_of_getElem? (i := 340) (by decide +kernel)
theorem qw_341 : Cond.instanceMethod yX4_isCell ∈ wsL_law := List.mem_of_getElem? (i := 341) (by decide +kernel)
theorem qw_342 : Cond.selects RX4 yX4_isCell yX4_isCell ∈ wsL_law := List.mem_of_getElem? (i := 342) (by decide +kernel)
theorem qw_343 : Cond.code yX4_isCell cX4_isCell 2 (some .boolean) ∈ wsL_law := List.mem_of_getElem? (i := 343) (by decide +kernel)
theorem qw_344 : Cond.methodLink RX4 223 yX1_hasCell ∈ wsL_law := List.mem_of_getElem? (i := 344) (by decide +kernel)
theorem qw_345 : Cond.methodLink RX4 81 yX1_groupAt ∈ wsL_law := List.mem_of_getElem? (i := 345) (by decide +kernel)
theorem qw_346 : Cond.instanceMethod yX1_groupAt ∈ wsL_law := List.mem_of_getElem? (i := 346) (by decide +kernel)
theorem qw_347 : Cond.selects RX1 yX1_groupAt yX1_groupAt ∈ wsL_law := List.mem_of_getElem? (i := 347) (by decide +kernel)
theorem qw_348 : Cond.code yX1_groupAt cX1_groupAt 2 (some .int) ∈ wsL_law := List.mem_of_getElem? (i := 348) (by decide +kernel)
theorem qw_349 : Cond.methodLink RL 43 yX5_groupOf ∈ wsL_law := List.mem_of_getElem? (i := 349) (by decide +kernel)
theorem qw_350 : Cond.instanceMethod yX5_groupOf ∈ wsL_law := List.mem_of_getElem? (i := 350) (by decide +kernel)
theorem qw_351 : Cond.selects RX5 yX5_groupOf yX5_groupOf ∈ wsL_law := List.mem_of_getElem? (i := 351) (by decide +kernel)
theorem qw_352 : Cond.code yX5_groupOf cX5_groupOf 2 (some .int) ∈ wsL_law := List.mem_of_getElem? (i := 352) (by decide +kernel)
theorem qw_353 : Cond.methodLink RX5 119 yX5_isCell ∈ wsL_law := List.mem_of_getElem? (i := 353) (by decide +kernel)
theorem qw_354 : Cond.instanceMethod yX5_isCell ∈ wsL_law := List.mem_of_getElem? (i := 354) (by decide +kernel)
theorem qw_355 : Cond.selects RX5 yX5_isCell yX5_isCell ∈ wsL_law := List.mem_of_getElem? (i := 355) (by decide +kernel)
theorem qw_356 : Cond.code yX5_isCell cX5_isCell 2 (some .boolean) ∈ wsL_law := List.mem_of_getElem? (i := 356) (by decide +kernel)
theorem qw_357 : Cond.methodLink RL 44 yX4_distance ∈ wsL_law := List.mem_of_getElem? (i := 357) (by decide +kernel)
theorem qw_358 : Cond.instanceMethod yX4_distance ∈ wsL_law := List.mem_of_getElem? (i := 358) (by decide +kernel)
theorem qw_359 : Cond.selects RX4 yX4_distance yX4_distance ∈ wsL_law := List.mem_of_getElem? (i := 359) (by decide +kernel)
theorem qw_360 : Cond.code yX4_distance cX4_distance 3 (some .int) ∈ wsL_law := List.mem_of_getElem? (i := 360) (by decide +kernel)
theorem qw_361 : Cond.methodLink RX4 85 yX1_separation ∈ wsL_law := List.mem_of_getElem? (i := 361) (by decide +kernel)
theorem qw_362 : Cond.methodLink RL 48 yX5_distance ∈ wsL_law := List.mem_of_getElem? (i := 362) (by decide +kernel)
theorem qw_363 : Cond.instanceMethod yX5_distance ∈ wsL_law := List.mem_of_getElem? (i := 363) (by decide +kernel)
theorem qw_364 : Cond.selects RX5 yX5_distance yX5_distance ∈ wsL_law := List.mem_of_getElem? (i := 364) (by decide +kernel)
theorem qw_365 : Cond.code yX5_distance cX5_distance 3 (some .int) ∈ wsL_law := List.mem_of_getElem? (i := 365) (by decide +kernel)
theorem qw_366 : Cond.methodLink RL 49 yX4_startCall ∈ wsL_law := List.mem_of_getElem? (i := 366) (by decide +kernel)
theorem qw_367 : Cond.instanceMethod yX4_startCall ∈ wsL_law := List.mem_of_getElem? (i := 367) (by decide +kernel)
theorem qw_368 : Cond.selects RX4 yX4_startCall yX4_startCall ∈ wsL_law := List.mem_of_getElem? (i := 368) (by decide +kernel)
theorem qw_369 : Cond.code yX4_startCall cX4_startCall 3 (some .int) ∈ wsL_law := List.mem_of_getElem? (i := 369) (by decide +kernel)
theorem qw_370 : Cond.methodLink RX4 89 yX2_startError ∈ wsL_law := List.mem_of_getElem? (i := 370) (by decide +kernel)
theorem qw_371 : Cond.instanceMethod yX2_startError ∈ wsL_law := List.mem_of_getElem? (i := 371) (by decide +kernel)
theorem qw_372 : Cond.selects RX2 yX2_startError yX2_startError ∈ wsL_law := List.mem_of_getElem? (i := 372) (by decide +kernel)
theorem qw_373 : Cond.code yX2_startError cX2_startError 2 (some .int) ∈ wsL_law := List.mem_of_getElem? (i := 373) (by decide +kernel)
theorem qw_374 : Cond.methodLink RX2 96 yX2_lowestFreeNumber ∈ wsL_law := List.mem_of_getElem? (i := 374) (by decide +kernel)
theorem qw_375 : Cond.instanceMethod yX2_lowestFreeNumber ∈ wsL_law := List.mem_of_getElem? (i := 375) (by decide +kernel)
theorem qw_376 : Cond.selects RX2 yX2_lowestFreeNumber yX2_lowestFreeNumber ∈ wsL_law := List.mem_of_getElem? (i := 376) (by decide +kernel)
theorem qw_377 : Cond.code yX2_lowestFreeNumber cX2_lowestFreeNumber 2 (some .int) ∈ wsL_law := List.mem_of_getElem? (i := 377) (by decide +kernel)
theorem qw_378 : Cond.methodLink RX4 92 yX2_start ∈ wsL_law := List.mem_of_getElem? (i := 378) (by decide +kernel)
theorem qw_379 : Cond.instanceMethod yX2_start ∈ wsL_law := List.mem_of_getElem? (i := 379) (by decide +kernel)
theorem qw_380 : Cond.selects RX2 yX2_start yX2_start ∈ wsL_law := List.mem_of_getElem? (i := 380) (by decide +kernel)
theorem qw_381 : Cond.code yX2_start cX2_start 5 (some .int) ∈ wsL_law := List.mem_of_getElem? (i := 381) (by decide +kernel)
theorem qw_382 : Cond.methodLink RX2 100 yX2_chooseChannel ∈ wsL_law := List.mem_of_getElem? (i := 382) (by decide +kernel)
theorem qw_383 : Cond.instanceMethod yX2_chooseChannel ∈ wsL_law := List.mem_of_getElem? (i := 383) (by decide +kernel)
theorem qw_384 : Cond.selects RX2 yX2_chooseChannel yX2_chooseChannel ∈ wsL_law := List.mem_of_getElem? (i := 384) (by decide +kernel)
theorem qw_385 : Cond.code yX2_chooseChannel cX2_chooseChannel 5 (some .int) ∈ wsL_law := List.mem_of_getElem? (i := 385) (by decide +kernel)
theorem qw_386 : Cond.methodLink RX2 169 yX2_bestDonor ∈ wsL_law := List.mem_of_getElem? (i := 386) (by decide +kernel)
theorem qw_387 : Cond.instanceMethod yX2_bestDonor ∈ wsL_law := List.mem_of_getElem? (i := 387) (by decide +kernel)
theorem qw_388 : Cond.selects RX2 yX2_bestDonor yX2_bestDonor ∈ wsL_law := List.mem_of_getElem? (i := 388) (by decide +kernel)
theorem qw_389 : Cond.code yX2_bestDonor cX2_bestDonor 9 (some .int) ∈ wsL_law := List.mem_of_getElem? (i := 389) (by decide +kernel)
theorem qw_390 : Cond.fieldLink RX2 175 "ChannelBorrower$Layout" "cells" "I" ∈ wsL_law := List.mem_of_getElem? (i := 390) (by decide +kernel)
theorem qw_391 : Cond.methodLink RX2 121 yX1_separation ∈ wsL_law := List.mem_of_getElem? (i := 391) (by decide +kernel)
theorem qw_392 : Cond.methodLink RX2 178 yJ6_bitCount_0f7a4 ∈ wsL_law := List.mem_of_getElem? (i := 392) (by decide +kernel)
theorem qw_393 : Cond.static yJ6_bitCount_0f7a4 ∈ wsL_law := List.mem_of_getElem? (i := 393) (by decide +kernel)
theorem qw_394 : Cond.initialized RJ6 ∈ wsL_law := List.mem_of_getElem? (i := 394) (by decide +kernel)
theorem qw_395 : Cond.code yJ6_bitCount_0f7a4 cJ6_bitCount_0f7a4 1 (some .int) ∈ wsL_law := List.mem_of_getElem? (i := 395) (by decide +kernel)
theorem qw_396 : Cond.constant RJ6 265 (1431655765) ∈ wsL_law := List.mem_of_getElem? (i := 396) (by decide +kernel)
theorem qw_397 : Cond.constant RJ6 266 (858993459) ∈ wsL_law := List.mem_of_getElem? (i := 397) (by decide +kernel)
theorem qw_398 : Cond.constant RJ6 267 (252645135) ∈ wsL_law := List.mem_of_getElem? (i := 398) (by decide +kernel)
theorem qw_399 : Cond.methodLink RX2 183 yX2_rankOf ∈ wsL_law := List.mem_of_getElem? (i := 399) (by decide +kernel)
theorem qw_400 : Cond.instanceMethod yX2_rankOf ∈ wsL_law := List.mem_of_getElem? (i := 400) (by decide +kernel)
theorem qw_401 : Cond.selects RX2 yX2_rankOf yX2_rankOf ∈ wsL_law := List.mem_of_getElem? (i := 401) (by decide +kernel)
theorem qw_402 : Cond.code yX2_rankOf cX2_rankOf 4 (some .int) ∈ wsL_law := List.mem_of_getElem? (i := 402) (by decide +kernel)
theorem qw_403 : Cond.methodLink RX2 187 yX1_groupAt ∈ wsL_law := List.mem_of_getElem? (i := 403) (by decide +kernel)
theorem qw_404 : Cond.methodLink RX2 172 yX2_greatestOf ∈ wsL_law := List.mem_of_getElem? (i := 404) (by decide +kernel)
theorem qw_405 : Cond.instanceMethod yX2_greatestOf ∈ wsL_law := List.mem_of_getElem? (i := 405) (by decide +kernel)
theorem qw_406 : Cond.selects RX2 yX2_greatestOf yX2_greatestOf ∈ wsL_law := List.mem_of_getElem? (i := 406) (by decide +kernel)
theorem qw_407 : Cond.code yX2_greatestOf cX2_greatestOf 3 (some .int) ∈ wsL_law := List.mem_of_getElem? (i := 407) (by decide +kernel)
theorem qw_408 : Cond.methodLink RX2 103 yX2_fixedAccepts ∈ wsL_law := List.mem_of_getElem? (i := 408) (by decide +kernel)
theorem qw_409 : Cond.instanceMethod yX2_fixedAccepts ∈ wsL_law := List.mem_of_getElem? (i := 409) (by decide +kernel)
theorem qw_410 : Cond.selects RX2 yX2_fixedAccepts yX2_fixedAccepts ∈ wsL_law := List.mem_of_getElem? (i := 410) (by decide +kernel)
theorem qw_411 : Cond.code yX2_fixedAccepts cX2_fixedAccepts 4 (some .boolean) ∈ wsL_law := List.mem_of_getElem? (i := 411) (by decide +kernel)
theorem qw_412 : Cond.fieldLink RX2 136 "ChannelBorrower$Layout" "groupSize" "I" ∈ wsL_law := List.mem_of_getElem? (i := 412) (by decide +kernel)
theorem qw_413 : Cond.static yX4_asNumber ∈ wsL_law := List.mem_of_getElem? (i := 413) (by decide +kernel)
theorem qw_414 : Cond.code yX4_asNumber cX4_asNumber 1 (some .int) ∈ wsL_law := List.mem_of_getElem? (i := 414) (by decide +kernel)
theorem qw_415 : Cond.methodLink RX2 110 yX2_place ∈ wsL_law := List.mem_of_getElem? (i := 415) (by decide +kernel)
theorem qw_416 : Cond.instanceMethod yX2_place ∈ wsL_law := List.mem_of_getElem? (i := 416) (by decide +kernel)
theorem qw_417 : Cond.selects RX2 yX2_place yX2_place ∈ wsL_law := List.mem_of_getElem? (i := 417) (by decide +kernel)
theorem qw_418 : Cond.code yX2_place cX2_place 4 none ∈ wsL_law := List.mem_of_getElem? (i := 418) (by decide +kernel)
theorem qw_419 : Cond.methodLink RL 52 yX5_startCall ∈ wsL_law := List.mem_of_getElem? (i := 419) (by decide +kernel)
theorem qw_420 : Cond.instanceMethod yX5_startCall ∈ wsL_law := List.mem_of_getElem? (i := 420) (by decide +kernel)
theorem qw_421 : Cond.selects RX5 yX5_startCall yX5_startCall ∈ wsL_law := List.mem_of_getElem? (i := 421) (by decide +kernel)
theorem qw_422 : Cond.code yX5_startCall cX5_startCall 2 (some .int) ∈ wsL_law := List.mem_of_getElem? (i := 422) (by decide +kernel)
theorem qw_423 : Cond.methodLink RX5 125 yX5_isError ∈ wsL_law := List.mem_of_getElem? (i := 423) (by decide +kernel)
theorem qw_424 : Cond.instanceMethod yX5_isError ∈ wsL_law := List.mem_of_getElem? (i := 424) (by decide +kernel)
theorem qw_425 : Cond.selects RX5 yX5_isError yX5_isError ∈ wsL_law := List.mem_of_getElem? (i := 425) (by decide +kernel)
theorem qw_426 : Cond.code yX5_isError cX5_isError 4 (some .boolean) ∈ wsL_law := List.mem_of_getElem? (i := 426) (by decide +kernel)
theorem qw_427 : Cond.methodLink RX5 38 yX5_calls ∈ wsL_law := List.mem_of_getElem? (i := 427) (by decide +kernel)
theorem qw_428 : Cond.instanceMethod yX5_calls ∈ wsL_law := List.mem_of_getElem? (i := 428) (by decide +kernel)
theorem qw_429 : Cond.selects RX5 yX5_calls yX5_calls ∈ wsL_law := List.mem_of_getElem? (i := 429) (by decide +kernel)
theorem qw_430 : Cond.code yX5_calls cX5_calls 3 (some .int) ∈ wsL_law := List.mem_of_getElem? (i := 430) (by decide +kernel)
theorem qw_431 : Cond.methodLink RX5 122 yX5_isCall ∈ wsL_law := List.mem_of_getElem? (i := 431) (by decide +kernel)
theorem qw_432 : Cond.instanceMethod yX5_isCall ∈ wsL_law := List.mem_of_getElem? (i := 432) (by decide +kernel)
theorem qw_433 : Cond.selects RX5 yX5_isCall yX5_isCall ∈ wsL_law := List.mem_of_getElem? (i := 433) (by decide +kernel)
theorem qw_434 : Cond.code yX5_isCall cX5_isCall 2 (some .boolean) ∈ wsL_law := List.mem_of_getElem? (i := 434) (by decide +kernel)
theorem qw_435 : Cond.methodLink RX5 128 yX5_errorOf ∈ wsL_law := List.mem_of_getElem? (i := 435) (by decide +kernel)
theorem qw_436 : Cond.instanceMethod yX5_errorOf ∈ wsL_law := List.mem_of_getElem? (i := 436) (by decide +kernel)
theorem qw_437 : Cond.selects RX5 yX5_errorOf yX5_errorOf ∈ wsL_law := List.mem_of_getElem? (i := 437) (by decide +kernel)
theorem qw_438 : Cond.code yX5_errorOf cX5_errorOf 4 (some .int) ∈ wsL_law := List.mem_of_getElem? (i := 438) (by decide +kernel)
theorem qw_439 : Cond.methodLink RX5 132 yX5_does ∈ wsL_law := List.mem_of_getElem? (i := 439) (by decide +kernel)
theorem qw_440 : Cond.instanceMethod yX5_does ∈ wsL_law := List.mem_of_getElem? (i := 440) (by decide +kernel)
theorem qw_441 : Cond.selects RX5 yX5_does yX5_does ∈ wsL_law := List.mem_of_getElem? (i := 441) (by decide +kernel)
theorem qw_442 : Cond.code yX5_does cX5_does 4 (some .int) ∈ wsL_law := List.mem_of_getElem? (i := 442) (by decide +kernel)
theorem qw_443 : Cond.methodLink RX5 110 yX5_start ∈ wsL_law := List.mem_of_getElem? (i := 443) (by decide +kernel)
theorem qw_444 : Cond.instanceMethod yX5_start ∈ wsL_law := List.mem_of_getElem? (i := 444) (by decide +kernel)
theorem qw_445 : Cond.selects RX5 yX5_start yX5_start ∈ wsL_law := List.mem_of_getElem? (i := 445) (by decide +kernel)
theorem qw_446 : Cond.code yX5_start cX5_start 5 (some .int) ∈ wsL_law := List.mem_of_getElem? (i := 446) (by decide +kernel)
theorem qw_447 : Cond.methodLink RX5 91 yX5_choose ∈ wsL_law := List.mem_of_getElem? (i := 447) (by decide +kernel)
theorem qw_448 : Cond.instanceMethod yX5_choose ∈ wsL_law := List.mem_of_getElem? (i := 448) (by decide +kernel)
theorem qw_449 : Cond.selects RX5 yX5_choose yX5_choose ∈ wsL_law := List.mem_of_getElem? (i := 449) (by decide +kernel)
theorem qw_450 : Cond.code yX5_choose cX5_choose 9 (some .int) ∈ wsL_law := List.mem_of_getElem? (i := 450) (by decide +kernel)
theorem qw_451 : Cond.fieldLink RX5 75 "ChannelBorrowerModel" "donor" "I" ∈ wsL_law := List.mem_of_getElem? (i := 451) (by decide +kernel)
theorem qw_452 : Cond.methodLink RX5 81 yX5_availables ∈ wsL_law := List.mem_of_getElem? (i := 452) (by decide +kernel)
theorem qw_453 : Cond.instanceMethod yX5_availables ∈ wsL_law := List.mem_of_getElem? (i := 453) (by decide +kernel)
theorem qw_454 : Cond.selects RX5 yX5_availables yX5_availables ∈ wsL_law := List.mem_of_getElem? (i := 454) (by decide +kernel)
theorem qw_455 : Cond.code yX5_availables cX5_availables 4 (some .int) ∈ wsL_law := List.mem_of_getElem? (i := 455) (by decide +kernel)
theorem qw_456 : Cond.methodLink RX5 94 yX5_fixedIn ∈ wsL_law := List.mem_of_getElem? (i := 456) (by decide +kernel)
theorem qw_457 : Cond.instanceMethod yX5_fixedIn ∈ wsL_law := List.mem_of_getElem? (i := 457) (by decide +kernel)
theorem qw_458 : Cond.selects RX5 yX5_fixedIn yX5_fixedIn ∈ wsL_law := List.mem_of_getElem? (i := 458) (by decide +kernel)
theorem qw_459 : Cond.code yX5_fixedIn cX5_fixedIn 4 (some .int) ∈ wsL_law := List.mem_of_getElem? (i := 459) (by decide +kernel)
theorem qw_460 : Cond.methodLink RX5 113 yX5_end ∈ wsL_law := List.mem_of_getElem? (i := 460) (by decide +kernel)
theorem qw_461 : Cond.instanceMethod yX5_end ∈ wsL_law := List.mem_of_getElem? (i := 461) (by decide +kernel)
theorem qw_462 : Cond.selects RX5 yX5_end yX5_end ∈ wsL_law := List.mem_of_getElem? (i := 462) (by decide +kernel)
theorem qw_463 : Cond.code yX5_end cX5_end 4 (some .int) ∈ wsL_law := List.mem_of_getElem? (i := 463) (by decide +kernel)
theorem qw_464 : Cond.methodLink RX5 97 yX5_channelNow ∈ wsL_law := List.mem_of_getElem? (i := 464) (by decide +kernel)
theorem qw_465 : Cond.instanceMethod yX5_channelNow ∈ wsL_law := List.mem_of_getElem? (i := 465) (by decide +kernel)
theorem qw_466 : Cond.selects RX5 yX5_channelNow yX5_channelNow ∈ wsL_law := List.mem_of_getElem? (i := 466) (by decide +kernel)
theorem qw_467 : Cond.code yX5_channelNow cX5_channelNow 2 (some .int) ∈ wsL_law := List.mem_of_getElem? (i := 467) (by decide +kernel)
theorem qw_468 : Cond.methodLink RX5 100 yX5_forget ∈ wsL_law := List.mem_of_getElem? (i := 468) (by decide +kernel)
theorem qw_469 : Cond.instanceMethod yX5_forget ∈ wsL_law := List.mem_of_getElem? (i := 469) (by decide +kernel)
theorem qw_470 : Cond.selects RX5 yX5_forget yX5_forget ∈ wsL_law := List.mem_of_getElem? (i := 470) (by decide +kernel)
theorem qw_471 : Cond.code yX5_forget cX5_forget 2 none ∈ wsL_law := List.mem_of_getElem? (i := 471) (by decide +kernel)
theorem qw_472 : Cond.methodLink RX5 116 yX5_hand ∈ wsL_law := List.mem_of_getElem? (i := 472) (by decide +kernel)
theorem qw_473 : Cond.instanceMethod yX5_hand ∈ wsL_law := List.mem_of_getElem? (i := 473) (by decide +kernel)
theorem qw_474 : Cond.selects RX5 yX5_hand yX5_hand ∈ wsL_law := List.mem_of_getElem? (i := 474) (by decide +kernel)
theorem qw_475 : Cond.code yX5_hand cX5_hand 6 (some .int) ∈ wsL_law := List.mem_of_getElem? (i := 475) (by decide +kernel)
theorem qw_476 : Cond.methodLink RL 53 yX4_endCall ∈ wsL_law := List.mem_of_getElem? (i := 476) (by decide +kernel)
theorem qw_477 : Cond.instanceMethod yX4_endCall ∈ wsL_law := List.mem_of_getElem? (i := 477) (by decide +kernel)
theorem qw_478 : Cond.selects RX4 yX4_endCall yX4_endCall ∈ wsL_law := List.mem_of_getElem? (i := 478) (by decide +kernel)
theorem qw_479 : Cond.code yX4_endCall cX4_endCall 2 (some .int) ∈ wsL_law := List.mem_of_getElem? (i := 479) (by decide +kernel)
theorem qw_480 : Cond.methodLink RX4 95 yX2_isPresent ∈ wsL_law := List.mem_of_getElem? (i := 480) (by decide +kernel)
theorem qw_481 : Cond.methodLink RX4 98 yX2_end ∈ wsL_law := List.mem_of_getElem? (i := 481) (by decide +kernel)
theorem qw_482 : Cond.instanceMethod yX2_end ∈ wsL_law := List.mem_of_getElem? (i := 482) (by decide +kernel)
theorem qw_483 : Cond.selects RX2 yX2_end yX2_end ∈ wsL_law := List.mem_of_getElem? (i := 483) (by decide +kernel)
theorem qw_484 : Cond.code yX2_end cX2_end 3 (some .int) ∈ wsL_law := List.mem_of_getElem? (i := 484) (by decide +kernel)
theorem qw_485 : Cond.methodLink RX2 118 yX2_returnCalls ∈ wsL_law := List.mem_of_getElem? (i := 485) (by decide +kernel)
theorem qw_486 : Cond.methodLink RL 56 yX5_endCall ∈ wsL_law := List.mem_of_getElem? (i := 486) (by decide +kernel)
theorem qw_487 : Cond.instanceMethod yX5_endCall ∈ wsL_law := List.mem_of_getElem? (i := 487) (by decide +kernel)
theorem qw_488 : Cond.selects RX5 yX5_endCall yX5_endCall ∈ wsL_law := List.mem_of_getElem? (i := 488) (by decide +kernel)
theorem qw_489 : Cond.code yX5_endCall cX5_endCall 2 (some .int) ∈ wsL_law := List.mem_of_getElem? (i := 489) (by decide +kernel)
theorem qw_490 : Cond.methodLink RL 57 yX4_handOver ∈ wsL_law := List.mem_of_getElem? (i := 490) (by decide +kernel)
theorem qw_491 : Cond.instanceMethod yX4_handOver ∈ wsL_law := List.mem_of_getElem? (i := 491) (by decide +kernel)
theorem qw_492 : Cond.selects RX4 yX4_handOver yX4_handOver ∈ wsL_law := List.mem_of_getElem? (i := 492) (by decide +kernel)
theorem qw_493 : Cond.code yX4_handOver cX4_handOver 4 (some .int) ∈ wsL_law := List.mem_of_getElem? (i := 493) (by decide +kernel)
theorem qw_494 : Cond.methodLink RX4 101 yX2_moveError ∈ wsL_law := List.mem_of_getElem? (i := 494) (by decide +kernel)
theorem qw_495 : Cond.instanceMethod yX2_moveError ∈ wsL_law := List.mem_of_getElem? (i := 495) (by decide +kernel)
theorem qw_496 : Cond.selects RX2 yX2_moveError yX2_moveError ∈ wsL_law := List.mem_of_getElem? (i := 496) (by decide +kernel)
theorem qw_497 : Cond.code yX2_moveError cX2_moveError 4 (some .int) ∈ wsL_law := List.mem_of_getElem? (i := 497) (by decide +kernel)
theorem qw_498 : Cond.methodLink RX4 104 yX2_move ∈ wsL_law := List.mem_of_getElem? (i := 498) (by decide +kernel)
theorem qw_499 : Cond.instanceMethod yX2_move ∈ wsL_law := List.mem_of_getElem? (i := 499) (by decide +kernel)
theorem qw_500 : Cond.selects RX2 yX2_move yX2_move ∈ wsL_law := List.mem_of_getElem? (i := 500) (by decide +kernel)
theorem qw_501 : Cond.code yX2_move cX2_move 4 (some .int) ∈ wsL_law := List.mem_of_getElem? (i := 501) (by decide +kernel)
theorem qw_502 : Cond.methodLink RL 60 yX5_handOver ∈ wsL_law := List.mem_of_getElem? (i := 502) (by decide +kernel)
theorem qw_503 : Cond.instanceMethod yX5_handOver ∈ wsL_law := List.mem_of_getElem? (i := 503) (by decide +kernel)
theorem qw_504 : Cond.selects RX5 yX5_handOver yX5_handOver ∈ wsL_law := List.mem_of_getElem? (i := 504) (by decide +kernel)
theorem qw_505 : Cond.code yX5_handOver cX5_handOver 3 (some .int) ∈ wsL_law := List.mem_of_getElem? (i := 505) (by decide +kernel)
theorem qw_506 : Cond.methodLink RL 61 yX4_cellOf ∈ wsL_law := List.mem_of_getElem? (i := 506) (by decide +kernel)
theorem qw_507 : Cond.instanceMethod yX4_cellOf ∈ wsL_law := List.mem_of_getElem? (i := 507) (by decide +kernel)
theorem qw_508 : Cond.selects RX4 yX4_cellOf yX4_cellOf ∈ wsL_law := List.mem_of_getElem? (i := 508) (by decide +kernel)
theorem qw_509 : Cond.code yX4_cellOf cX4_cellOf 2 (some .int) ∈ wsL_law := List.mem_of_getElem? (i := 509) (by decide +kernel)
theorem qw_510 : Cond.methodLink RX4 107 yX2_cellAt ∈ wsL_law := List.mem_of_getElem? (i := 510) (by decide +kernel)
theorem qw_511 : Cond.methodLink RL 64 yX5_cellOf ∈ wsL_law := List.mem_of_getElem? (i := 511) (by decide +kernel)
theorem qw_512 : Cond.instanceMethod yX5_cellOf ∈ wsL_law := List.mem_of_getElem? (i := 512) (by decide +kernel)
theorem qw_513 : Cond.selects RX5 yX5_cellOf yX5_cellOf ∈ wsL_law := List.mem_of_getElem? (i := 513) (by decide +kernel)
theorem qw_514 : Cond.code yX5_cellOf cX5_cellOf 2 (some .int) ∈ wsL_law := List.mem_of_getElem? (i := 514) (by decide +kernel)
theorem qw_515 : Cond.methodLink RL 65 yX4_channelOf ∈ wsL_law := List.mem_of_getElem? (i := 515) (by decide +kernel)
theorem qw_516 : Cond.instanceMethod yX4_channelOf ∈ wsL_law := List.mem_of_getElem? (i := 516) (by decide +kernel)
theorem qw_517 : Cond.selects RX4 yX4_channelOf yX4_channelOf ∈ wsL_law := List.mem_of_getElem? (i := 517) (by decide +kernel)
theorem qw_518 : Cond.code yX4_channelOf cX4_channelOf 2 (some .int) ∈ wsL_law := List.mem_of_getElem? (i := 518) (by decide +kernel)
theorem qw_519 : Cond.methodLink RX4 110 yX2_channelAt ∈ wsL_law := List.mem_of_getElem? (i := 519) (by decide +kernel)
theorem qw_520 : Cond.methodLink RL 68 yX5_channelOf ∈ wsL_law := List.mem_of_getElem? (i := 520) (by decide +kernel)
theorem qw_521 : Cond.instanceMethod yX5_channelOf ∈ wsL_law := List.mem_of_getElem? (i := 521) (by decide +kernel)
theorem qw_522 : Cond.selects RX5 yX5_channelOf yX5_channelOf ∈ wsL_law := List.mem_of_getElem? (i := 522) (by decide +kernel)
theorem qw_523 : Cond.code yX5_channelOf cX5_channelOf 2 (some .int) ∈ wsL_law := List.mem_of_getElem? (i := 523) (by decide +kernel)
theorem qw_524 : Cond.methodLink RL 69 yX4_isBorrowed ∈ wsL_law := List.mem_of_getElem? (i := 524) (by decide +kernel)
theorem qw_525 : Cond.instanceMethod yX4_isBorrowed ∈ wsL_law := List.mem_of_getElem? (i := 525) (by decide +kernel)
theorem qw_526 : Cond.selects RX4 yX4_isBorrowed yX4_isBorrowed ∈ wsL_law := List.mem_of_getElem? (i := 526) (by decide +kernel)
theorem qw_527 : Cond.code yX4_isBorrowed cX4_isBorrowed 2 (some .int) ∈ wsL_law := List.mem_of_getElem? (i := 527) (by decide +kernel)
theorem qw_528 : Cond.methodLink RX4 113 yX2_borrows ∈ wsL_law := List.mem_of_getElem? (i := 528) (by decide +kernel)
theorem qw_529 : Cond.methodLink RX4 116 yX4_asNumber ∈ wsL_law := List.mem_of_getElem? (i := 529) (by decide +kernel)
theorem qw_530 : Cond.methodLink RL 72 yX5_isBorrowed ∈ wsL_law := List.mem_of_getElem? (i := 530) (by decide +kernel)
theorem qw_531 : Cond.instanceMethod yX5_isBorrowed ∈ wsL_law := List.mem_of_getElem? (i := 531) (by decide +kernel)
theorem qw_532 : Cond.selects RX5 yX5_isBorrowed yX5_isBorrowed ∈ wsL_law := List.mem_of_getElem? (i := 532) (by decide +kernel)
theorem qw_533 : Cond.code yX5_isBorrowed cX5_isBorrowed 2 (some .int) ∈ wsL_law := List.mem_of_getElem? (i := 533) (by decide +kernel)
theorem qw_534 : Cond.methodLink RL 73 yX4_isInFixedScheme ∈ wsL_law := List.mem_of_getElem? (i := 534) (by decide +kernel)
theorem qw_535 : Cond.instanceMethod yX4_isInFixedScheme ∈ wsL_law := List.mem_of_getElem? (i := 535) (by decide +kernel)
theorem qw_536 : Cond.selects RX4 yX4_isInFixedScheme yX4_isInFixedScheme ∈ wsL_law := List.mem_of_getElem? (i := 536) (by decide +kernel)
theorem qw_537 : Cond.code yX4_isInFixedScheme cX4_isInFixedScheme 2 (some .int) ∈ wsL_law := List.mem_of_getElem? (i := 537) (by decide +kernel)
theorem qw_538 : Cond.methodLink RX4 120 yX2_isFixed ∈ wsL_law := List.mem_of_getElem? (i := 538) (by decide +kernel)
theorem qw_539 : Cond.instanceMethod yX2_isFixed ∈ wsL_law := List.mem_of_getElem? (i := 539) (by decide +kernel)
theorem qw_540 : Cond.selects RX2 yX2_isFixed yX2_isFixed ∈ wsL_law := List.mem_of_getElem? (i := 540) (by decide +kernel)
theorem qw_541 : Cond.code yX2_isFixed cX2_isFixed 2 (some .boolean) ∈ wsL_law := List.mem_of_getElem? (i := 541) (by decide +kernel)
theorem qw_542 : Cond.methodLink RL 76 yX5_isInFixedScheme ∈ wsL_law := List.mem_of_getElem? (i := 542) (by decide +kernel)
theorem qw_543 : Cond.instanceMethod yX5_isInFixedScheme ∈ wsL_law := List.mem_of_getElem? (i := 543) (by decide +kernel)
theorem qw_544 : Cond.selects RX5 yX5_isInFixedScheme yX5_isInFixedScheme ∈ wsL_law := List.mem_of_getElem? (i := 544) (by decide +kernel)
theorem qw_545 : Cond.code yX5_isInFixedScheme cX5_isInFixedScheme 2 (some .int) ∈ wsL_law := List.mem_of_getElem? (i := 545) (by decide +kernel)
theorem qw_546 : Cond.methodLink RL 77 yX4_isAvailable ∈ wsL_law := List.mem_of_getElem? (i := 546) (by decide +kernel)
theorem qw_547 : Cond.instanceMethod yX4_isAvailable ∈ wsL_law := List.mem_of_getElem? (i := 547) (by decide +kernel)
theorem qw_548 : Cond.selects RX4 yX4_isAvailable yX4_isAvailable ∈ wsL_law := List.mem_of_getElem? (i := 548) (by decide +kernel)
theorem qw_549 : Cond.code yX4_isAvailable cX4_isAvailable 3 (some .int) ∈ wsL_law := List.mem_of_getElem? (i := 549) (by decide +kernel)
theorem qw_550 : Cond.methodLink RX4 123 yX4_isChannel ∈ wsL_law := List.mem_of_getElem? (i := 550) (by decide +kernel)
theorem qw_551 : Cond.instanceMethod yX4_isChannel ∈ wsL_law := List.mem_of_getElem? (i := 551) (by decide +kernel)
theorem qw_552 : Cond.selects RX4 yX4_isChannel yX4_isChannel ∈ wsL_law := List.mem_of_getElem? (i := 552) (by decide +kernel)
theorem qw_553 : Cond.code yX4_isChannel cX4_isChannel 2 (some .boolean) ∈ wsL_law := List.mem_of_getElem? (i := 553) (by decide +kernel)
theorem qw_554 : Cond.methodLink RX4 126 yX2_availableIn ∈ wsL_law := List.mem_of_getElem? (i := 554) (by decide +kernel)
theorem qw_555 : Cond.methodLink RX4 129 yX4_contains ∈ wsL_law := List.mem_of_getElem? (i := 555) (by decide +kernel)
theorem qw_556 : Cond.methodLink RL 80 yX5_isAvailable ∈ wsL_law := List.mem_of_getElem? (i := 556) (by decide +kernel)
theorem qw_557 : Cond.instanceMethod yX5_isAvailable ∈ wsL_law := List.mem_of_getElem? (i := 557) (by decide +kernel)
theorem qw_558 : Cond.selects RX5 yX5_isAvailable yX5_isAvailable ∈ wsL_law := List.mem_of_getElem? (i := 558) (by decide +kernel)
theorem qw_559 : Cond.code yX5_isAvailable cX5_isAvailable 3 (some .int) ∈ wsL_law := List.mem_of_getElem? (i := 559) (by decide +kernel)
theorem qw_560 : Cond.methodLink RX5 138 yX5_isChannel ∈ wsL_law := List.mem_of_getElem? (i := 560) (by decide +kernel)
theorem qw_561 : Cond.instanceMethod yX5_isChannel ∈ wsL_law := List.mem_of_getElem? (i := 561) (by decide +kernel)
theorem qw_562 : Cond.selects RX5 yX5_isChannel yX5_isChannel ∈ wsL_law := List.mem_of_getElem? (i := 562) (by decide +kernel)
theorem qw_563 : Cond.code yX5_isChannel cX5_isChannel 2 (some .boolean) ∈ wsL_law := List.mem_of_getElem? (i := 563) (by decide +kernel)
theorem qw_564 : Cond.methodLink RL 81 yX4_lockCount ∈ wsL_law := List.mem_of_getElem? (i := 564) (by decide +kernel)
theorem qw_565 : Cond.instanceMethod yX4_lockCount ∈ wsL_law := List.mem_of_getElem? (i := 565) (by decide +kernel)
theorem qw_566 : Cond.selects RX4 yX4_lockCount yX4_lockCount ∈ wsL_law := List.mem_of_getElem? (i := 566) (by decide +kernel)
theorem qw_567 : Cond.code yX4_lockCount cX4_lockCount 3 (some .int) ∈ wsL_law := List.mem_of_getElem? (i := 567) (by decide +kernel)
theorem qw_568 : Cond.methodLink RX4 133 yX2_lockers ∈ wsL_law := List.mem_of_getElem? (i := 568) (by decide +kernel)
theorem qw_569 : Cond.instanceMethod yX2_lockers ∈ wsL_law := List.mem_of_getElem? (i := 569) (by decide +kernel)
theorem qw_570 : Cond.selects RX2 yX2_lockers yX2_lockers ∈ wsL_law := List.mem_of_getElem? (i := 570) (by decide +kernel)
theorem qw_571 : Cond.code yX2_lockers cX2_lockers 6 (some .int) ∈ wsL_law := List.mem_of_getElem? (i := 571) (by decide +kernel)
theorem qw_572 : Cond.methodLink RL 84 yX5_lockCount ∈ wsL_law := List.mem_of_getElem? (i := 572) (by decide +kernel)
theorem qw_573 : Cond.instanceMethod yX5_lockCount ∈ wsL_law := List.mem_of_getElem? (i := 573) (by decide +kernel)
theorem qw_574 : Cond.selects RX5 yX5_lockCount yX5_lockCount ∈ wsL_law := List.mem_of_getElem? (i := 574) (by decide +kernel)
theorem qw_575 : Cond.code yX5_lockCount cX5_lockCount 3 (some .int) ∈ wsL_law := List.mem_of_getElem? (i := 575) (by decide +kernel)
theorem qw_576 : Cond.methodLink RL 85 yX4_burden ∈ wsL_law := List.mem_of_getElem? (i := 576) (by decide +kernel)
theorem qw_577 : Cond.instanceMethod yX4_burden ∈ wsL_law := List.mem_of_getElem? (i := 577) (by decide +kernel)
theorem qw_578 : Cond.selects RX4 yX4_burden yX4_burden ∈ wsL_law := List.mem_of_getElem? (i := 578) (by decide +kernel)
theorem qw_579 : Cond.code yX4_burden cX4_burden 3 (some .int) ∈ wsL_law := List.mem_of_getElem? (i := 579) (by decide +kernel)
theorem qw_580 : Cond.methodLink RX4 136 yX1_burdenIn ∈ wsL_law := List.mem_of_getElem? (i := 580) (by decide +kernel)
theorem qw_581 : Cond.methodLink RL 88 yX5_burden ∈ wsL_law := List.mem_of_getElem? (i := 581) (by decide +kernel)
theorem qw_582 : Cond.instanceMethod yX5_burden ∈ wsL_law := List.mem_of_getElem? (i := 582) (by decide +kernel)
theorem qw_583 : Cond.selects RX5 yX5_burden yX5_burden ∈ wsL_law := List.mem_of_getElem? (i := 583) (by decide +kernel)
theorem qw_584 : Cond.code yX5_burden cX5_burden 3 (some .int) ∈ wsL_law := List.mem_of_getElem? (i := 584) (by decide +kernel)
theorem qw_585 : Cond.methodLink RL 89 yX4_availableCount ∈ wsL_law := List.mem_of_getElem? (i := 585) (by decide +kernel)
theorem qw_586 : Cond.instanceMethod yX4_availableCount ∈ wsL_law := List.mem_of_getElem? (i := 586) (by decide +kernel)
theorem qw_587 : Cond.selects RX4 yX4_availableCount yX4_availableCount ∈ wsL_law := List.mem_of_getElem? (i := 587) (by decide +kernel)
theorem qw_588 : Cond.code yX4_availableCount cX4_availableCount 2 (some .int) ∈ wsL_law := List.mem_of_getElem? (i := 588) (by decide +kernel)
theorem qw_589 : Cond.methodLink RX4 139 yX2_availableNominals ∈ wsL_law := List.mem_of_getElem? (i := 589) (by decide +kernel)
theorem qw_590 : Cond.methodLink RX4 142 yJ6_bitCount_0f7a4 ∈ wsL_law := List.mem_of_getElem? (i := 590) (by decide +kernel)
theorem qw_591 : Cond.methodLink RL 92 yX5_availableCount ∈ wsL_law := List.mem_of_getElem? (i := 591) (by decide +kernel)
theorem qw_592 : Cond.instanceMethod yX5_availableCount ∈ wsL_law := List.mem_of_getElem? (i := 592) (by decide +kernel)
theorem qw_593 : Cond.selects RX5 yX5_availableCount yX5_availableCount ∈ wsL_law := List.mem_of_getElem? (i := 593) (by decide +kernel)
theorem qw_594 : Cond.code yX5_availableCount cX5_availableCount 2 (some .int) ∈ wsL_law := List.mem_of_getElem? (i := 594) (by decide +kernel)
theorem qw_595 : Cond.methodLink RL 93 yX4_usedCount ∈ wsL_law := List.mem_of_getElem? (i := 595) (by decide +kernel)
theorem qw_596 : Cond.instanceMethod yX4_usedCount ∈ wsL_law := List.mem_of_getElem? (i := 596) (by decide +kernel)
theorem qw_597 : Cond.selects RX4 yX4_usedCount yX4_usedCount ∈ wsL_law := List.mem_of_getElem? (i := 597) (by decide +kernel)
theorem qw_598 : Cond.code yX4_usedCount cX4_usedCount 2 (some .int) ∈ wsL_law := List.mem_of_getElem? (i := 598) (by decide +kernel)
theorem qw_599 : Cond.methodLink RX4 147 yX2_usedIn ∈ wsL_law := List.mem_of_getElem? (i := 599) (by decide +kernel)
theorem qw_600 : Cond.methodLink RL 96 yX5_usedCount ∈ wsL_law := List.mem_of_getElem? (i := 600) (by decide +kernel)
theorem qw_601 : Cond.instanceMethod yX5_usedCount ∈ wsL_law := List.mem_of_getElem? (i := 601) (by decide +kernel)
theorem qw_602 : Cond.selects RX5 yX5_usedCount yX5_usedCount ∈ wsL_law := List.mem_of_getElem? (i := 602) (by decide +kernel)
theorem qw_603 : Cond.code yX5_usedCount cX5_usedCount 4 (some .int) ∈ wsL_law := List.mem_of_getElem? (i := 603) (by decide +kernel)
theorem qw_604 : Cond.methodLink RL 97 yX4_lockedCount ∈ wsL_law := List.mem_of_getElem? (i := 604) (by decide +kernel)
theorem qw_605 : Cond.instanceMethod yX4_lockedCount ∈ wsL_law := List.mem_of_getElem? (i := 605) (by decide +kernel)
theorem qw_606 : Cond.selects RX4 yX4_lockedCount yX4_lockedCount ∈ wsL_law := List.mem_of_getElem? (i := 606) (by decide +kernel)
theorem qw_607 : Cond.code yX4_lockedCount cX4_lockedCount 3 (some .int) ∈ wsL_law := List.mem_of_getElem? (i := 607) (by decide +kernel)
theorem qw_608 : Cond.methodLink RX4 150 yX1_nominalsOf ∈ wsL_law := List.mem_of_getElem? (i := 608) (by decide +kernel)
theorem qw_609 : Cond.methodLink RL 100 yX5_lockedCount ∈ wsL_law := List.mem_of_getElem? (i := 609) (by decide +kernel)
theorem qw_610 : Cond.instanceMethod yX5_lockedCount ∈ wsL_law := List.mem_of_getElem? (i := 610) (by decide +kernel)
theorem qw_611 : Cond.selects RX5 yX5_lockedCount yX5_lockedCount ∈ wsL_law := List.mem_of_getElem? (i := 611) (by decide +kernel)
theorem qw_612 : Cond.code yX5_lockedCount cX5_lockedCount 4 (some .int) ∈ wsL_law := List.mem_of_getElem? (i := 612) (by decide +kernel)
theorem qw_613 : Cond.methodLink RL 101 yX4_nextChannel ∈ wsL_law := List.mem_of_getElem? (i := 613) (by decide +kernel)
theorem qw_614 : Cond.instanceMethod yX4_nextChannel ∈ wsL_law := List.mem_of_getElem? (i := 614) (by decide +kernel)
theorem qw_615 : Cond.selects RX4 yX4_nextChannel yX4_nextChannel ∈ wsL_law := List.mem_of_getElem? (i := 615) (by decide +kernel)
theorem qw_616 : Cond.code yX4_nextChannel cX4_nextChannel 2 (some .int) ∈ wsL_law := List.mem_of_getElem? (i := 616) (by decide +kernel)
theorem qw_617 : Cond.methodLink RX4 153 yX2_chooseChannel ∈ wsL_law := List.mem_of_getElem? (i := 617) (by decide +kernel)
theorem qw_618 : Cond.methodLink RL 104 yX5_nextChannel ∈ wsL_law := List.mem_of_getElem? (i := 618) (by decide +kernel)
theorem qw_619 : Cond.instanceMethod yX5_nextChannel ∈ wsL_law := List.mem_of_getElem? (i := 619) (by decide +kernel)
theorem qw_620 : Cond.selects RX5 yX5_nextChannel yX5_nextChannel ∈ wsL_law := List.mem_of_getElem? (i := 620) (by decide +kernel)
theorem qw_621 : Cond.code yX5_nextChannel cX5_nextChannel 2 (some .int) ∈ wsL_law := List.mem_of_getElem? (i := 621) (by decide +kernel)
theorem qw_622 : Cond.methodLink RL 105 yX4_nextDonor ∈ wsL_law := List.mem_of_getElem? (i := 622) (by decide +kernel)
theorem qw_623 : Cond.instanceMethod yX4_nextDonor ∈ wsL_law := List.mem_of_getElem? (i := 623) (by decide +kernel)
theorem qw_624 : Cond.selects RX4 yX4_nextDonor yX4_nextDonor ∈ wsL_law := List.mem_of_getElem? (i := 624) (by decide +kernel)
theorem qw_625 : Cond.code yX4_nextDonor cX4_nextDonor 2 (some .int) ∈ wsL_law := List.mem_of_getElem? (i := 625) (by decide +kernel)
theorem qw_626 : Cond.methodLink RX4 156 yX2_chooseDonor ∈ wsL_law := List.mem_of_getElem? (i := 626) (by decide +kernel)
theorem qw_627 : Cond.instanceMethod yX2_chooseDonor ∈ wsL_law := List.mem_of_getElem? (i := 627) (by decide +kernel)
theorem qw_628 : Cond.selects RX2 yX2_chooseDonor yX2_chooseDonor ∈ wsL_law := List.mem_of_getElem? (i := 628) (by decide +kernel)
theorem qw_629 : Cond.code yX2_chooseDonor cX2_chooseDonor 4 (some .int) ∈ wsL_law := List.mem_of_getElem? (i := 629) (by decide +kernel)
theorem qw_630 : Cond.methodLink RL 108 yX5_nextDonor ∈ wsL_law := List.mem_of_getElem? (i := 630) (by decide +kernel)
theorem qw_631 : Cond.instanceMethod yX5_nextDonor ∈ wsL_law := List.mem_of_getElem? (i := 631) (by decide +kernel)
theorem qw_632 : Cond.selects RX5 yX5_nextDonor yX5_nextDonor ∈ wsL_law := List.mem_of_getElem? (i := 632) (by decide +kernel)
theorem qw_633 : Cond.code yX5_nextDonor cX5_nextDonor 3 (some .int) ∈ wsL_law := List.mem_of_getElem? (i := 633) (by decide +kernel)
theorem qw_634 : Cond.methodLink RL 109 yX4_blockingCells ∈ wsL_law := List.mem_of_getElem? (i := 634) (by decide +kernel)
theorem qw_635 : Cond.instanceMethod yX4_blockingCells ∈ wsL_law := List.mem_of_getElem? (i := 635) (by decide +kernel)
theorem qw_636 : Cond.selects RX4 yX4_blockingCells yX4_blockingCells ∈ wsL_law := List.mem_of_getElem? (i := 636) (by decide +kernel)
theorem qw_637 : Cond.code yX4_blockingCells cX4_blockingCells 3 (some .int) ∈ wsL_law := List.mem_of_getElem? (i := 637) (by decide +kernel)
theorem qw_638 : Cond.methodLink RL 112 yX5_blockingCells ∈ wsL_law := List.mem_of_getElem? (i := 638) (by decide +kernel)
theorem qw_639 : Cond.instanceMethod yX5_blockingCells ∈ wsL_law := List.mem_of_getElem? (i := 639) (by decide +kernel)
theorem qw_640 : Cond.selects RX5 yX5_blockingCells yX5_blockingCells ∈ wsL_law := List.mem_of_getElem? (i := 640) (by decide +kernel)
theorem qw_641 : Cond.code yX5_blockingCells cX5_blockingCells 3 (some .int) ∈ wsL_law := List.mem_of_getElem? (i := 641) (by decide +kernel)
theorem qw_642 : Cond.methodLink RL 113 yX4_callCount ∈ wsL_law := List.mem_of_getElem? (i := 642) (by decide +kernel)
theorem qw_643 : Cond.instanceMethod yX4_callCount ∈ wsL_law := List.mem_of_getElem? (i := 643) (by decide +kernel)
theorem qw_644 : Cond.selects RX4 yX4_callCount yX4_callCount ∈ wsL_law := List.mem_of_getElem? (i := 644) (by decide +kernel)
theorem qw_645 : Cond.code yX4_callCount cX4_callCount 1 (some .int) ∈ wsL_law := List.mem_of_getElem? (i := 645) (by decide +kernel)
theorem qw_646 : Cond.methodLink RX4 159 yX2_presentCalls ∈ wsL_law := List.mem_of_getElem? (i := 646) (by decide +kernel)
theorem qw_647 : Cond.instanceMethod yX2_presentCalls ∈ wsL_law := List.mem_of_getElem? (i := 647) (by decide +kernel)
theorem qw_648 : Cond.selects RX2 yX2_presentCalls yX2_presentCalls ∈ wsL_law := List.mem_of_getElem? (i := 648) (by decide +kernel)
theorem qw_649 : Cond.code yX2_presentCalls cX2_presentCalls 3 (some .int) ∈ wsL_law := List.mem_of_getElem? (i := 649) (by decide +kernel)
theorem qw_650 : Cond.methodLink RL 116 yX5_callCount ∈ wsL_law := List.mem_of_getElem? (i := 650) (by decide +kernel)
theorem qw_651 : Cond.instanceMethod yX5_callCount ∈ wsL_law := List.mem_of_getElem? (i := 651) (by decide +kernel)
theorem qw_652 : Cond.selects RX5 yX5_callCount yX5_callCount ∈ wsL_law := List.mem_of_getElem? (i := 652) (by decide +kernel)
theorem qw_653 : Cond.code yX5_callCount cX5_callCount 1 (some .int) ∈ wsL_law := List.mem_of_getElem? (i := 653) (by decide +kernel)
theorem qw_654 : Cond.methodLink RL 117 yX4_attempts ∈ wsL_law := List.mem_of_getElem? (i := 654) (by decide +kernel)
theorem qw_655 : Cond.instanceMethod yX4_attempts ∈ wsL_law := List.mem_of_getElem? (i := 655) (by decide +kernel)
theorem qw_656 : Cond.selects RX4 yX4_attempts yX4_attempts ∈ wsL_law := List.mem_of_getElem? (i := 656) (by decide +kernel)
theorem qw_657 : Cond.code yX4_attempts cX4_attempts 1 (some .int) ∈ wsL_law := List.mem_of_getElem? (i := 657) (by decide +kernel)
theorem qw_658 : Cond.fieldLink RX4 162 "ChannelBorrower$Network" "attempts" "I" ∈ wsL_law := List.mem_of_getElem? (i := 658) (by decide +kernel)
theorem qw_659 : Cond.methodLink RL 120 yX5_attempts ∈ wsL_law := List.mem_of_getElem? (i := 659) (by decide +kernel)
theorem qw_660 : Cond.instanceMethod yX5_attempts ∈ wsL_law := List.mem_of_getElem? (i := 660) (by decide +kernel)
theorem qw_661 : Cond.selects RX5 yX5_attempts yX5_attempts ∈ wsL_law := List.mem_of_getElem? (i := 661) (by decide +kernel)
theorem qw_662 : Cond.code yX5_attempts cX5_attempts 1 (some .int) ∈ wsL_law := List.mem_of_getElem? (i := 662) (by decide +kernel)
theorem qw_663 : Cond.methodLink RL 121 yX4_blocked ∈ wsL_law := List.mem_of_getElem? (i := 663) (by decide +kernel)
theorem qw_664 : Cond.instanceMethod yX4_blocked ∈ wsL_law := List.mem_of_getElem? (i := 664) (by decide +kernel)
theorem qw_665 : Cond.selects RX4 yX4_blocked yX4_blocked ∈ wsL_law := List.mem_of_getElem? (i := 665) (by decide +kernel)
theorem qw_666 : Cond.code yX4_blocked cX4_blocked 1 (some .int) ∈ wsL_law := List.mem_of_getElem? (i := 666) (by decide +kernel)
theorem qw_667 : Cond.fieldLink RX4 165 "ChannelBorrower$Network" "blocked" "I" ∈ wsL_law := List.mem_of_getElem? (i := 667) (by decide +kernel)
theorem qw_668 : Cond.methodLink RL 124 yX5_blocked ∈ wsL_law := List.mem_of_getElem? (i := 668) (by decide +kernel)
theorem qw_669 : Cond.instanceMethod yX5_blocked ∈ wsL_law := List.mem_of_getElem? (i := 669) (by decide +kernel)
theorem qw_670 : Cond.selects RX5 yX5_blocked yX5_blocked ∈ wsL_law := List.mem_of_getElem? (i := 670) (by decide +kernel)
theorem qw_671 : Cond.code yX5_blocked cX5_blocked 1 (some .int) ∈ wsL_law := List.mem_of_getElem? (i := 671) (by decide +kernel)
theorem qw_672 : Cond.methodLink RL 125 yX4_blockedInFixedScheme ∈ wsL_law := List.mem_of_getElem? (i := 672) (by decide +kernel)
theorem qw_673 : Cond.instanceMethod yX4_blockedInFixedScheme ∈ wsL_law := List.mem_of_getElem? (i := 673) (by decide +kernel)
theorem qw_674 : Cond.selects RX4 yX4_blockedInFixedScheme yX4_blockedInFixedScheme ∈ wsL_law := List.mem_of_getElem? (i := 674) (by decide +kernel)
theorem qw_675 : Cond.code yX4_blockedInFixedScheme cX4_blockedInFixedScheme 1 (some .int) ∈ wsL_law := List.mem_of_getElem? (i := 675) (by decide +kernel)
theorem qw_676 : Cond.fieldLink RX4 168 "ChannelBorrower$Network" "blockedInFixed" "I" ∈ wsL_law := List.mem_of_getElem? (i := 676) (by decide +kernel)
theorem qw_677 : Cond.methodLink RL 128 yX5_blockedInFixedScheme ∈ wsL_law := List.mem_of_getElem? (i := 677) (by decide +kernel)
theorem qw_678 : Cond.instanceMethod yX5_blockedInFixedScheme ∈ wsL_law := List.mem_of_getElem? (i := 678) (by decide +kernel)
theorem qw_679 : Cond.selects RX5 yX5_blockedInFixedScheme yX5_blockedInFixedScheme ∈ wsL_law := List.mem_of_getElem? (i := 679) (by decide +kernel)
theorem qw_680 : Cond.code yX5_blockedInFixedScheme cX5_blockedInFixedScheme 1 (some .int) ∈ wsL_law := List.mem_of_getElem? (i := 680) (by decide +kernel)
theorem qw_681 : Cond.methodLink RL 129 yX4_dropped ∈ wsL_law := List.mem_of_getElem? (i := 681) (by decide +kernel)
theorem qw_682 : Cond.instanceMethod yX4_dropped ∈ wsL_law := List.mem_of_getElem? (i := 682) (by decide +kernel)
theorem qw_683 : Cond.selects RX4 yX4_dropped yX4_dropped ∈ wsL_law := List.mem_of_getElem? (i := 683) (by decide +kernel)
theorem qw_684 : Cond.code yX4_dropped cX4_dropped 1 (some .int) ∈ wsL_law := List.mem_of_getElem? (i := 684) (by decide +kernel)
theorem qw_685 : Cond.fieldLink RX4 171 "ChannelBorrower$Network" "dropped" "I" ∈ wsL_law := List.mem_of_getElem? (i := 685) (by decide +kernel)
theorem qw_686 : Cond.methodLink RL 132 yX5_dropped ∈ wsL_law := List.mem_of_getElem? (i := 686) (by decide +kernel)
theorem qw_687 : Cond.instanceMethod yX5_dropped ∈ wsL_law := List.mem_of_getElem? (i := 687) (by decide +kernel)
theorem qw_688 : Cond.selects RX5 yX5_dropped yX5_dropped ∈ wsL_law := List.mem_of_getElem? (i := 688) (by decide +kernel)
theorem qw_689 : Cond.code yX5_dropped cX5_dropped 1 (some .int) ∈ wsL_law := List.mem_of_getElem? (i := 689) (by decide +kernel)
theorem qw_690 : Cond.methodLink RL 133 yX4_droppedInFixedScheme ∈ wsL_law := List.mem_of_getElem? (i := 690) (by decide +kernel)
theorem qw_691 : Cond.instanceMethod yX4_droppedInFixedScheme ∈ wsL_law := List.mem_of_getElem? (i := 691) (by decide +kernel)
theorem qw_692 : Cond.selects RX4 yX4_droppedInFixedScheme yX4_droppedInFixedScheme ∈ wsL_law := List.mem_of_getElem? (i := 692) (by decide +kernel)
theorem qw_693 : Cond.code yX4_droppedInFixedScheme cX4_droppedInFixedScheme 1 (some .int) ∈ wsL_law := List.mem_of_getElem? (i := 693) (by decide +kernel)
theorem qw_694 : Cond.fieldLink RX4 174 "ChannelBorrower$Network" "droppedInFixed" "I" ∈ wsL_law := List.mem_of_getElem? (i := 694) (by decide +kernel)
theorem qw_695 : Cond.methodLink RL 136 yX5_droppedInFixedScheme ∈ wsL_law := List.mem_of_getElem? (i := 695) (by decide +kernel)
theorem qw_696 : Cond.instanceMethod yX5_droppedInFixedScheme ∈ wsL_law := List.mem_of_getElem? (i := 696) (by decide +kernel)
theorem qw_697 : Cond.selects RX5 yX5_droppedInFixedScheme yX5_droppedInFixedScheme ∈ wsL_law := List.mem_of_getElem? (i := 697) (by decide +kernel)
theorem qw_698 : Cond.code yX5_droppedInFixedScheme cX5_droppedInFixedScheme 1 (some .int) ∈ wsL_law := List.mem_of_getElem? (i := 698) (by decide +kernel)
theorem qw_699 : Cond.methodLink RL 137 yX4_borrowings ∈ wsL_law := List.mem_of_getElem? (i := 699) (by decide +kernel)
theorem qw_700 : Cond.instanceMethod yX4_borrowings ∈ wsL_law := List.mem_of_getElem? (i := 700) (by decide +kernel)
theorem qw_701 : Cond.selects RX4 yX4_borrowings yX4_borrowings ∈ wsL_law := List.mem_of_getElem? (i := 701) (by decide +kernel)
theorem qw_702 : Cond.code yX4_borrowings cX4_borrowings 1 (some .int) ∈ wsL_law := List.mem_of_getElem? (i := 702) (by decide +kernel)
theorem qw_703 : Cond.fieldLink RX4 177 "ChannelBorrower$Network" "borrowings" "I" ∈ wsL_law := List.mem_of_getElem? (i := 703) (by decide +kernel)
theorem qw_704 : Cond.methodLink RL 140 yX5_borrowings ∈ wsL_law := List.mem_of_getElem? (i := 704) (by decide +kernel)
theorem qw_705 : Cond.instanceMethod yX5_borrowings ∈ wsL_law := List.mem_of_getElem? (i := 705) (by decide +kernel)
theorem qw_706 : Cond.selects RX5 yX5_borrowings yX5_borrowings ∈ wsL_law := List.mem_of_getElem? (i := 706) (by decide +kernel)
theorem qw_707 : Cond.code yX5_borrowings cX5_borrowings 1 (some .int) ∈ wsL_law := List.mem_of_getElem? (i := 707) (by decide +kernel)
theorem qw_708 : Cond.methodLink RL 141 yX4_returns ∈ wsL_law := List.mem_of_getElem? (i := 708) (by decide +kernel)
theorem qw_709 : Cond.instanceMethod yX4_returns ∈ wsL_law := List.mem_of_getElem? (i := 709) (by decide +kernel)
theorem qw_710 : Cond.selects RX4 yX4_returns yX4_returns ∈ wsL_law := List.mem_of_getElem? (i := 710) (by decide +kernel)
theorem qw_711 : Cond.code yX4_returns cX4_returns 1 (some .int) ∈ wsL_law := List.mem_of_getElem? (i := 711) (by decide +kernel)
theorem qw_712 : Cond.fieldLink RX4 180 "ChannelBorrower$Network" "returnSteps" "I" ∈ wsL_law := List.mem_of_getElem? (i := 712) (by decide +kernel)
theorem qw_713 : Cond.methodLink RL 144 yX5_returns ∈ wsL_law := List.mem_of_getElem? (i := 713) (by decide +kernel)
theorem qw_714 : Cond.instanceMethod yX5_returns ∈ wsL_law := List.mem_of_getElem? (i := 714) (by decide +kernel)
theorem qw_715 : Cond.selects RX5 yX5_returns yX5_returns ∈ wsL_law := List.mem_of_getElem? (i := 715) (by decide +kernel)
theorem qw_716 : Cond.code yX5_returns cX5_returns 1 (some .int) ∈ wsL_law := List.mem_of_getElem? (i := 716) (by decide +kernel)
theorem qw_717 : Cond.methodLink RL 145 yX4_appendCharacter ∈ wsL_law := List.mem_of_getElem? (i := 717) (by decide +kernel)
theorem qw_718 : Cond.instanceMethod yX4_appendCharacter ∈ wsL_law := List.mem_of_getElem? (i := 718) (by decide +kernel)
theorem qw_719 : Cond.selects RX4 yX4_appendCharacter yX4_appendCharacter ∈ wsL_law := List.mem_of_getElem? (i := 719) (by decide +kernel)
theorem qw_720 : Cond.code yX4_appendCharacter cX4_appendCharacter 2 (some .int) ∈ wsL_law := List.mem_of_getElem? (i := 720) (by decide +kernel)
theorem qw_721 : Cond.fieldLink RX4 186 "ChannelBorrower$Script" "length" "I" ∈ wsL_law := List.mem_of_getElem? (i := 721) (by decide +kernel)
theorem qw_722 : Cond.methodLink RX4 183 yX3_append ∈ wsL_law := List.mem_of_getElem? (i := 722) (by decide +kernel)
theorem qw_723 : Cond.instanceMethod yX3_append ∈ wsL_law := List.mem_of_getElem? (i := 723) (by decide +kernel)
theorem qw_724 : Cond.selects RX3 yX3_append yX3_append ∈ wsL_law := List.mem_of_getElem? (i := 724) (by decide +kernel)
theorem qw_725 : Cond.code yX3_append cX3_append 2 (some .boolean) ∈ wsL_law := List.mem_of_getElem? (i := 725) (by decide +kernel)
theorem qw_726 : Cond.fieldLink RX3 24 "ChannelBorrower$Script" "length" "I" ∈ wsL_law := List.mem_of_getElem? (i := 726) (by decide +kernel)
theorem qw_727 : Cond.methodLink RL 148 yX5_appendCharacter ∈ wsL_law := List.mem_of_getElem? (i := 727) (by decide +kernel)
theorem qw_728 : Cond.instanceMethod yX5_appendCharacter ∈ wsL_law := List.mem_of_getElem? (i := 728) (by decide +kernel)
theorem qw_729 : Cond.selects RX5 yX5_appendCharacter yX5_appendCharacter ∈ wsL_law := List.mem_of_getElem? (i := 729) (by decide +kernel)
theorem qw_730 : Cond.code yX5_appendCharacter cX5_appendCharacter 2 (some .int) ∈ wsL_law := List.mem_of_getElem? (i := 730) (by decide +kernel)
theorem qw_731 : Cond.fieldLink RX5 141 "ChannelBorrowerModel" "typed" "I" ∈ wsL_law := List.mem_of_getElem? (i := 731) (by decide +kernel)
theorem qw_732 : Cond.methodLink RL 149 yX4_clearText ∈ wsL_law := List.mem_of_getElem? (i := 732) (by decide +kernel)
theorem qw_733 : Cond.instanceMethod yX4_clearText ∈ wsL_law := List.mem_of_getElem? (i := 733) (by decide +kernel)
theorem qw_734 : Cond.selects RX4 yX4_clearText yX4_clearText ∈ wsL_law := List.mem_of_getElem? (i := 734) (by decide +kernel)
theorem qw_735 : Cond.code yX4_clearText cX4_clearText 2 (some .int) ∈ wsL_law := List.mem_of_getElem? (i := 735) (by decide +kernel)
theorem qw_736 : Cond.methodLink RL 152 yX5_clearText ∈ wsL_law := List.mem_of_getElem? (i := 736) (by decide +kernel)
theorem qw_737 : Cond.instanceMethod yX5_clearText ∈ wsL_law := List.mem_of_getElem? (i := 737) (by decide +kernel)
theorem qw_738 : Cond.selects RX5 yX5_clearText yX5_clearText ∈ wsL_law := List.mem_of_getElem? (i := 738) (by decide +kernel)
theorem qw_739 : Cond.code yX5_clearText cX5_clearText 2 (some .int) ∈ wsL_law := List.mem_of_getElem? (i := 739) (by decide +kernel)
theorem qw_740 : Cond.methodLink RL 153 yX4_runScript ∈ wsL_law := List.mem_of_getElem? (i := 740) (by decide +kernel)
theorem qw_741 : Cond.instanceMethod yX4_runScript ∈ wsL_law := List.mem_of_getElem? (i := 741) (by decide +kernel)
theorem qw_742 : Cond.selects RX4 yX4_runScript yX4_runScript ∈ wsL_law := List.mem_of_getElem? (i := 742) (by decide +kernel)
theorem qw_743 : Cond.code yX4_runScript cX4_runScript 6 (some .int) ∈ wsL_law := List.mem_of_getElem? (i := 743) (by decide +kernel)
theorem qw_744 : Cond.fieldLink RX4 193 "ChannelBorrower$Script" "position" "I" ∈ wsL_law := List.mem_of_getElem? (i := 744) (by decide +kernel)
theorem qw_745 : Cond.fieldLink RX4 196 "ChannelBorrower$Script" "commands" "I" ∈ wsL_law := List.mem_of_getElem? (i := 745) (by decide +kernel)
theorem qw_746 : Cond.fieldLink RX4 199 "ChannelBorrower$Script" "letters" "[I" ∈ wsL_law := List.mem_of_getElem? (i := 746) (by decide +kernel)
theorem qw_747 : Cond.fieldLink RX4 203 "ChannelBorrower$Script" "firsts" "[I" ∈ wsL_law := List.mem_of_getElem? (i := 747) (by decide +kernel)
theorem qw_748 : Cond.fieldLink RX4 206 "ChannelBorrower$Script" "seconds" "[I" ∈ wsL_law := List.mem_of_getElem? (i := 748) (by decide +kernel)
theorem qw_749 : Cond.methodLink RX4 189 yX3_read ∈ wsL_law := List.mem_of_getElem? (i := 749) (by decide +kernel)
theorem qw_750 : Cond.instanceMethod yX3_read ∈ wsL_law := List.mem_of_getElem? (i := 750) (by decide +kernel)
theorem qw_751 : Cond.selects RX3 yX3_read yX3_read ∈ wsL_law := List.mem_of_getElem? (i := 751) (by decide +kernel)
theorem qw_752 : Cond.code yX3_read cX3_read 2 (some .boolean) ∈ wsL_law := List.mem_of_getElem? (i := 752) (by decide +kernel)
theorem qw_753 : Cond.fieldLink RX3 32 "ChannelBorrower$Script" "position" "I" ∈ wsL_law := List.mem_of_getElem? (i := 753) (by decide +kernel)
theorem qw_754 : Cond.fieldLink RX3 35 "ChannelBorrower$Script" "commands" "I" ∈ wsL_law := List.mem_of_getElem? (i := 754) (by decide +kernel)
theorem qw_755 : Cond.methodLink RX3 38 yX3_skipSpaces ∈ wsL_law := List.mem_of_getElem? (i := 755) (by decide +kernel)
theorem qw_756 : Cond.instanceMethod yX3_skipSpaces ∈ wsL_law := List.mem_of_getElem? (i := 756) (by decide +kernel)
theorem qw_757 : Cond.selects RX3 yX3_skipSpaces yX3_skipSpaces ∈ wsL_law := List.mem_of_getElem? (i := 757) (by decide +kernel)
theorem qw_758 : Cond.code yX3_skipSpaces cX3_skipSpaces 2 none ∈ wsL_law := List.mem_of_getElem? (i := 758) (by decide +kernel)
theorem qw_759 : Cond.methodLink RX3 45 yX3_character ∈ wsL_law := List.mem_of_getElem? (i := 759) (by decide +kernel)
theorem qw_760 : Cond.instanceMethod yX3_character ∈ wsL_law := List.mem_of_getElem? (i := 760) (by decide +kernel)
theorem qw_761 : Cond.selects RX3 yX3_character yX3_character ∈ wsL_law := List.mem_of_getElem? (i := 761) (by decide +kernel)
theorem qw_762 : Cond.code yX3_character cX3_character 2 (some .int) ∈ wsL_law := List.mem_of_getElem? (i := 762) (by decide +kernel)
theorem qw_763 : Cond.methodLink RX3 41 yX3_readCommand ∈ wsL_law := List.mem_of_getElem? (i := 763) (by decide +kernel)
theorem qw_764 : Cond.instanceMethod yX3_readCommand ∈ wsL_law := List.mem_of_getElem? (i := 764) (by decide +kernel)
theorem qw_765 : Cond.selects RX3 yX3_readCommand yX3_readCommand ∈ wsL_law := List.mem_of_getElem? (i := 765) (by decide +kernel)
theorem qw_766 : Cond.code yX3_readCommand cX3_readCommand 4 (some .boolean) ∈ wsL_law := List.mem_of_getElem? (i := 766) (by decide +kernel)
theorem qw_767 : Cond.methodLink RX3 49 yX3_readNumber ∈ wsL_law := List.mem_of_getElem? (i := 767) (by decide +kernel)
theorem qw_768 : Cond.instanceMethod yX3_readNumber ∈ wsL_law := List.mem_of_getElem? (i := 768) (by decide +kernel)
theorem qw_769 : Cond.selects RX3 yX3_readNumber yX3_readNumber ∈ wsL_law := List.mem_of_getElem? (i := 769) (by decide +kernel)
theorem qw_770 : Cond.code yX3_readNumber cX3_readNumber 3 (some .int) ∈ wsL_law := List.mem_of_getElem? (i := 770) (by decide +kernel)
theorem qw_771 : Cond.methodLink RX3 59 yX3_digit ∈ wsL_law := List.mem_of_getElem? (i := 771) (by decide +kernel)
theorem qw_772 : Cond.instanceMethod yX3_digit ∈ wsL_law := List.mem_of_getElem? (i := 772) (by decide +kernel)
theorem qw_773 : Cond.selects RX3 yX3_digit yX3_digit ∈ wsL_law := List.mem_of_getElem? (i := 773) (by decide +kernel)
theorem qw_774 : Cond.code yX3_digit cX3_digit 2 (some .int) ∈ wsL_law := List.mem_of_getElem? (i := 774) (by decide +kernel)
theorem qw_775 : Cond.methodLink RX3 52 yX3_readSign ∈ wsL_law := List.mem_of_getElem? (i := 775) (by decide +kernel)
theorem qw_776 : Cond.instanceMethod yX3_readSign ∈ wsL_law := List.mem_of_getElem? (i := 776) (by decide +kernel)
theorem qw_777 : Cond.selects RX3 yX3_readSign yX3_readSign ∈ wsL_law := List.mem_of_getElem? (i := 777) (by decide +kernel)
theorem qw_778 : Cond.code yX3_readSign cX3_readSign 2 (some .boolean) ∈ wsL_law := List.mem_of_getElem? (i := 778) (by decide +kernel)
theorem qw_779 : Cond.methodLink RX3 56 yX3_keep ∈ wsL_law := List.mem_of_getElem? (i := 779) (by decide +kernel)
theorem qw_780 : Cond.instanceMethod yX3_keep ∈ wsL_law := List.mem_of_getElem? (i := 780) (by decide +kernel)
theorem qw_781 : Cond.selects RX3 yX3_keep yX3_keep ∈ wsL_law := List.mem_of_getElem? (i := 781) (by decide +kernel)
theorem qw_782 : Cond.code yX3_keep cX3_keep 4 (some .boolean) ∈ wsL_law := List.mem_of_getElem? (i := 782) (by decide +kernel)
theorem qw_783 : Cond.methodLink RX4 209 yX4_commandError ∈ wsL_law := List.mem_of_getElem? (i := 783) (by decide +kernel)
theorem qw_784 : Cond.instanceMethod yX4_commandError ∈ wsL_law := List.mem_of_getElem? (i := 784) (by decide +kernel)
theorem qw_785 : Cond.selects RX4 yX4_commandError yX4_commandError ∈ wsL_law := List.mem_of_getElem? (i := 785) (by decide +kernel)
theorem qw_786 : Cond.code yX4_commandError cX4_commandError 4 (some .int) ∈ wsL_law := List.mem_of_getElem? (i := 786) (by decide +kernel)
theorem qw_787 : Cond.methodLink RL 156 yX5_runScript ∈ wsL_law := List.mem_of_getElem? (i := 787) (by decide +kernel)
theorem qw_788 : Cond.instanceMethod yX5_runScript ∈ wsL_law := List.mem_of_getElem? (i := 788) (by decide +kernel)
theorem qw_789 : Cond.selects RX5 yX5_runScript yX5_runScript ∈ wsL_law := List.mem_of_getElem? (i := 789) (by decide +kernel)
theorem qw_790 : Cond.code yX5_runScript cX5_runScript 2 (some .int) ∈ wsL_law := List.mem_of_getElem? (i := 790) (by decide +kernel)
theorem qw_791 : Cond.fieldLink RX5 153 "ChannelBorrowerModel" "isWrong" "Z" ∈ wsL_law := List.mem_of_getElem? (i := 791) (by decide +kernel)
theorem qw_792 : Cond.fieldLink RX5 144 "ChannelBorrowerModel" "at" "I" ∈ wsL_law := List.mem_of_getElem? (i := 792) (by decide +kernel)
theorem qw_793 : Cond.methodLink RX5 163 yX5_script ∈ wsL_law := List.mem_of_getElem? (i := 793) (by decide +kernel)
theorem qw_794 : Cond.instanceMethod yX5_script ∈ wsL_law := List.mem_of_getElem? (i := 794) (by decide +kernel)
theorem qw_795 : Cond.selects RX5 yX5_script yX5_script ∈ wsL_law := List.mem_of_getElem? (i := 795) (by decide +kernel)
theorem qw_796 : Cond.code yX5_script cX5_script 9 (some .int) ∈ wsL_law := List.mem_of_getElem? (i := 796) (by decide +kernel)
theorem qw_797 : Cond.methodLink RX5 150 yX5_skip ∈ wsL_law := List.mem_of_getElem? (i := 797) (by decide +kernel)
theorem qw_798 : Cond.instanceMethod yX5_skip ∈ wsL_law := List.mem_of_getElem? (i := 798) (by decide +kernel)
theorem qw_799 : Cond.selects RX5 yX5_skip yX5_skip ∈ wsL_law := List.mem_of_getElem? (i := 799) (by decide +kernel)
theorem qw_800 : Cond.code yX5_skip cX5_skip 1 none ∈ wsL_law := List.mem_of_getElem? (i := 800) (by decide +kernel)
theorem qw_801 : Cond.methodLink RX5 147 yX5_here ∈ wsL_law := List.mem_of_getElem? (i := 801) (by decide +kernel)
theorem qw_802 : Cond.instanceMethod yX5_here ∈ wsL_law := List.mem_of_getElem? (i := 802) (by decide +kernel)
theorem qw_803 : Cond.selects RX5 yX5_here yX5_here ∈ wsL_law := List.mem_of_getElem? (i := 803) (by decide +kernel)
theorem qw_804 : Cond.code yX5_here cX5_here 1 (some .int) ∈ wsL_law := List.mem_of_getElem? (i := 804) (by decide +kernel)
theorem qw_805 : Cond.methodLink RX5 157 yX5_number ∈ wsL_law := List.mem_of_getElem? (i := 805) (by decide +kernel)
theorem qw_806 : Cond.instanceMethod yX5_number ∈ wsL_law := List.mem_of_getElem? (i := 806) (by decide +kernel)
theorem qw_807 : Cond.selects RX5 yX5_number yX5_number ∈ wsL_law := List.mem_of_getElem? (i := 807) (by decide +kernel)
theorem qw_808 : Cond.code yX5_number cX5_number 2 (some .int) ∈ wsL_law := List.mem_of_getElem? (i := 808) (by decide +kernel)
theorem qw_809 : Cond.methodLink RX5 160 yX5_expect ∈ wsL_law := List.mem_of_getElem? (i := 809) (by decide +kernel)
theorem qw_810 : Cond.instanceMethod yX5_expect ∈ wsL_law := List.mem_of_getElem? (i := 810) (by decide +kernel)
theorem qw_811 : Cond.selects RX5 yX5_expect yX5_expect ∈ wsL_law := List.mem_of_getElem? (i := 811) (by decide +kernel)
theorem qw_812 : Cond.code yX5_expect cX5_expect 2 none ∈ wsL_law := List.mem_of_getElem? (i := 812) (by decide +kernel)
theorem qw_813 : Cond.methodLink RL 157 yX4_undo ∈ wsL_law := List.mem_of_getElem? (i := 813) (by decide +kernel)
theorem qw_814 : Cond.instanceMethod yX4_undo ∈ wsL_law := List.mem_of_getElem? (i := 814) (by decide +kernel)
theorem qw_815 : Cond.selects RX4 yX4_undo yX4_undo ∈ wsL_law := List.mem_of_getElem? (i := 815) (by decide +kernel)
theorem qw_816 : Cond.code yX4_undo cX4_undo 1 (some .int) ∈ wsL_law := List.mem_of_getElem? (i := 816) (by decide +kernel)
theorem qw_817 : Cond.fieldLink RX4 217 "ChannelBorrower$History" "count" "I" ∈ wsL_law := List.mem_of_getElem? (i := 817) (by decide +kernel)
theorem qw_818 : Cond.methodLink RX4 213 yX0_pop ∈ wsL_law := List.mem_of_getElem? (i := 818) (by decide +kernel)
theorem qw_819 : Cond.instanceMethod yX0_pop ∈ wsL_law := List.mem_of_getElem? (i := 819) (by decide +kernel)
theorem qw_820 : Cond.selects RX0 yX0_pop yX0_pop ∈ wsL_law := List.mem_of_getElem? (i := 820) (by decide +kernel)
theorem qw_821 : Cond.code yX0_pop cX0_pop 3 (some .boolean) ∈ wsL_law := List.mem_of_getElem? (i := 821) (by decide +kernel)
theorem qw_822 : Cond.methodLink RL 160 yX5_undo ∈ wsL_law := List.mem_of_getElem? (i := 822) (by decide +kernel)
theorem qw_823 : Cond.instanceMethod yX5_undo ∈ wsL_law := List.mem_of_getElem? (i := 823) (by decide +kernel)
theorem qw_824 : Cond.selects RX5 yX5_undo yX5_undo ∈ wsL_law := List.mem_of_getElem? (i := 824) (by decide +kernel)
theorem qw_825 : Cond.code yX5_undo cX5_undo 2 (some .int) ∈ wsL_law := List.mem_of_getElem? (i := 825) (by decide +kernel)
theorem qw_826 : Cond.methodLink RL 161 yX4_save ∈ wsL_law := List.mem_of_getElem? (i := 826) (by decide +kernel)
theorem qw_827 : Cond.instanceMethod yX4_save ∈ wsL_law := List.mem_of_getElem? (i := 827) (by decide +kernel)
theorem qw_828 : Cond.selects RX4 yX4_save yX4_save ∈ wsL_law := List.mem_of_getElem? (i := 828) (by decide +kernel)
theorem qw_829 : Cond.code yX4_save cX4_save 3 (some .int) ∈ wsL_law := List.mem_of_getElem? (i := 829) (by decide +kernel)
theorem qw_830 : Cond.methodLink RX4 220 yX2_copyFrom ∈ wsL_law := List.mem_of_getElem? (i := 830) (by decide +kernel)
theorem qw_831 : Cond.methodLink RL 164 yX5_save ∈ wsL_law := List.mem_of_getElem? (i := 831) (by decide +kernel)
theorem qw_832 : Cond.instanceMethod yX5_save ∈ wsL_law := List.mem_of_getElem? (i := 832) (by decide +kernel)
theorem qw_833 : Cond.selects RX5 yX5_save yX5_save ∈ wsL_law := List.mem_of_getElem? (i := 833) (by decide +kernel)
theorem qw_834 : Cond.code yX5_save cX5_save 3 (some .int) ∈ wsL_law := List.mem_of_getElem? (i := 834) (by decide +kernel)
theorem qw_835 : Cond.methodLink RL 165 yX4_restore ∈ wsL_law := List.mem_of_getElem? (i := 835) (by decide +kernel)
theorem qw_836 : Cond.instanceMethod yX4_restore ∈ wsL_law := List.mem_of_getElem? (i := 836) (by decide +kernel)
theorem qw_837 : Cond.selects RX4 yX4_restore yX4_restore ∈ wsL_law := List.mem_of_getElem? (i := 837) (by decide +kernel)
theorem qw_838 : Cond.code yX4_restore cX4_restore 3 (some .int) ∈ wsL_law := List.mem_of_getElem? (i := 838) (by decide +kernel)
theorem qw_839 : Cond.methodLink RL 168 yX5_restore ∈ wsL_law := List.mem_of_getElem? (i := 839) (by decide +kernel)
theorem qw_840 : Cond.instanceMethod yX5_restore ∈ wsL_law := List.mem_of_getElem? (i := 840) (by decide +kernel)
theorem qw_841 : Cond.selects RX5 yX5_restore yX5_restore ∈ wsL_law := List.mem_of_getElem? (i := 841) (by decide +kernel)
theorem qw_842 : Cond.code yX5_restore cX5_restore 3 (some .int) ∈ wsL_law := List.mem_of_getElem? (i := 842) (by decide +kernel)
end
section
/-! THE WALK'S OWN KIT: one word list for all methods, one context, two kinds of contract (a method that only reads; a method that writes one world) -/
def nw_l : List Cond := [.methodLinkNest RX4 36 yX3_init RX4, .methodLinkNest RX0 41 yX4_isBetween RX4, .methodLinkNest RX2 154 yX4_contains RX4, .methodLinkNest RX1 67 yX4_contains RX4, .methodLinkNest RX2 125 yX4_isBetween RX4, .methodLinkNest RX2 106 yX4_asNumber RX4, .methodLinkNest RX3 28 yX4_isBetween RX4]
def nw_K (U : State) : Prop := (∀ w ∈ nw_l, va_Nw w U) ∧ va_AO "ChannelBorrower$Network" U
theorem nw_warm {s U : State} (hW : s.WarmedH U.vm) (h : nw_K s) : nw_K U := by
  refine ⟨?_, va_AO.moved hW.alike h.2⟩
  intro w hw
  have h1 := h.1 w hw
  simp only [nw_l, List.mem_cons, List.not_mem_nil, or_false] at hw
  rcases hw with rfl | rfl | rfl | rfl | rfl | rfl | rfl <;> exact va_Nw.warmM hW h1
theorem nw_same {u U : State} (hv : u.vm = U.vm) (h : nw_K u) : nw_K U := by
  refine ⟨?_, va_AO.moved (by rw [hv]; exact Vm.Alike.refl U.vm) h.2⟩
  intro w hw
  have h1 := h.1 w hw
  simp only [nw_l, List.mem_cons, List.not_mem_nil, or_false] at hw
  rcases hw with rfl | rfl | rfl | rfl | rfl | rfl | rfl <;> exact va_Nw.same rfl hv h1
abbrev kk_t (y : Nat → ClassId) : List (ClassId × FieldType) := [(y 0, .int), (y 1, .byte), (y 2, .boolean), (y 3, .object "ChannelBorrower$Network")]
/-- what the tables say: classes, arrays, nest mates -/
def kk_K (D : va_G) (y : Nat → ClassId) (U : State) : Prop := va_K D vwCl (kk_t y) U ∧ nw_K U
theorem kk_warm {D : va_G} {y : Nat → ClassId} {s U : State} (hW : s.WarmedH U.vm) (h : kk_K D y s) : kk_K D y U := ⟨va_K.moved hW.alike h.1, nw_warm hW h.2⟩
theorem kk_call {D : va_G} {y : Nat → ClassId} {U : State} (g : JFrame) (mk : MethodId) (a : Array Value) (h : kk_K D y U) : kk_K D y (U.calling g mk a) := ⟨va_K.moved (u := U) (U := U.calling g mk a) (Vm.Alike.refl U.vm) h.1, nw_same (u := U) (U := U.calling g mk a) rfl h.2⟩
/-- a method's words: its own code, and all words -/
def wy_s (z : MethodName) (b : ByteArray) (n : Nat) (r : Option FieldType) : List Cond := Cond.code z b n r :: wsL_law
set_option maxRecDepth 20000 in
theorem wy_all : wsL_law.all goodWord = true := by decide +kernel
theorem wy_in {z : MethodName} {b : ByteArray} {n : Nat} {r : Option FieldType} (h : Cond.code z b n r ∈ wsL_law) : GoodIn wsL_law (wy_s z b n r) := by
  intro w hw
  rcases List.mem_cons.mp hw with rfl | h1
  · exact ⟨h, good_of_word (List.all_eq_true.mp wy_all _ h)⟩
  · exact ⟨h1, good_of_word (List.all_eq_true.mp wy_all _ h1)⟩
theorem wy_app {a b : List Cond} (ha : ∀ w ∈ a, w ∈ wsL_law) (hb : GoodIn wsL_law b) : GoodIn wsL_law (a ++ b) := fun w h => (List.mem_append.mp h).elim (fun h => ⟨ha w h, good_of_word (List.all_eq_true.mp wy_all _ (ha w h))⟩) (hb w)
/-- a contract's start -/
def pc_R (D : va_G) (y : Nat → ClassId) (av : List Value) (PH : Heap → Prop) : Array Value → State → Prop := fun v U => v = av.toArray ∧ PH U.heap ∧ kk_K D y U
theorem pc_blind {D : va_G} {y : Nat → ClassId} {av : List Value} {PH : Heap → Prop} : FrameBlind (pc_R D y av PH) := fun a _ g mk h => ⟨h.1, h.2.1, kk_call g mk a h.2.2⟩
/-- the end of a method that writes -/
def qc_W (ov : Option Value) (PH : Heap → Prop) (A : Nat → Prop) : Array Value → State → Outcome → State → Prop := fun _ st oc t => oc = .returned ov ∧ PH t.heap ∧ va_F A st t
abbrev qc_R (x : Int32) : Array Value → State → Outcome → State → Prop := vp_Si (fun z => z = x)
/-- what a walk has at hand -/
def cx (p : Program) (s : State) (m : MethodId) (args : Array Value) (meth : Method) (c : Code) (cc : ByteArray) (nL : Nat) (ret : Option FieldType) (own : String) (D : va_G) (y : Nat → ClassId) : Prop :=
  p.tables.exec = Jvm.exec ∧ c.code = cc ∧ c.maxLocals = nL ∧ s.vm.findClass own = some m.cls ∧ (∀ w ∈ wsL_law, w.before args s = true) ∧ kk_K D y s ∧ meth.sig.returnType = ret ∧ meth.locks = false
section CX
variable {p : Program} {s : State} {m : MethodId} {args : Array Value} {meth : Method} {c : Code} {cc : ByteArray} {nL : Nat} {ret : Option FieldType} {own : String} {D : va_G} {y : Nat → ClassId}
theorem cx_x (X : cx p s m args meth c cc nL ret own D y) : p.tables.exec = Jvm.exec := X.1
theorem cx_b (X : cx p s m args meth c cc nL ret own D y) : c.code = cc := X.2.1
theorem cx_m (X : cx p s m args meth c cc nL ret own D y) : c.maxLocals = nL := X.2.2.1
theorem cx_o (X : cx p s m args meth c cc nL ret own D y) : s.vm.findClass own = some m.cls := X.2.2.2.1
theorem cx_w (X : cx p s m args meth c cc nL ret own D y) : ∀ w ∈ wsL_law, w.before args s = true := X.2.2.2.2.1
theorem cx_K (X : cx p s m args meth c cc nL ret own D y) : kk_K D y s := X.2.2.2.2.2.1
theorem cx_r (X : cx p s m args meth c cc nL ret own D y) : meth.sig.returnType = ret := X.2.2.2.2.2.2.1
theorem cx_l (X : cx p s m args meth c cc nL ret own D y) : meth.locks = false := X.2.2.2.2.2.2.2
theorem cx_F (X : cx p s m args meth c cc nL ret own D y) : CallFix p m c cc nL s args wsL_law own := ⟨X.1, X.2.1, X.2.2.1, X.2.2.2.1, X.2.2.2.2.1⟩
end CX
/-- partial reckoning -/
def wh {σ ρ : Type} (b : (σ → Option ρ) → σ → Option ρ) : Nat → σ → Option ρ
  | 0, _ => none
  | n + 1, x => b (wh b n) x
def lt_ {α β : Type} (e : α) (f : α → Option β) : Option β := f e
abbrev inb (i : Int32) (n : Nat) : Prop := ¬ (i < 0 ∨ n ≤ i.toNatClampNeg)
theorem bnd {α β : Type} {a : Option α} {f : α → Option β} {r : β} (h : a.bind f = some r) : ∃ x, a = some x ∧ f x = some r := Option.bind_eq_some_iff.mp h
theorem lt_E {α β : Type} {e : α} {f : α → Option β} {r : β} (h : lt_ e f = some r) : ∃ x, x = e ∧ f x = some r := ⟨e, rfl, h⟩
theorem if_T {c : Prop} [Decidable c] {α : Type} {a b r : α} (hc : c) (h : (if c then a else b) = r) : a = r := by rw [if_pos hc] at h; exact h
theorem if_F {c : Prop} [Decidable c] {α : Type} {a b r : α} (hc : ¬ c) (h : (if c then a else b) = r) : b = r := by rw [if_neg hc] at h; exact h
theorem ck_E {c : Prop} [Decidable c] {α : Type} {a : Option α} {r : α} (h : (if c then a else none) = some r) : c ∧ a = some r := by
  by_cases hc : c
  · rw [if_pos hc] at h; exact ⟨hc, h⟩
  · rw [if_neg hc] at h; cases h
section RW
variable {p : Program} {l : Launch} {e : Env} {R : Room} {s : State} {m : MethodId} {args : Array Value} {below : List Frame} {meth : Method} {c : Code} {H : Heap} {locs : List Loc} {cells slots : Nat} {Q : State → Prop}
variable {cc : ByteArray} {nL pc : Nat} {ret : Option FieldType} {own : String} {D : va_G} {y : Nat → ClassId} {ls : Array Slot} {rest st0 : List Value}
theorem lv_eqi {x x' : Int32} (h : x' = x) (k : W p l e R s m args below meth c H locs cells slots Q (F0 m pc ls (.int x' :: rest))) : W p l e R s m args below meth c H locs cells slots Q (F0 m pc ls (.int x :: rest)) := h ▸ k
/-- the goal of a walk of a method that only reads -/
abbrev gr (p : Program) (l : Launch) (e : Env) (R : Room) (s : State) (m : MethodId) (args : Array Value) (below : List Frame) (meth : Method) (c : Code) (x : Int32) (g : JFrame) : Prop :=
  W p l e R s m args below meth c s.heap [] 0 0 (MQ below (qc_R x) args s 0 0 (fun _ => False)) g
theorem gr_i {v x : Int32} (X : cx p s m args meth c cc nL (some .int) own D y) (h : some v = some x) (hdg : decode cc pc = .ok (.ireturn, 1)) : gr p l e R s m args below meth c x (F0 m pc ls [.int v]) :=
  W.iret (cx_x X) (cx_b X) (cx_r X) (fun _ ht _ => ⟨v, rfl, Option.some.inj h, ht⟩) (fun _ h => by cases h) hdg (cx_l X)
theorem gr_z {v x : Int32} (X : cx p s m args meth c cc nL (some .boolean) own D y) (hv : v &&& 1 = v) (h : some v = some x) (hdg : decode cc pc = .ok (.ireturn, 1)) : gr p l e R s m args below meth c x (F0 m pc ls [.int v]) :=
  W.zret (cx_x X) (cx_b X) (cx_r X) (by show Value.int (v &&& 1) = _; rw [hv]) (fun _ ht _ => ⟨v, rfl, Option.some.inj h, ht⟩) (fun _ h => by cases h) hdg (cx_l X)
/-- the goal of a walk of a method that writes: H, locs are the heap and what was written as it stands -/
abbrev gw (p : Program) (l : Launch) (e : Env) (R : Room) (s : State) (m : MethodId) (args : Array Value) (below : List Frame) (meth : Method) (c : Code) (ov : Option Value) (PH : Heap → Prop) (A : Nat → Prop) (mc ms : Nat) (H : Heap) (locs : List Loc) (g : JFrame) : Prop :=
  W p l e R s m args below meth c H locs mc ms (MQ below (qc_W ov PH A) args s mc ms A) g
theorem gw_i {v : Int32} {PH : Heap → Prop} {A : Nat → Prop} {mc ms : Nat} (X : cx p s m args meth c cc nL (some .int) own D y) (hS : va_S A s.heap H locs) (hP : PH H) (hdg : decode cc pc = .ok (.ireturn, 1)) : gw p l e R s m args below meth c (some (.int v)) PH A mc ms H locs (F0 m pc ls [.int v]) :=
  W.iret (cx_x X) (cx_b X) (cx_r X) (fun _ ht _ => ⟨rfl, by rw [ht]; exact hP, hS.F ht⟩) hS.2.2 hdg (cx_l X)
theorem gw_z {v : Int32} {PH : Heap → Prop} {A : Nat → Prop} {mc ms : Nat} (X : cx p s m args meth c cc nL (some .boolean) own D y) (hv : v &&& 1 = v) (hS : va_S A s.heap H locs) (hP : PH H) (hdg : decode cc pc = .ok (.ireturn, 1)) : gw p l e R s m args below meth c (some (.int v)) PH A mc ms H locs (F0 m pc ls [.int v]) :=
  W.zret (cx_x X) (cx_b X) (cx_r X) (by show Value.int (v &&& 1) = _; rw [hv]) (fun _ ht _ => ⟨rfl, by rw [ht]; exact hP, hS.F ht⟩) hS.2.2 hdg (cx_l X)
theorem gw_v {PH : Heap → Prop} {A : Nat → Prop} {mc ms : Nat} (X : cx p s m args meth c cc nL none own D y) (hS : va_S A s.heap H locs) (hP : PH H) (hdg : decode cc pc = .ok (.return_, 1)) : gw p l e R s m args below meth c none PH A mc ms H locs (F0 m pc ls []) :=
  W.vret (cx_x X) (cx_b X) (cx_r X) (fun _ ht _ => ⟨rfl, by rw [ht]; exact hP, hS.F ht⟩) hS.2.2 hdg (cx_l X)
end RW
/-- what a call's link words are, in the one list -/
def vq (own : String) (idx : Nat) (C : String) (z : MethodName) (b : ByteArray) (n : Nat) (r : Option FieldType) (k : Nat) : Prop :=
  Cond.methodLink own idx z ∈ wsL_law ∧ Cond.instanceMethod z ∈ wsL_law ∧ Cond.selects C z z ∈ wsL_law ∧ Cond.initialized C ∈ wsL_law ∧ Cond.code z b n r ∈ wsL_law ∧ z.cls = C ∧ z.cls ≠ "java/lang/invoke/MethodHandle" ∧ z.cls ≠ "java/lang/invoke/VarHandle" ∧ (parseMethodDescriptor z.desc).map (fun d => d.parameters.length) = some k
def sq (own : String) (idx : Nat) (z : MethodName) (b : ByteArray) (n : Nat) (r : Option FieldType) (k : Nat) : Prop :=
  Cond.methodLink own idx z ∈ wsL_law ∧ Cond.static z ∈ wsL_law ∧ Cond.initialized z.cls ∈ wsL_law ∧ Cond.code z b n r ∈ wsL_law ∧ z.cls ≠ "java/lang/invoke/MethodHandle" ∧ z.cls ≠ "java/lang/invoke/VarHandle" ∧ (parseMethodDescriptor z.desc).map (fun d => d.parameters.length) = some k
def nq (own : String) (idx : Nat) (z : MethodName) (host : String) (b : ByteArray) (n : Nat) (r : Option FieldType) (k : Nat) : Prop :=
  Cond.methodLinkNest own idx z host ∈ nw_l ∧ Cond.static z ∈ wsL_law ∧ Cond.initialized z.cls ∈ wsL_law ∧ Cond.code z b n r ∈ wsL_law ∧ z.cls ≠ "java/lang/invoke/MethodHandle" ∧ z.cls ≠ "java/lang/invoke/VarHandle" ∧ (parseMethodDescriptor z.desc).map (fun d => d.parameters.length) = some k
section CALLS
variable {p : Program} {l : Launch} {e : Env} {R : Room} {s : State} {m : MethodId} {args : Array Value} {below : List Frame} {meth : Method} {c : Code} {H : Heap} {locs : List Loc} {cells slots : Nat} {Q : State → Prop}
variable {cc : ByteArray} {nL pc : Nat} {ret : Option FieldType} {own : String} {D : va_G} {y : Nat → ClassId} {ls : Array Slot} {rest st0 : List Value}
variable {idx n k mc ms : Nat} {C : String} {z : MethodName} {b : ByteArray} {r : Option FieldType} {rm : Room} {a : Nat} {As : List Value} {PH : Heap → Prop} {Qc : Array Value → State → Outcome → State → Prop} {free : Addr → Prop}
/-- a virtual call on an object of C -/
theorem rn_V (X : cx p s m args meth c cc nL ret own D y) (hM : Met l z (wy_s z b n r) rm (pc_R D y (.ref a :: As) PH) Qc mc ms free) (q : vq own idx C z b n r k) (h0 : rm.cells = mc ∧ rm.slots = ms) (hR : rm.frames + 1 ≤ R.frames ∧ 8 + (n + 11) + rm.locals ≤ R.locals)
    (hrec : ∃ cell : Cell, H[a]? = some cell ∧ cell.vm.isStatics = false ∧ s.vm.findClass C = some cell.cls) (hPH : PH H) (hk : As.length = k) (hl : ls.size = nL) (hst : st0 = As.reverse ++ .ref a :: rest) (hW : (rest.map fun v => v.category).sum ≤ 8) (hdg : decode cc pc = .ok (.invokevirtual idx, 3)) (hc : cells + mc ≤ R.cells ∧ slots + ms ≤ R.slots) :
    va_Run p l e R s m args below meth c H locs cells slots mc ms (F0 m pc ls st0) rest (Qc (Value.ref a :: As).toArray) free := by
  subst hst
  have hG : GoodIn wsL_law (wsV own idx C z (wy_s z b n r)) := wy_app (fun w h => by
    simp only [List.mem_cons, List.not_mem_nil, or_false] at h
    rcases h with rfl | rfl | rfl | rfl
    · exact q.1
    · exact q.2.1
    · exact q.2.2.1
    · exact q.2.2.2.1) (wy_in q.2.2.2.2.1)
  exact va_runV (cx_F X) hM (cwV k (cx_w X) hG rfl h0.1 h0.2 q.2.2.2.2.2 hR) ⟨pc_blind, hrec, fun U hU hW => ⟨rfl, by rw [hU]; exact hPH, kk_warm hW (cx_K X)⟩⟩ rfl hk hl rfl (lv_room hW) hdg hc
theorem rn_S (X : cx p s m args meth c cc nL ret own D y) (hM : Met l z (wy_s z b n r) rm (pc_R D y As PH) Qc mc ms free) (q : sq own idx z b n r k) (h0 : rm.cells = mc ∧ rm.slots = ms) (hR : rm.frames + 1 ≤ R.frames ∧ 8 + (n + 11) + rm.locals ≤ R.locals)
    (hPH : PH H) (hk : As.length = k) (hl : ls.size = nL) (hst : st0 = As.reverse ++ rest) (hW : (rest.map fun v => v.category).sum ≤ 8) (hdg : decode cc pc = .ok (.invokestatic idx, 3)) (hc : cells + mc ≤ R.cells ∧ slots + ms ≤ R.slots) :
    va_Run p l e R s m args below meth c H locs cells slots mc ms (F0 m pc ls st0) rest (Qc As.toArray) free := by
  subst hst
  have hG : GoodIn wsL_law (va_wsS own idx z (wy_s z b n r)) := wy_app (fun w h => by
    simp only [List.mem_cons, List.not_mem_nil, or_false] at h
    rcases h with rfl | rfl | rfl
    · exact q.1
    · exact q.2.1
    · exact q.2.2.1) (wy_in q.2.2.2.1)
  exact va_runS (cx_F X) hM (va_cwS k (cx_w X) hG rfl h0.1 h0.2 q.2.2.2.2 hR) ⟨pc_blind, fun U hU hW => ⟨rfl, by rw [hU]; exact hPH, kk_warm hW (cx_K X)⟩⟩ rfl hk hl rfl (lv_room hW) hdg hc
theorem rn_N {host : String} (X : cx p s m args meth c cc nL ret own D y) (hM : Met l z (wy_s z b n r) rm (pc_R D y As PH) Qc mc ms free) (q : nq own idx z host b n r k) (h0 : rm.cells = mc ∧ rm.slots = ms) (hR : rm.frames + 1 ≤ R.frames ∧ 8 + (n + 11) + rm.locals ≤ R.locals)
    (hPH : PH H) (hk : As.length = k) (hl : ls.size = nL) (hst : st0 = As.reverse ++ rest) (hW : (rest.map fun v => v.category).sum ≤ 8) (hdg : decode cc pc = .ok (.invokestatic idx, 3)) (hc : cells + mc ≤ R.cells ∧ slots + ms ≤ R.slots) :
    va_Run p l e R s m args below meth c H locs cells slots mc ms (F0 m pc ls st0) rest (Qc As.toArray) free := by
  subst hst
  exact va_runSN (cx_F X) hM ⟨va_cnB k (cx_w X) (wy_in q.2.2.2.1) rfl h0.1 h0.2 ((cx_K X).2.1 _ q.1) (cx_w X _ q.2.2.1) q.2.2.2.2 hR, cx_w X _ q.2.1, trivial⟩ ⟨pc_blind, fun U hU hW => ⟨rfl, by rw [hU]; exact hPH, kk_warm hW (cx_K X)⟩⟩ rfl hk hl rfl (lv_room hW) hdg hc
/-- behind a call of a reader -/
theorem af_R {x : Int32} {arr : Array Value} (h : va_Run p l e R s m args below meth c H locs cells slots 0 0 (F0 m pc ls st0) rest (qc_R x arr) (fun _ => False))
    (kk : W p l e R s m args below meth c H locs cells slots Q (F0 m (pc + 3) ls (.int x :: rest))) : W p l e R s m args below meth c H locs cells slots Q (F0 m pc ls st0) :=
  vp_callSi h.run (fun r e => by subst e; exact kk)
/-- behind a call of a writer -/
theorem af_W {A0 A1 : Nat → Prop} {H0 : Heap} {ov : Option Value} {PH1 : Heap → Prop} {arr : Array Value} (h : va_Run p l e R s m args below meth c H locs cells slots mc ms (F0 m pc ls st0) rest (qc_W ov PH1 A1 arr) A1) (hS : va_S A0 H0 H locs) (hA : ∀ q, A1 q → A0 q)
    (kk : ∀ (H1 : Heap) (locs1 : List Loc), PH1 H1 → H.size ≤ H1.size → (∀ q : Nat, q < H.size → ¬ A1 q → H1[q]? = H[q]?) → va_S A0 H0 H1 locs1 → W p l e R s m args below meth c H1 locs1 (cells + mc) (slots + ms) Q (F0 m (pc + 3) ls (ov.toList ++ rest))) : W p l e R s m args below meth c H locs cells slots Q (F0 m pc ls st0) := by
  intro T hT X
  obtain ⟨v, st₀, t, T', L, h0, X', hL, e1, e2, ⟨hv, hb, hz, hk⟩, st⟩ := h T hT X
  cases hv
  rw [h0] at hz hk
  obtain ⟨t2, a1, b1⟩ := kk T'.heap (locs ++ L) (by rw [e1]; exact hb) (by rw [e1]; exact hz) (fun q h1 h2 => by rw [e1]; exact hk q h1 h2)
    ⟨Nat.le_trans hS.1 (by rw [e1]; exact hz), fun q h1 h2 => by rw [e1, hk q (Nat.lt_of_lt_of_le h1 hS.1) (fun z => h2 (hA q z))]; exact hS.2.1 q h1 h2, fun q hq => by
      rcases List.mem_append.mp hq with h | h
      · exact hS.2.2 q h
      · exact hA _ (hL q h)⟩ T' rfl X'
  exact ⟨t2, st t2 a1, b1⟩
end CALLS
/-- a contract out of a walk: a method that only reads -/
theorem met_R {l : Launch} {z : MethodName} {b : ByteArray} {n : Nat} {ret : Option FieldType} {rm : Room} {D : va_G} {y : Nat → ClassId} {av : List Value} {PH : Heap → Prop} {x : Int32} (hz : plainName z.cls = true) (hn : (lg_sl av).length ≤ n)
    (h : ∀ (p : Program) (e : Env) (s : State) (m : MethodId) (args : Array Value) (below : List Frame) (meth : Method) (c : Code), cx p s m args meth c b n ret z.cls D y → PH s.heap → ∀ ls, lv_has ls n (lv_args 0 av) → gr p l e rm s m args below meth c x (F0 m 0 ls [])) :
    Met l z (wy_s z b n ret) rm (pc_R D y av PH) (qc_R x) 0 0 (fun _ => False) := by
  refine Met.ofW (cc := b) (maxL := n) (ret := ret) hz rfl ?_
  intro p e s m args below meth c s₁ B hml hv
  obtain ⟨rfl, hP, hK⟩ := hv
  have hts := atoms_spec (ws := wy_s z b n ret) B.pre
  have hl := lv_entry av (n := n) hn
  rw [lg_entry_eq]
  exact h p e s m _ below meth c ⟨B.exec, B.bytes, hml, findClass_of_methodNamed B.named, fun w hw => hts w (List.mem_cons_of_mem _ hw), hK, B.returns, B.notSynchronized⟩ hP _ hl
/-- a contract out of a walk: a method that writes -/
theorem met_W {l : Launch} {z : MethodName} {b : ByteArray} {n : Nat} {ret : Option FieldType} {rm : Room} {D : va_G} {y : Nat → ClassId} {av : List Value} {PH PH1 : Heap → Prop} {ov : Option Value} {A : Nat → Prop} {mc ms : Nat} (hz : plainName z.cls = true) (hn : (lg_sl av).length ≤ n)
    (h : ∀ (p : Program) (e : Env) (s : State) (m : MethodId) (args : Array Value) (below : List Frame) (meth : Method) (c : Code), cx p s m args meth c b n ret z.cls D y → (meth.name = z.name) → PH s.heap → ∀ ls, lv_has ls n (lv_args 0 av) → W p l e rm s m args below meth c s.heap [] 0 0 (MQ below (qc_W ov PH1 A) args s mc ms A) (F0 m 0 ls [])) :
    Met l z (wy_s z b n ret) rm (pc_R D y av PH) (qc_W ov PH1 A) mc ms A := by
  refine Met.ofW (cc := b) (maxL := n) (ret := ret) hz rfl ?_
  intro p e s m args below meth c s₁ B hml hv
  obtain ⟨rfl, hP, hK⟩ := hv
  have hts := atoms_spec (ws := wy_s z b n ret) B.pre
  have hl := lv_entry av (n := n) hn
  rw [lg_entry_eq]
  exact h p e s m _ below meth c ⟨B.exec, B.bytes, hml, findClass_of_methodNamed B.named, fun w hw => hts w (List.mem_cons_of_mem _ hw), hK, B.returns, B.notSynchronized⟩ (name_of_methodNamed B.named B.method).1 hP _ hl
end
section
/-! shapes of the worlds, and rows for each field, array, call -/
def ap_s (n : Nat) (P : Nat → Prop) (A : Nat → Nat) : Prop := (∀ i j, i < n → j < n → A i = A j → i = j) ∧ ∀ i, i < n → P (A i)
def aj_s (n : Nat) (A : Nat → Nat) : Prop := ∀ i j, i < n → j < n → A i = A j → i = j
def ax_s (n : Nat) (A : Nat → Nat) (k : Nat) (B : Nat → Nat) : Prop := ∀ i j, i < n → j < k → A i ≠ B j
def rg_s (n : Nat) (A : Nat → Nat) (sz : Nat) : Nat → Prop := fun q => (∃ i, i < n ∧ q = A i) ∨ sz ≤ q
theorem ap_of {n : Nat} {A : Nat → Nat} {sz : Nat} (h : aj_s n A) : ap_s n (rg_s n A sz) A := ⟨h, fun i hi => Or.inl ⟨i, hi, rfl⟩⟩
theorem rg_up {n : Nat} {A : Nat → Nat} {sz sz' : Nat} (h : sz ≤ sz') : ∀ q, rg_s n A sz' q → rg_s n A sz q := fun q hq => hq.imp id (fun k => Nat.le_trans h k)
theorem ws_at {ws : va_W} {n : Nat} {A : Nat → Nat} (hw : ws.map (fun q => q.1) = (List.range n).map A) {k : Nat} {q : Nat × va_E} (hk : ws[k]? = some q) : k < n ∧ q.1 = A k := by
  have h1 : (ws.map (fun q => q.1))[k]? = some q.1 := by rw [List.getElem?_map, hk]; rfl
  rw [hw, List.getElem?_map] at h1
  by_cases hn : k < n
  · rw [List.getElem?_range hn] at h1
    exact ⟨hn, (Option.some.inj h1).symm⟩
  · rw [List.getElem?_eq_none (by rw [List.length_range]; omega)] at h1
    cases h1
theorem ap_D {ws : va_W} {n : Nat} {P : Nat → Prop} {A : Nat → Nat} (h : ap_s n P A) (hw : ws.map (fun q => q.1) = (List.range n).map A) : va_D P ws := by
  refine ⟨fun i j p q hi hj he => ?_, fun k q hk => ?_⟩
  · obtain ⟨h1, e1⟩ := ws_at hw hi
    obtain ⟨h2, e2⟩ := ws_at hw hj
    exact h.1 i j h1 h2 (by rw [← e1, ← e2]; exact he)
  · obtain ⟨h1, e1⟩ := ws_at hw hk
    rw [e1]; exact h.2 k h1
theorem ro_P {D : va_G} {cl : List vw_C} {ws : va_W} {P : Nat → Prop} {H0 H : Heap} {locs : List Loc} (h : va_P D cl ws H0) (hS : va_S P H0 H locs) (hn : ∀ q ∈ ws.map (fun q => q.1), ¬ P q) : va_P D cl ws H :=
  h.kept (fun k q hk => hS.2.1 q.1 (h k q hk).lt (hn _ (List.mem_map.mpr ⟨q, List.mem_of_getElem? hk, rfl⟩)))
theorem lt_of {D : va_G} {cl : List vw_C} {ws : va_W} {H : Heap} {k : Nat} {B : Nat → Nat} (h : va_P D cl ws H) (hw : ws.map (fun q => q.1) = (List.range k).map B) (i : Nat) (hi : i < k) : B i < H.size := by
  have h1 : (ws.map (fun q => q.1))[i]? = some (B i) := by rw [hw, List.getElem?_map, List.getElem?_range hi]; rfl
  rw [List.getElem?_map] at h1
  cases hq : ws[i]? with
  | none => rw [hq] at h1; cases h1
  | some q =>
    rw [hq] at h1
    have e : q.1 = B i := Option.some.inj h1
    rw [← e]; exact (h i q hq).lt
theorem ax_of {n : Nat} {A : Nat → Nat} {k : Nat} {B : Nat → Nat} {sz : Nat} {ws : va_W} (h : ax_s n A k B) (hl : ∀ i, i < k → B i < sz) (hw : ws.map (fun q => q.1) = (List.range k).map B) : ∀ q ∈ ws.map (fun q => q.1), ¬ rg_s n A sz q := by
  intro q hq hr
  rw [hw] at hq
  obtain ⟨j, hj, rfl⟩ := List.mem_map.mp hq
  have hj2 := List.mem_range.mp hj
  rcases hr with ⟨i, hi, e⟩ | h2
  · exact h i j hi hj2 e.symm
  · exact absurd (hl j hj2) (Nat.not_lt.mpr h2)
abbrev w1_s (y : Nat → ClassId) (A : Nat → Nat) (F : Nat → Int32) (R : Nat → Nat → Int32) : va_W := [(A 0, .inr (1, [.int (F 0), .int (F 1), .int (F 2), .ref (A 1), .ref (A 2), .ref (A 3), .ref (A 4), .ref (A 5)])), (A 1, .inl (y 0, 25, .inl (R 0))), (A 2, .inl (y 0, 25, .inl (R 1))), (A 3, .inl (y 0, 25, .inl (R 2))), (A 4, .inl (y 0, 25, .inl (R 3))), (A 5, .inl (y 0, 25, .inl (R 4)))]
abbrev w2_s (y : Nat → ClassId) (lay : Nat) (A : Nat → Nat) (F : Nat → Int32) (R : Nat → Nat → Int32) : va_W := [(A 0, .inr (2, [.ref lay, .int (F 1), .int (F 2), .int (F 3), .int (F 4), .int (F 5), .int (F 6), .int (F 7), .int (F 8), .int (F 9), .int (F 10), .ref (A 1), .ref (A 2), .ref (A 3), .ref (A 4)])), (A 1, .inl (y 0, 60, .inl (R 0))), (A 2, .inl (y 0, 60, .inl (R 1))), (A 3, .inl (y 0, 60, .inl (R 2))), (A 4, .inl (y 0, 25, .inl (R 3)))]
abbrev w3_s (y : Nat → ClassId) (A : Nat → Nat) (F : Nat → Int32) (R : Nat → Nat → Int32) : va_W := [(A 0, .inr (3, [.int (F 0), .int (F 1), .int (F 2), .ref (A 1), .ref (A 2), .ref (A 3), .ref (A 4)])), (A 1, .inl (y 0, 33, .inl (R 0))), (A 2, .inl (y 0, 33, .inl (R 1))), (A 3, .inl (y 0, 33, .inl (R 2))), (A 4, .inl (y 0, 100, .inl (R 3)))]
abbrev w5_s (y : Nat → ClassId) (A : Nat → Nat) (F : Nat → Int32) (R : Nat → Nat → Int32) : va_W := [(A 0, .inr (5, [.ref (A 1), .ref (A 2), .int (F 2), .ref (A 3), .ref (A 4), .ref (A 5), .int (F 6), .int (F 7), .ref (A 6), .int (F 9), .int (F 10)])), (A 1, .inl (y 0, 194, .inl (R 0))), (A 2, .inl (y 0, 1164, .inl (R 1))), (A 3, .inl (y 0, 388, .inl (R 2))), (A 4, .inl (y 2, 2, .inl (R 3))), (A 5, .inl (y 1, 100, .inl (R 4))), (A 6, .inl (y 2, 28, .inl (R 5)))]
end
section
theorem bit_1 (x : Int32) : x &&& 1 = 0 ∨ x &&& 1 = 1 := by
  obtain ⟨j, hj, e⟩ := pk_andE x (m := 1) 1 (by decide)
  rcases (show j = 0 ∨ j = 1 by omega) with rfl | rfl
  · exact Or.inl e
  · exact Or.inr e
theorem fit_z (x : Int32) : fits .boolean (.int (x &&& 1)) = true := by
  rcases bit_1 x with h | h <;> rw [h] <;> rfl
section ROWS
variable {p : Program} {l : Launch} {e : Env} {RM : Room} {s : State} {m : MethodId} {args : Array Value} {below : List Frame} {meth : Method} {c : Code} {H H0 : Heap} {locs : List Loc} {cells slots : Nat} {Q : State → Prop}
variable {cc : ByteArray} {nL pc : Nat} {ret : Option FieldType} {own : String} {D : va_G} {y : Nat → ClassId} {ls : Array Slot} {rest st0 : List Value} {lay : Nat} {A : Nat → Nat} {F : Nat → Int32} {R : Nat → Nat → Int32} {P : Nat → Prop}
theorem rec_1 (X : cx p s m args meth c cc nL ret own D y) (hP : va_P D vwCl (w1_s y A F R) H) : ∃ cell : Cell, H[A 0]? = some cell ∧ cell.vm.isStatics = false ∧ s.vm.findClass RX1 = some cell.cls := va_recv (cx_K X).1 hP (ci := 1) (q0 := 0) rfl rfl
theorem apD_1 (h : ap_s 6 P A) : va_D P (w1_s y A F R) := ap_D h rfl
theorem ld_1_0 (X : cx p s m args meth c cc nL ret own D y) (hP : va_P D vwCl (w1_s y A F R) H) {i : Int32} (hi : inb i 25) (hdg : decode cc pc = .ok (.iaload, 1)) (kk : W p l e RM s m args below meth c H locs cells slots Q (F0 m (pc + 1) ls (.int (R 0 i.toNatClampNeg) :: rest))) : W p l e RM s m args below meth c H locs cells slots Q (F0 m pc ls (.int i :: .ref (A 1) :: rest)) := va_iald (cx_x X) (cx_b X) (cx_K X).1 hP 1 0 rfl rfl hi hdg kk
theorem st_1_0 (X : cx p s m args meth c cc nL ret own D y) (hP : va_P D vwCl (w1_s y A F R) H) (hA : ap_s 6 P A) (hS : va_S P H0 H locs) {i x : Int32} (hi : inb i 25) (hdg : decode cc pc = .ok (.iastore, 1)) (kk : ∀ (H1 : Heap) (locs1 : List Loc), va_P D vwCl (w1_s y A F (va_up R 0 (upd (R 0) i.toNatClampNeg x))) H1 → va_S P H0 H1 locs1 → W p l e RM s m args below meth c H1 locs1 cells slots Q (F0 m (pc + 1) ls rest)) : W p l e RM s m args below meth c H locs cells slots Q (F0 m pc ls (.int x :: .int i :: .ref (A 1) :: rest)) := va_iast (cx_x X) (cx_b X) (cx_K X).1 hP (apD_1 hA) hS 1 0 rfl rfl hi hdg (fun H1 locs1 h1 _ h3 => kk H1 locs1 h1 h3)
theorem ld_1_1 (X : cx p s m args meth c cc nL ret own D y) (hP : va_P D vwCl (w1_s y A F R) H) {i : Int32} (hi : inb i 25) (hdg : decode cc pc = .ok (.iaload, 1)) (kk : W p l e RM s m args below meth c H locs cells slots Q (F0 m (pc + 1) ls (.int (R 1 i.toNatClampNeg) :: rest))) : W p l e RM s m args below meth c H locs cells slots Q (F0 m pc ls (.int i :: .ref (A 2) :: rest)) := va_iald (cx_x X) (cx_b X) (cx_K X).1 hP 2 0 rfl rfl hi hdg kk
theorem st_1_1 (X : cx p s m args meth c cc nL ret own D y) (hP : va_P D vwCl (w1_s y A F R) H) (hA : ap_s 6 P A) (hS : va_S P H0 H locs) {i x : Int32} (hi : inb i 25) (hdg : decode cc pc = .ok (.iastore, 1)) (kk : ∀ (H1 : Heap) (locs1 : List Loc), va_P D vwCl (w1_s y A F (va_up R 1 (upd (R 1) i.toNatClampNeg x))) H1 → va_S P H0 H1 locs1 → W p l e RM s m args below meth c H1 locs1 cells slots Q (F0 m (pc + 1) ls rest)) : W p l e RM s m args below meth c H locs cells slots Q (F0 m pc ls (.int x :: .int i :: .ref (A 2) :: rest)) := va_iast (cx_x X) (cx_b X) (cx_K X).1 hP (apD_1 hA) hS 2 0 rfl rfl hi hdg (fun H1 locs1 h1 _ h3 => kk H1 locs1 h1 h3)
theorem ld_1_2 (X : cx p s m args meth c cc nL ret own D y) (hP : va_P D vwCl (w1_s y A F R) H) {i : Int32} (hi : inb i 25) (hdg : decode cc pc = .ok (.iaload, 1)) (kk : W p l e RM s m args below meth c H locs cells slots Q (F0 m (pc + 1) ls (.int (R 2 i.toNatClampNeg) :: rest))) : W p l e RM s m args below meth c H locs cells slots Q (F0 m pc ls (.int i :: .ref (A 3) :: rest)) := va_iald (cx_x X) (cx_b X) (cx_K X).1 hP 3 0 rfl rfl hi hdg kk
theorem st_1_2 (X : cx p s m args meth c cc nL ret own D y) (hP : va_P D vwCl (w1_s y A F R) H) (hA : ap_s 6 P A) (hS : va_S P H0 H locs) {i x : Int32} (hi : inb i 25) (hdg : decode cc pc = .ok (.iastore, 1)) (kk : ∀ (H1 : Heap) (locs1 : List Loc), va_P D vwCl (w1_s y A F (va_up R 2 (upd (R 2) i.toNatClampNeg x))) H1 → va_S P H0 H1 locs1 → W p l e RM s m args below meth c H1 locs1 cells slots Q (F0 m (pc + 1) ls rest)) : W p l e RM s m args below meth c H locs cells slots Q (F0 m pc ls (.int x :: .int i :: .ref (A 3) :: rest)) := va_iast (cx_x X) (cx_b X) (cx_K X).1 hP (apD_1 hA) hS 3 0 rfl rfl hi hdg (fun H1 locs1 h1 _ h3 => kk H1 locs1 h1 h3)
theorem ld_1_3 (X : cx p s m args meth c cc nL ret own D y) (hP : va_P D vwCl (w1_s y A F R) H) {i : Int32} (hi : inb i 25) (hdg : decode cc pc = .ok (.iaload, 1)) (kk : W p l e RM s m args below meth c H locs cells slots Q (F0 m (pc + 1) ls (.int (R 3 i.toNatClampNeg) :: rest))) : W p l e RM s m args below meth c H locs cells slots Q (F0 m pc ls (.int i :: .ref (A 4) :: rest)) := va_iald (cx_x X) (cx_b X) (cx_K X).1 hP 4 0 rfl rfl hi hdg kk
theorem st_1_3 (X : cx p s m args meth c cc nL ret own D y) (hP : va_P D vwCl (w1_s y A F R) H) (hA : ap_s 6 P A) (hS : va_S P H0 H locs) {i x : Int32} (hi : inb i 25) (hdg : decode cc pc = .ok (.iastore, 1)) (kk : ∀ (H1 : Heap) (locs1 : List Loc), va_P D vwCl (w1_s y A F (va_up R 3 (upd (R 3) i.toNatClampNeg x))) H1 → va_S P H0 H1 locs1 → W p l e RM s m args below meth c H1 locs1 cells slots Q (F0 m (pc + 1) ls rest)) : W p l e RM s m args below meth c H locs cells slots Q (F0 m pc ls (.int x :: .int i :: .ref (A 4) :: rest)) := va_iast (cx_x X) (cx_b X) (cx_K X).1 hP (apD_1 hA) hS 4 0 rfl rfl hi hdg (fun H1 locs1 h1 _ h3 => kk H1 locs1 h1 h3)
theorem ld_1_4 (X : cx p s m args meth c cc nL ret own D y) (hP : va_P D vwCl (w1_s y A F R) H) {i : Int32} (hi : inb i 25) (hdg : decode cc pc = .ok (.iaload, 1)) (kk : W p l e RM s m args below meth c H locs cells slots Q (F0 m (pc + 1) ls (.int (R 4 i.toNatClampNeg) :: rest))) : W p l e RM s m args below meth c H locs cells slots Q (F0 m pc ls (.int i :: .ref (A 5) :: rest)) := va_iald (cx_x X) (cx_b X) (cx_K X).1 hP 5 0 rfl rfl hi hdg kk
theorem st_1_4 (X : cx p s m args meth c cc nL ret own D y) (hP : va_P D vwCl (w1_s y A F R) H) (hA : ap_s 6 P A) (hS : va_S P H0 H locs) {i x : Int32} (hi : inb i 25) (hdg : decode cc pc = .ok (.iastore, 1)) (kk : ∀ (H1 : Heap) (locs1 : List Loc), va_P D vwCl (w1_s y A F (va_up R 4 (upd (R 4) i.toNatClampNeg x))) H1 → va_S P H0 H1 locs1 → W p l e RM s m args below meth c H1 locs1 cells slots Q (F0 m (pc + 1) ls rest)) : W p l e RM s m args below meth c H locs cells slots Q (F0 m pc ls (.int x :: .int i :: .ref (A 5) :: rest)) := va_iast (cx_x X) (cx_b X) (cx_K X).1 hP (apD_1 hA) hS 5 0 rfl rfl hi hdg (fun H1 locs1 h1 _ h3 => kk H1 locs1 h1 h3)
theorem rec_2 (X : cx p s m args meth c cc nL ret own D y) (hP : va_P D vwCl (w2_s y lay A F R) H) : ∃ cell : Cell, H[A 0]? = some cell ∧ cell.vm.isStatics = false ∧ s.vm.findClass RX2 = some cell.cls := va_recv (cx_K X).1 hP (ci := 2) (q0 := 0) rfl rfl
theorem apD_2 (h : ap_s 5 P A) : va_D P (w2_s y lay A F R) := ap_D h rfl
theorem ld_2_0 (X : cx p s m args meth c cc nL ret own D y) (hP : va_P D vwCl (w2_s y lay A F R) H) {i : Int32} (hi : inb i 60) (hdg : decode cc pc = .ok (.iaload, 1)) (kk : W p l e RM s m args below meth c H locs cells slots Q (F0 m (pc + 1) ls (.int (R 0 i.toNatClampNeg) :: rest))) : W p l e RM s m args below meth c H locs cells slots Q (F0 m pc ls (.int i :: .ref (A 1) :: rest)) := va_iald (cx_x X) (cx_b X) (cx_K X).1 hP 1 0 rfl rfl hi hdg kk
theorem st_2_0 (X : cx p s m args meth c cc nL ret own D y) (hP : va_P D vwCl (w2_s y lay A F R) H) (hA : ap_s 5 P A) (hS : va_S P H0 H locs) {i x : Int32} (hi : inb i 60) (hdg : decode cc pc = .ok (.iastore, 1)) (kk : ∀ (H1 : Heap) (locs1 : List Loc), va_P D vwCl (w2_s y lay A F (va_up R 0 (upd (R 0) i.toNatClampNeg x))) H1 → va_S P H0 H1 locs1 → W p l e RM s m args below meth c H1 locs1 cells slots Q (F0 m (pc + 1) ls rest)) : W p l e RM s m args below meth c H locs cells slots Q (F0 m pc ls (.int x :: .int i :: .ref (A 1) :: rest)) := va_iast (cx_x X) (cx_b X) (cx_K X).1 hP (apD_2 hA) hS 1 0 rfl rfl hi hdg (fun H1 locs1 h1 _ h3 => kk H1 locs1 h1 h3)
theorem ld_2_1 (X : cx p s m args meth c cc nL ret own D y) (hP : va_P D vwCl (w2_s y lay A F R) H) {i : Int32} (hi : inb i 60) (hdg : decode cc pc = .ok (.iaload, 1)) (kk : W p l e RM s m args below meth c H locs cells slots Q (F0 m (pc + 1) ls (.int (R 1 i.toNatClampNeg) :: rest))) : W p l e RM s m args below meth c H locs cells slots Q (F0 m pc ls (.int i :: .ref (A 2) :: rest)) := va_iald (cx_x X) (cx_b X) (cx_K X).1 hP 2 0 rfl rfl hi hdg kk
theorem st_2_1 (X : cx p s m args meth c cc nL ret own D y) (hP : va_P D vwCl (w2_s y lay A F R) H) (hA : ap_s 5 P A) (hS : va_S P H0 H locs) {i x : Int32} (hi : inb i 60) (hdg : decode cc pc = .ok (.iastore, 1)) (kk : ∀ (H1 : Heap) (locs1 : List Loc), va_P D vwCl (w2_s y lay A F (va_up R 1 (upd (R 1) i.toNatClampNeg x))) H1 → va_S P H0 H1 locs1 → W p l e RM s m args below meth c H1 locs1 cells slots Q (F0 m (pc + 1) ls rest)) : W p l e RM s m args below meth c H locs cells slots Q (F0 m pc ls (.int x :: .int i :: .ref (A 2) :: rest)) := va_iast (cx_x X) (cx_b X) (cx_K X).1 hP (apD_2 hA) hS 2 0 rfl rfl hi hdg (fun H1 locs1 h1 _ h3 => kk H1 locs1 h1 h3)
theorem ld_2_2 (X : cx p s m args meth c cc nL ret own D y) (hP : va_P D vwCl (w2_s y lay A F R) H) {i : Int32} (hi : inb i 60) (hdg : decode cc pc = .ok (.iaload, 1)) (kk : W p l e RM s m args below meth c H locs cells slots Q (F0 m (pc + 1) ls (.int (R 2 i.toNatClampNeg) :: rest))) : W p l e RM s m args below meth c H locs cells slots Q (F0 m pc ls (.int i :: .ref (A 3) :: rest)) := va_iald (cx_x X) (cx_b X) (cx_K X).1 hP 3 0 rfl rfl hi hdg kk
theorem st_2_2 (X : cx p s m args meth c cc nL ret own D y) (hP : va_P D vwCl (w2_s y lay A F R) H) (hA : ap_s 5 P A) (hS : va_S P H0 H locs) {i x : Int32} (hi : inb i 60) (hdg : decode cc pc = .ok (.iastore, 1)) (kk : ∀ (H1 : Heap) (locs1 : List Loc), va_P D vwCl (w2_s y lay A F (va_up R 2 (upd (R 2) i.toNatClampNeg x))) H1 → va_S P H0 H1 locs1 → W p l e RM s m args below meth c H1 locs1 cells slots Q (F0 m (pc + 1) ls rest)) : W p l e RM s m args below meth c H locs cells slots Q (F0 m pc ls (.int x :: .int i :: .ref (A 3) :: rest)) := va_iast (cx_x X) (cx_b X) (cx_K X).1 hP (apD_2 hA) hS 3 0 rfl rfl hi hdg (fun H1 locs1 h1 _ h3 => kk H1 locs1 h1 h3)
theorem ld_2_3 (X : cx p s m args meth c cc nL ret own D y) (hP : va_P D vwCl (w2_s y lay A F R) H) {i : Int32} (hi : inb i 25) (hdg : decode cc pc = .ok (.iaload, 1)) (kk : W p l e RM s m args below meth c H locs cells slots Q (F0 m (pc + 1) ls (.int (R 3 i.toNatClampNeg) :: rest))) : W p l e RM s m args below meth c H locs cells slots Q (F0 m pc ls (.int i :: .ref (A 4) :: rest)) := va_iald (cx_x X) (cx_b X) (cx_K X).1 hP 4 0 rfl rfl hi hdg kk
theorem st_2_3 (X : cx p s m args meth c cc nL ret own D y) (hP : va_P D vwCl (w2_s y lay A F R) H) (hA : ap_s 5 P A) (hS : va_S P H0 H locs) {i x : Int32} (hi : inb i 25) (hdg : decode cc pc = .ok (.iastore, 1)) (kk : ∀ (H1 : Heap) (locs1 : List Loc), va_P D vwCl (w2_s y lay A F (va_up R 3 (upd (R 3) i.toNatClampNeg x))) H1 → va_S P H0 H1 locs1 → W p l e RM s m args below meth c H1 locs1 cells slots Q (F0 m (pc + 1) ls rest)) : W p l e RM s m args below meth c H locs cells slots Q (F0 m pc ls (.int x :: .int i :: .ref (A 4) :: rest)) := va_iast (cx_x X) (cx_b X) (cx_K X).1 hP (apD_2 hA) hS 4 0 rfl rfl hi hdg (fun H1 locs1 h1 _ h3 => kk H1 locs1 h1 h3)
theorem rec_3 (X : cx p s m args meth c cc nL ret own D y) (hP : va_P D vwCl (w3_s y A F R) H) : ∃ cell : Cell, H[A 0]? = some cell ∧ cell.vm.isStatics = false ∧ s.vm.findClass RX3 = some cell.cls := va_recv (cx_K X).1 hP (ci := 3) (q0 := 0) rfl rfl
theorem apD_3 (h : ap_s 5 P A) : va_D P (w3_s y A F R) := ap_D h rfl
theorem ld_3_0 (X : cx p s m args meth c cc nL ret own D y) (hP : va_P D vwCl (w3_s y A F R) H) {i : Int32} (hi : inb i 33) (hdg : decode cc pc = .ok (.iaload, 1)) (kk : W p l e RM s m args below meth c H locs cells slots Q (F0 m (pc + 1) ls (.int (R 0 i.toNatClampNeg) :: rest))) : W p l e RM s m args below meth c H locs cells slots Q (F0 m pc ls (.int i :: .ref (A 1) :: rest)) := va_iald (cx_x X) (cx_b X) (cx_K X).1 hP 1 0 rfl rfl hi hdg kk
theorem st_3_0 (X : cx p s m args meth c cc nL ret own D y) (hP : va_P D vwCl (w3_s y A F R) H) (hA : ap_s 5 P A) (hS : va_S P H0 H locs) {i x : Int32} (hi : inb i 33) (hdg : decode cc pc = .ok (.iastore, 1)) (kk : ∀ (H1 : Heap) (locs1 : List Loc), va_P D vwCl (w3_s y A F (va_up R 0 (upd (R 0) i.toNatClampNeg x))) H1 → va_S P H0 H1 locs1 → W p l e RM s m args below meth c H1 locs1 cells slots Q (F0 m (pc + 1) ls rest)) : W p l e RM s m args below meth c H locs cells slots Q (F0 m pc ls (.int x :: .int i :: .ref (A 1) :: rest)) := va_iast (cx_x X) (cx_b X) (cx_K X).1 hP (apD_3 hA) hS 1 0 rfl rfl hi hdg (fun H1 locs1 h1 _ h3 => kk H1 locs1 h1 h3)
theorem ld_3_1 (X : cx p s m args meth c cc nL ret own D y) (hP : va_P D vwCl (w3_s y A F R) H) {i : Int32} (hi : inb i 33) (hdg : decode cc pc = .ok (.iaload, 1)) (kk : W p l e RM s m args below meth c H locs cells slots Q (F0 m (pc + 1) ls (.int (R 1 i.toNatClampNeg) :: rest))) : W p l e RM s m args below meth c H locs cells slots Q (F0 m pc ls (.int i :: .ref (A 2) :: rest)) := va_iald (cx_x X) (cx_b X) (cx_K X).1 hP 2 0 rfl rfl hi hdg kk
theorem st_3_1 (X : cx p s m args meth c cc nL ret own D y) (hP : va_P D vwCl (w3_s y A F R) H) (hA : ap_s 5 P A) (hS : va_S P H0 H locs) {i x : Int32} (hi : inb i 33) (hdg : decode cc pc = .ok (.iastore, 1)) (kk : ∀ (H1 : Heap) (locs1 : List Loc), va_P D vwCl (w3_s y A F (va_up R 1 (upd (R 1) i.toNatClampNeg x))) H1 → va_S P H0 H1 locs1 → W p l e RM s m args below meth c H1 locs1 cells slots Q (F0 m (pc + 1) ls rest)) : W p l e RM s m args below meth c H locs cells slots Q (F0 m pc ls (.int x :: .int i :: .ref (A 2) :: rest)) := va_iast (cx_x X) (cx_b X) (cx_K X).1 hP (apD_3 hA) hS 2 0 rfl rfl hi hdg (fun H1 locs1 h1 _ h3 => kk H1 locs1 h1 h3)
theorem ld_3_2 (X : cx p s m args meth c cc nL ret own D y) (hP : va_P D vwCl (w3_s y A F R) H) {i : Int32} (hi : inb i 33) (hdg : decode cc pc = .ok (.iaload, 1)) (kk : W p l e RM s m args below meth c H locs cells slots Q (F0 m (pc + 1) ls (.int (R 2 i.toNatClampNeg) :: rest))) : W p l e RM s m args below meth c H locs cells slots Q (F0 m pc ls (.int i :: .ref (A 3) :: rest)) := va_iald (cx_x X) (cx_b X) (cx_K X).1 hP 3 0 rfl rfl hi hdg kk
theorem st_3_2 (X : cx p s m args meth c cc nL ret own D y) (hP : va_P D vwCl (w3_s y A F R) H) (hA : ap_s 5 P A) (hS : va_S P H0 H locs) {i x : Int32} (hi : inb i 33) (hdg : decode cc pc = .ok (.iastore, 1)) (kk : ∀ (H1 : Heap) (locs1 : List Loc), va_P D vwCl (w3_s y A F (va_up R 2 (upd (R 2) i.toNatClampNeg x))) H1 → va_S P H0 H1 locs1 → W p l e RM s m args below meth c H1 locs1 cells slots Q (F0 m (pc + 1) ls rest)) : W p l e RM s m args below meth c H locs cells slots Q (F0 m pc ls (.int x :: .int i :: .ref (A 3) :: rest)) := va_iast (cx_x X) (cx_b X) (cx_K X).1 hP (apD_3 hA) hS 3 0 rfl rfl hi hdg (fun H1 locs1 h1 _ h3 => kk H1 locs1 h1 h3)
theorem ld_3_3 (X : cx p s m args meth c cc nL ret own D y) (hP : va_P D vwCl (w3_s y A F R) H) {i : Int32} (hi : inb i 100) (hdg : decode cc pc = .ok (.iaload, 1)) (kk : W p l e RM s m args below meth c H locs cells slots Q (F0 m (pc + 1) ls (.int (R 3 i.toNatClampNeg) :: rest))) : W p l e RM s m args below meth c H locs cells slots Q (F0 m pc ls (.int i :: .ref (A 4) :: rest)) := va_iald (cx_x X) (cx_b X) (cx_K X).1 hP 4 0 rfl rfl hi hdg kk
theorem st_3_3 (X : cx p s m args meth c cc nL ret own D y) (hP : va_P D vwCl (w3_s y A F R) H) (hA : ap_s 5 P A) (hS : va_S P H0 H locs) {i x : Int32} (hi : inb i 100) (hdg : decode cc pc = .ok (.iastore, 1)) (kk : ∀ (H1 : Heap) (locs1 : List Loc), va_P D vwCl (w3_s y A F (va_up R 3 (upd (R 3) i.toNatClampNeg x))) H1 → va_S P H0 H1 locs1 → W p l e RM s m args below meth c H1 locs1 cells slots Q (F0 m (pc + 1) ls rest)) : W p l e RM s m args below meth c H locs cells slots Q (F0 m pc ls (.int x :: .int i :: .ref (A 4) :: rest)) := va_iast (cx_x X) (cx_b X) (cx_K X).1 hP (apD_3 hA) hS 4 0 rfl rfl hi hdg (fun H1 locs1 h1 _ h3 => kk H1 locs1 h1 h3)
theorem rec_5 (X : cx p s m args meth c cc nL ret own D y) (hP : va_P D vwCl (w5_s y A F R) H) : ∃ cell : Cell, H[A 0]? = some cell ∧ cell.vm.isStatics = false ∧ s.vm.findClass RX5 = some cell.cls := va_recv (cx_K X).1 hP (ci := 5) (q0 := 0) rfl rfl
theorem apD_5 (h : ap_s 7 P A) : va_D P (w5_s y A F R) := ap_D h rfl
theorem ld_5_0 (X : cx p s m args meth c cc nL ret own D y) (hP : va_P D vwCl (w5_s y A F R) H) {i : Int32} (hi : inb i 194) (hdg : decode cc pc = .ok (.iaload, 1)) (kk : W p l e RM s m args below meth c H locs cells slots Q (F0 m (pc + 1) ls (.int (R 0 i.toNatClampNeg) :: rest))) : W p l e RM s m args below meth c H locs cells slots Q (F0 m pc ls (.int i :: .ref (A 1) :: rest)) := va_iald (cx_x X) (cx_b X) (cx_K X).1 hP 1 0 rfl rfl hi hdg kk
theorem st_5_0 (X : cx p s m args meth c cc nL ret own D y) (hP : va_P D vwCl (w5_s y A F R) H) (hA : ap_s 7 P A) (hS : va_S P H0 H locs) {i x : Int32} (hi : inb i 194) (hdg : decode cc pc = .ok (.iastore, 1)) (kk : ∀ (H1 : Heap) (locs1 : List Loc), va_P D vwCl (w5_s y A F (va_up R 0 (upd (R 0) i.toNatClampNeg x))) H1 → va_S P H0 H1 locs1 → W p l e RM s m args below meth c H1 locs1 cells slots Q (F0 m (pc + 1) ls rest)) : W p l e RM s m args below meth c H locs cells slots Q (F0 m pc ls (.int x :: .int i :: .ref (A 1) :: rest)) := va_iast (cx_x X) (cx_b X) (cx_K X).1 hP (apD_5 hA) hS 1 0 rfl rfl hi hdg (fun H1 locs1 h1 _ h3 => kk H1 locs1 h1 h3)
theorem ld_5_1 (X : cx p s m args meth c cc nL ret own D y) (hP : va_P D vwCl (w5_s y A F R) H) {i : Int32} (hi : inb i 1164) (hdg : decode cc pc = .ok (.iaload, 1)) (kk : W p l e RM s m args below meth c H locs cells slots Q (F0 m (pc + 1) ls (.int (R 1 i.toNatClampNeg) :: rest))) : W p l e RM s m args below meth c H locs cells slots Q (F0 m pc ls (.int i :: .ref (A 2) :: rest)) := va_iald (cx_x X) (cx_b X) (cx_K X).1 hP 2 0 rfl rfl hi hdg kk
theorem st_5_1 (X : cx p s m args meth c cc nL ret own D y) (hP : va_P D vwCl (w5_s y A F R) H) (hA : ap_s 7 P A) (hS : va_S P H0 H locs) {i x : Int32} (hi : inb i 1164) (hdg : decode cc pc = .ok (.iastore, 1)) (kk : ∀ (H1 : Heap) (locs1 : List Loc), va_P D vwCl (w5_s y A F (va_up R 1 (upd (R 1) i.toNatClampNeg x))) H1 → va_S P H0 H1 locs1 → W p l e RM s m args below meth c H1 locs1 cells slots Q (F0 m (pc + 1) ls rest)) : W p l e RM s m args below meth c H locs cells slots Q (F0 m pc ls (.int x :: .int i :: .ref (A 2) :: rest)) := va_iast (cx_x X) (cx_b X) (cx_K X).1 hP (apD_5 hA) hS 2 0 rfl rfl hi hdg (fun H1 locs1 h1 _ h3 => kk H1 locs1 h1 h3)
theorem ld_5_2 (X : cx p s m args meth c cc nL ret own D y) (hP : va_P D vwCl (w5_s y A F R) H) {i : Int32} (hi : inb i 388) (hdg : decode cc pc = .ok (.iaload, 1)) (kk : W p l e RM s m args below meth c H locs cells slots Q (F0 m (pc + 1) ls (.int (R 2 i.toNatClampNeg) :: rest))) : W p l e RM s m args below meth c H locs cells slots Q (F0 m pc ls (.int i :: .ref (A 3) :: rest)) := va_iald (cx_x X) (cx_b X) (cx_K X).1 hP 3 0 rfl rfl hi hdg kk
theorem st_5_2 (X : cx p s m args meth c cc nL ret own D y) (hP : va_P D vwCl (w5_s y A F R) H) (hA : ap_s 7 P A) (hS : va_S P H0 H locs) {i x : Int32} (hi : inb i 388) (hdg : decode cc pc = .ok (.iastore, 1)) (kk : ∀ (H1 : Heap) (locs1 : List Loc), va_P D vwCl (w5_s y A F (va_up R 2 (upd (R 2) i.toNatClampNeg x))) H1 → va_S P H0 H1 locs1 → W p l e RM s m args below meth c H1 locs1 cells slots Q (F0 m (pc + 1) ls rest)) : W p l e RM s m args below meth c H locs cells slots Q (F0 m pc ls (.int x :: .int i :: .ref (A 3) :: rest)) := va_iast (cx_x X) (cx_b X) (cx_K X).1 hP (apD_5 hA) hS 3 0 rfl rfl hi hdg (fun H1 locs1 h1 _ h3 => kk H1 locs1 h1 h3)
theorem ld_5_3 (X : cx p s m args meth c cc nL ret own D y) (hP : va_P D vwCl (w5_s y A F R) H) {i : Int32} (hi : inb i 2) (hdg : decode cc pc = .ok (.baload, 1)) (kk : W p l e RM s m args below meth c H locs cells slots Q (F0 m (pc + 1) ls (.int (R 3 i.toNatClampNeg) :: rest))) : W p l e RM s m args below meth c H locs cells slots Q (F0 m pc ls (.int i :: .ref (A 4) :: rest)) := va_zald (cx_x X) (cx_b X) (cx_K X).1 hP 4 2 rfl rfl hi hdg kk
theorem st_5_3 (X : cx p s m args meth c cc nL ret own D y) (hP : va_P D vwCl (w5_s y A F R) H) (hA : ap_s 7 P A) (hS : va_S P H0 H locs) {i x : Int32} (hi : inb i 2) (hdg : decode cc pc = .ok (.bastore, 1)) (kk : ∀ (H1 : Heap) (locs1 : List Loc), va_P D vwCl (w5_s y A F (va_up R 3 (upd (R 3) i.toNatClampNeg (vp_nar .boolean x)))) H1 → va_S P H0 H1 locs1 → W p l e RM s m args below meth c H1 locs1 cells slots Q (F0 m (pc + 1) ls rest)) : W p l e RM s m args below meth c H locs cells slots Q (F0 m pc ls (.int x :: .int i :: .ref (A 4) :: rest)) := va_zast (cx_x X) (cx_b X) (cx_K X).1 hP (apD_5 hA) hS 4 2 rfl rfl hi hdg (fun H1 locs1 h1 _ h3 => kk H1 locs1 h1 h3)
theorem ld_5_4 (X : cx p s m args meth c cc nL ret own D y) (hP : va_P D vwCl (w5_s y A F R) H) {i : Int32} (hi : inb i 100) (hdg : decode cc pc = .ok (.baload, 1)) (kk : W p l e RM s m args below meth c H locs cells slots Q (F0 m (pc + 1) ls (.int (R 4 i.toNatClampNeg) :: rest))) : W p l e RM s m args below meth c H locs cells slots Q (F0 m pc ls (.int i :: .ref (A 5) :: rest)) := va_bald (cx_x X) (cx_b X) (cx_K X).1 hP 5 1 rfl rfl hi hdg kk
theorem st_5_4 (X : cx p s m args meth c cc nL ret own D y) (hP : va_P D vwCl (w5_s y A F R) H) (hA : ap_s 7 P A) (hS : va_S P H0 H locs) {i x : Int32} (hi : inb i 100) (hdg : decode cc pc = .ok (.bastore, 1)) (kk : ∀ (H1 : Heap) (locs1 : List Loc), va_P D vwCl (w5_s y A F (va_up R 4 (upd (R 4) i.toNatClampNeg (vp_nar .byte x)))) H1 → va_S P H0 H1 locs1 → W p l e RM s m args below meth c H1 locs1 cells slots Q (F0 m (pc + 1) ls rest)) : W p l e RM s m args below meth c H locs cells slots Q (F0 m pc ls (.int x :: .int i :: .ref (A 5) :: rest)) := va_bast (cx_x X) (cx_b X) (cx_K X).1 hP (apD_5 hA) hS 5 1 rfl rfl hi hdg (fun H1 locs1 h1 _ h3 => kk H1 locs1 h1 h3)
theorem ld_5_5 (X : cx p s m args meth c cc nL ret own D y) (hP : va_P D vwCl (w5_s y A F R) H) {i : Int32} (hi : inb i 28) (hdg : decode cc pc = .ok (.baload, 1)) (kk : W p l e RM s m args below meth c H locs cells slots Q (F0 m (pc + 1) ls (.int (R 5 i.toNatClampNeg) :: rest))) : W p l e RM s m args below meth c H locs cells slots Q (F0 m pc ls (.int i :: .ref (A 6) :: rest)) := va_zald (cx_x X) (cx_b X) (cx_K X).1 hP 6 2 rfl rfl hi hdg kk
theorem st_5_5 (X : cx p s m args meth c cc nL ret own D y) (hP : va_P D vwCl (w5_s y A F R) H) (hA : ap_s 7 P A) (hS : va_S P H0 H locs) {i x : Int32} (hi : inb i 28) (hdg : decode cc pc = .ok (.bastore, 1)) (kk : ∀ (H1 : Heap) (locs1 : List Loc), va_P D vwCl (w5_s y A F (va_up R 5 (upd (R 5) i.toNatClampNeg (vp_nar .boolean x)))) H1 → va_S P H0 H1 locs1 → W p l e RM s m args below meth c H1 locs1 cells slots Q (F0 m (pc + 1) ls rest)) : W p l e RM s m args below meth c H locs cells slots Q (F0 m pc ls (.int x :: .int i :: .ref (A 6) :: rest)) := va_zast (cx_x X) (cx_b X) (cx_K X).1 hP (apD_5 hA) hS 6 2 rfl rfl hi hdg (fun H1 locs1 h1 _ h3 => kk H1 locs1 h1 h3)
theorem gf_X1_9 (X : cx p s m args meth c cc nL ret RX1 D y) (hP : va_P D vwCl (w1_s y A F R) H) (hdg : decode cc pc = .ok (.getfield 9, 3)) (kk : W p l e RM s m args below meth c H locs cells slots Q (F0 m (pc + 3) ls (.ref (A 1) :: rest))) : W p l e RM s m args below meth c H locs cells slots Q (F0 m pc ls (.ref (A 0) :: rest)) := va_get (cx_x X) (cx_b X) (cx_w X) inlX1 (cx_o X) (cx_K X).1 hP 0 rfl rfl 3 (by decide) (cx_w X _ qw_33) (fun _ h => h) rfl hdg kk
theorem gf_X1_15 (X : cx p s m args meth c cc nL ret RX1 D y) (hP : va_P D vwCl (w1_s y A F R) H) (hdg : decode cc pc = .ok (.getfield 15, 3)) (kk : W p l e RM s m args below meth c H locs cells slots Q (F0 m (pc + 3) ls (.ref (A 2) :: rest))) : W p l e RM s m args below meth c H locs cells slots Q (F0 m pc ls (.ref (A 0) :: rest)) := va_get (cx_x X) (cx_b X) (cx_w X) inlX1 (cx_o X) (cx_K X).1 hP 0 rfl rfl 4 (by decide) (cx_w X _ qw_34) (fun _ h => h) rfl hdg kk
theorem gf_X1_18 (X : cx p s m args meth c cc nL ret RX1 D y) (hP : va_P D vwCl (w1_s y A F R) H) (hdg : decode cc pc = .ok (.getfield 18, 3)) (kk : W p l e RM s m args below meth c H locs cells slots Q (F0 m (pc + 3) ls (.ref (A 3) :: rest))) : W p l e RM s m args below meth c H locs cells slots Q (F0 m pc ls (.ref (A 0) :: rest)) := va_get (cx_x X) (cx_b X) (cx_w X) inlX1 (cx_o X) (cx_K X).1 hP 0 rfl rfl 5 (by decide) (cx_w X _ qw_35) (fun _ h => h) rfl hdg kk
theorem gf_X1_21 (X : cx p s m args meth c cc nL ret RX1 D y) (hP : va_P D vwCl (w1_s y A F R) H) (hdg : decode cc pc = .ok (.getfield 21, 3)) (kk : W p l e RM s m args below meth c H locs cells slots Q (F0 m (pc + 3) ls (.ref (A 4) :: rest))) : W p l e RM s m args below meth c H locs cells slots Q (F0 m pc ls (.ref (A 0) :: rest)) := va_get (cx_x X) (cx_b X) (cx_w X) inlX1 (cx_o X) (cx_K X).1 hP 0 rfl rfl 6 (by decide) (cx_w X _ qw_36) (fun _ h => h) rfl hdg kk
theorem gf_X1_24 (X : cx p s m args meth c cc nL ret RX1 D y) (hP : va_P D vwCl (w1_s y A F R) H) (hdg : decode cc pc = .ok (.getfield 24, 3)) (kk : W p l e RM s m args below meth c H locs cells slots Q (F0 m (pc + 3) ls (.ref (A 5) :: rest))) : W p l e RM s m args below meth c H locs cells slots Q (F0 m pc ls (.ref (A 0) :: rest)) := va_get (cx_x X) (cx_b X) (cx_w X) inlX1 (cx_o X) (cx_K X).1 hP 0 rfl rfl 7 (by decide) (cx_w X _ qw_37) (fun _ h => h) rfl hdg kk
theorem gf_X1_27 (X : cx p s m args meth c cc nL ret RX1 D y) (hP : va_P D vwCl (w1_s y A F R) H) (hdg : decode cc pc = .ok (.getfield 27, 3)) (kk : W p l e RM s m args below meth c H locs cells slots Q (F0 m (pc + 3) ls (.int (F 0) :: rest))) : W p l e RM s m args below meth c H locs cells slots Q (F0 m pc ls (.ref (A 0) :: rest)) := va_get (cx_x X) (cx_b X) (cx_w X) inlX1 (cx_o X) (cx_K X).1 hP 0 rfl rfl 0 (by decide) (cx_w X _ qw_38) (fun _ h => h) rfl hdg kk
theorem gf_X1_31 (X : cx p s m args meth c cc nL ret RX1 D y) (hP : va_P D vwCl (w1_s y A F R) H) (hdg : decode cc pc = .ok (.getfield 31, 3)) (kk : W p l e RM s m args below meth c H locs cells slots Q (F0 m (pc + 3) ls (.int (F 1) :: rest))) : W p l e RM s m args below meth c H locs cells slots Q (F0 m pc ls (.ref (A 0) :: rest)) := va_get (cx_x X) (cx_b X) (cx_w X) inlX1 (cx_o X) (cx_K X).1 hP 0 rfl rfl 1 (by decide) (cx_w X _ qw_39) (fun _ h => h) rfl hdg kk
theorem gf_X1_34 (X : cx p s m args meth c cc nL ret RX1 D y) (hP : va_P D vwCl (w1_s y A F R) H) (hdg : decode cc pc = .ok (.getfield 34, 3)) (kk : W p l e RM s m args below meth c H locs cells slots Q (F0 m (pc + 3) ls (.int (F 2) :: rest))) : W p l e RM s m args below meth c H locs cells slots Q (F0 m pc ls (.ref (A 0) :: rest)) := va_get (cx_x X) (cx_b X) (cx_w X) inlX1 (cx_o X) (cx_K X).1 hP 0 rfl rfl 2 (by decide) (cx_w X _ qw_40) (fun _ h => h) rfl hdg kk
theorem gf_X2_9 (X : cx p s m args meth c cc nL ret RX2 D y) (hP : va_P D vwCl (w2_s y lay A F R) H) (hdg : decode cc pc = .ok (.getfield 9, 3)) (kk : W p l e RM s m args below meth c H locs cells slots Q (F0 m (pc + 3) ls (.int (F 3) :: rest))) : W p l e RM s m args below meth c H locs cells slots Q (F0 m pc ls (.ref (A 0) :: rest)) := va_get (cx_x X) (cx_b X) (cx_w X) inlX2 (cx_o X) (cx_K X).1 hP 0 rfl rfl 3 (by decide) (cx_w X _ qw_72) (fun _ h => h) rfl hdg kk
theorem pf_X2_9 (X : cx p s m args meth c cc nL ret RX2 D y) {x : Int32} (hz : x &&& 1 = x) (hP : va_P D vwCl (w2_s y lay A F R) H) (hA : ap_s 5 P A) (hS : va_S P H0 H locs) (hdg : decode cc pc = .ok (.putfield 9, 3)) (kk : ∀ (H1 : Heap) (locs1 : List Loc), va_P D vwCl (w2_s y lay A (va_up F 3 x) R) H1 → va_S P H0 H1 locs1 → W p l e RM s m args below meth c H1 locs1 cells slots Q (F0 m (pc + 3) ls rest)) : W p l e RM s m args below meth c H locs cells slots Q (F0 m pc ls (.int x :: .ref (A 0) :: rest)) := va_put (ty := .boolean) (cx_x X) (cx_b X) (cx_w X) inlX2 tyX2 tyX2_ok nmX2 (cx_o X) (cx_K X).1 hP (apD_2 hA) hS 0 rfl rfl 3 (by decide) (cx_w X _ qw_72) (fun _ h => h) rfl (by decide +kernel) (by show Value.int (x &&& 1) = _; rw [hz]) (by rw [← hz]; exact fit_z x) (Nat.le_of_ble_eq_true rfl) hdg (fun H1 locs1 h1 _ h3 => kk H1 locs1 h1 h3)
theorem gf_X2_15 (X : cx p s m args meth c cc nL ret RX2 D y) (hP : va_P D vwCl (w2_s y lay A F R) H) (hdg : decode cc pc = .ok (.getfield 15, 3)) (kk : W p l e RM s m args below meth c H locs cells slots Q (F0 m (pc + 3) ls (.ref (A 1) :: rest))) : W p l e RM s m args below meth c H locs cells slots Q (F0 m pc ls (.ref (A 0) :: rest)) := va_get (cx_x X) (cx_b X) (cx_w X) inlX2 (cx_o X) (cx_K X).1 hP 0 rfl rfl 11 (by decide) (cx_w X _ qw_73) (fun _ h => h) rfl hdg kk
theorem gf_X2_19 (X : cx p s m args meth c cc nL ret RX2 D y) (hP : va_P D vwCl (w2_s y lay A F R) H) (hdg : decode cc pc = .ok (.getfield 19, 3)) (kk : W p l e RM s m args below meth c H locs cells slots Q (F0 m (pc + 3) ls (.ref (A 2) :: rest))) : W p l e RM s m args below meth c H locs cells slots Q (F0 m pc ls (.ref (A 0) :: rest)) := va_get (cx_x X) (cx_b X) (cx_w X) inlX2 (cx_o X) (cx_K X).1 hP 0 rfl rfl 12 (by decide) (cx_w X _ qw_74) (fun _ h => h) rfl hdg kk
theorem gf_X2_22 (X : cx p s m args meth c cc nL ret RX2 D y) (hP : va_P D vwCl (w2_s y lay A F R) H) (hdg : decode cc pc = .ok (.getfield 22, 3)) (kk : W p l e RM s m args below meth c H locs cells slots Q (F0 m (pc + 3) ls (.ref (A 3) :: rest))) : W p l e RM s m args below meth c H locs cells slots Q (F0 m pc ls (.ref (A 0) :: rest)) := va_get (cx_x X) (cx_b X) (cx_w X) inlX2 (cx_o X) (cx_K X).1 hP 0 rfl rfl 13 (by decide) (cx_w X _ qw_75) (fun _ h => h) rfl hdg kk
theorem gf_X2_25 (X : cx p s m args meth c cc nL ret RX2 D y) (hP : va_P D vwCl (w2_s y lay A F R) H) (hdg : decode cc pc = .ok (.getfield 25, 3)) (kk : W p l e RM s m args below meth c H locs cells slots Q (F0 m (pc + 3) ls (.ref (A 4) :: rest))) : W p l e RM s m args below meth c H locs cells slots Q (F0 m pc ls (.ref (A 0) :: rest)) := va_get (cx_x X) (cx_b X) (cx_w X) inlX2 (cx_o X) (cx_K X).1 hP 0 rfl rfl 14 (by decide) (cx_w X _ qw_76) (fun _ h => h) rfl hdg kk
theorem gf_X2_32 (X : cx p s m args meth c cc nL ret RX2 D y) (hP : va_P D vwCl (w2_s y lay A F R) H) (hdg : decode cc pc = .ok (.getfield 32, 3)) (kk : W p l e RM s m args below meth c H locs cells slots Q (F0 m (pc + 3) ls (.ref lay :: rest))) : W p l e RM s m args below meth c H locs cells slots Q (F0 m pc ls (.ref (A 0) :: rest)) := va_get (cx_x X) (cx_b X) (cx_w X) inlX2 (cx_o X) (cx_K X).1 hP 0 rfl rfl 0 (by decide) (cx_w X _ qw_81) (fun _ h => h) rfl hdg kk
theorem gf_X2_36 (X : cx p s m args meth c cc nL ret RX2 D y) (hP : va_P D vwCl (w2_s y lay A F R) H) (hdg : decode cc pc = .ok (.getfield 36, 3)) (kk : W p l e RM s m args below meth c H locs cells slots Q (F0 m (pc + 3) ls (.int (F 4) :: rest))) : W p l e RM s m args below meth c H locs cells slots Q (F0 m pc ls (.ref (A 0) :: rest)) := va_get (cx_x X) (cx_b X) (cx_w X) inlX2 (cx_o X) (cx_K X).1 hP 0 rfl rfl 4 (by decide) (cx_w X _ qw_82) (fun _ h => h) rfl hdg kk
theorem pf_X2_36 (X : cx p s m args meth c cc nL ret RX2 D y) {x : Int32} (hP : va_P D vwCl (w2_s y lay A F R) H) (hA : ap_s 5 P A) (hS : va_S P H0 H locs) (hdg : decode cc pc = .ok (.putfield 36, 3)) (kk : ∀ (H1 : Heap) (locs1 : List Loc), va_P D vwCl (w2_s y lay A (va_up F 4 x) R) H1 → va_S P H0 H1 locs1 → W p l e RM s m args below meth c H1 locs1 cells slots Q (F0 m (pc + 3) ls rest)) : W p l e RM s m args below meth c H locs cells slots Q (F0 m pc ls (.int x :: .ref (A 0) :: rest)) := va_put (ty := .int) (cx_x X) (cx_b X) (cx_w X) inlX2 tyX2 tyX2_ok nmX2 (cx_o X) (cx_K X).1 hP (apD_2 hA) hS 0 rfl rfl 4 (by decide) (cx_w X _ qw_82) (fun _ h => h) rfl (by decide +kernel) rfl rfl (Nat.le_of_ble_eq_true rfl) hdg (fun H1 locs1 h1 _ h3 => kk H1 locs1 h1 h3)
theorem gf_X2_40 (X : cx p s m args meth c cc nL ret RX2 D y) (hP : va_P D vwCl (w2_s y lay A F R) H) (hdg : decode cc pc = .ok (.getfield 40, 3)) (kk : W p l e RM s m args below meth c H locs cells slots Q (F0 m (pc + 3) ls (.int (F 5) :: rest))) : W p l e RM s m args below meth c H locs cells slots Q (F0 m pc ls (.ref (A 0) :: rest)) := va_get (cx_x X) (cx_b X) (cx_w X) inlX2 (cx_o X) (cx_K X).1 hP 0 rfl rfl 5 (by decide) (cx_w X _ qw_83) (fun _ h => h) rfl hdg kk
theorem pf_X2_40 (X : cx p s m args meth c cc nL ret RX2 D y) {x : Int32} (hP : va_P D vwCl (w2_s y lay A F R) H) (hA : ap_s 5 P A) (hS : va_S P H0 H locs) (hdg : decode cc pc = .ok (.putfield 40, 3)) (kk : ∀ (H1 : Heap) (locs1 : List Loc), va_P D vwCl (w2_s y lay A (va_up F 5 x) R) H1 → va_S P H0 H1 locs1 → W p l e RM s m args below meth c H1 locs1 cells slots Q (F0 m (pc + 3) ls rest)) : W p l e RM s m args below meth c H locs cells slots Q (F0 m pc ls (.int x :: .ref (A 0) :: rest)) := va_put (ty := .int) (cx_x X) (cx_b X) (cx_w X) inlX2 tyX2 tyX2_ok nmX2 (cx_o X) (cx_K X).1 hP (apD_2 hA) hS 0 rfl rfl 5 (by decide) (cx_w X _ qw_83) (fun _ h => h) rfl (by decide +kernel) rfl rfl (Nat.le_of_ble_eq_true rfl) hdg (fun H1 locs1 h1 _ h3 => kk H1 locs1 h1 h3)
theorem gf_X2_43 (X : cx p s m args meth c cc nL ret RX2 D y) (hP : va_P D vwCl (w2_s y lay A F R) H) (hdg : decode cc pc = .ok (.getfield 43, 3)) (kk : W p l e RM s m args below meth c H locs cells slots Q (F0 m (pc + 3) ls (.int (F 6) :: rest))) : W p l e RM s m args below meth c H locs cells slots Q (F0 m pc ls (.ref (A 0) :: rest)) := va_get (cx_x X) (cx_b X) (cx_w X) inlX2 (cx_o X) (cx_K X).1 hP 0 rfl rfl 6 (by decide) (cx_w X _ qw_84) (fun _ h => h) rfl hdg kk
theorem pf_X2_43 (X : cx p s m args meth c cc nL ret RX2 D y) {x : Int32} (hP : va_P D vwCl (w2_s y lay A F R) H) (hA : ap_s 5 P A) (hS : va_S P H0 H locs) (hdg : decode cc pc = .ok (.putfield 43, 3)) (kk : ∀ (H1 : Heap) (locs1 : List Loc), va_P D vwCl (w2_s y lay A (va_up F 6 x) R) H1 → va_S P H0 H1 locs1 → W p l e RM s m args below meth c H1 locs1 cells slots Q (F0 m (pc + 3) ls rest)) : W p l e RM s m args below meth c H locs cells slots Q (F0 m pc ls (.int x :: .ref (A 0) :: rest)) := va_put (ty := .int) (cx_x X) (cx_b X) (cx_w X) inlX2 tyX2 tyX2_ok nmX2 (cx_o X) (cx_K X).1 hP (apD_2 hA) hS 0 rfl rfl 6 (by decide) (cx_w X _ qw_84) (fun _ h => h) rfl (by decide +kernel) rfl rfl (Nat.le_of_ble_eq_true rfl) hdg (fun H1 locs1 h1 _ h3 => kk H1 locs1 h1 h3)
theorem gf_X2_46 (X : cx p s m args meth c cc nL ret RX2 D y) (hP : va_P D vwCl (w2_s y lay A F R) H) (hdg : decode cc pc = .ok (.getfield 46, 3)) (kk : W p l e RM s m args below meth c H locs cells slots Q (F0 m (pc + 3) ls (.int (F 7) :: rest))) : W p l e RM s m args below meth c H locs cells slots Q (F0 m pc ls (.ref (A 0) :: rest)) := va_get (cx_x X) (cx_b X) (cx_w X) inlX2 (cx_o X) (cx_K X).1 hP 0 rfl rfl 7 (by decide) (cx_w X _ qw_85) (fun _ h => h) rfl hdg kk
theorem pf_X2_46 (X : cx p s m args meth c cc nL ret RX2 D y) {x : Int32} (hP : va_P D vwCl (w2_s y lay A F R) H) (hA : ap_s 5 P A) (hS : va_S P H0 H locs) (hdg : decode cc pc = .ok (.putfield 46, 3)) (kk : ∀ (H1 : Heap) (locs1 : List Loc), va_P D vwCl (w2_s y lay A (va_up F 7 x) R) H1 → va_S P H0 H1 locs1 → W p l e RM s m args below meth c H1 locs1 cells slots Q (F0 m (pc + 3) ls rest)) : W p l e RM s m args below meth c H locs cells slots Q (F0 m pc ls (.int x :: .ref (A 0) :: rest)) := va_put (ty := .int) (cx_x X) (cx_b X) (cx_w X) inlX2 tyX2 tyX2_ok nmX2 (cx_o X) (cx_K X).1 hP (apD_2 hA) hS 0 rfl rfl 7 (by decide) (cx_w X _ qw_85) (fun _ h => h) rfl (by decide +kernel) rfl rfl (Nat.le_of_ble_eq_true rfl) hdg (fun H1 locs1 h1 _ h3 => kk H1 locs1 h1 h3)
theorem gf_X2_49 (X : cx p s m args meth c cc nL ret RX2 D y) (hP : va_P D vwCl (w2_s y lay A F R) H) (hdg : decode cc pc = .ok (.getfield 49, 3)) (kk : W p l e RM s m args below meth c H locs cells slots Q (F0 m (pc + 3) ls (.int (F 8) :: rest))) : W p l e RM s m args below meth c H locs cells slots Q (F0 m pc ls (.ref (A 0) :: rest)) := va_get (cx_x X) (cx_b X) (cx_w X) inlX2 (cx_o X) (cx_K X).1 hP 0 rfl rfl 8 (by decide) (cx_w X _ qw_86) (fun _ h => h) rfl hdg kk
theorem pf_X2_49 (X : cx p s m args meth c cc nL ret RX2 D y) {x : Int32} (hP : va_P D vwCl (w2_s y lay A F R) H) (hA : ap_s 5 P A) (hS : va_S P H0 H locs) (hdg : decode cc pc = .ok (.putfield 49, 3)) (kk : ∀ (H1 : Heap) (locs1 : List Loc), va_P D vwCl (w2_s y lay A (va_up F 8 x) R) H1 → va_S P H0 H1 locs1 → W p l e RM s m args below meth c H1 locs1 cells slots Q (F0 m (pc + 3) ls rest)) : W p l e RM s m args below meth c H locs cells slots Q (F0 m pc ls (.int x :: .ref (A 0) :: rest)) := va_put (ty := .int) (cx_x X) (cx_b X) (cx_w X) inlX2 tyX2 tyX2_ok nmX2 (cx_o X) (cx_K X).1 hP (apD_2 hA) hS 0 rfl rfl 8 (by decide) (cx_w X _ qw_86) (fun _ h => h) rfl (by decide +kernel) rfl rfl (Nat.le_of_ble_eq_true rfl) hdg (fun H1 locs1 h1 _ h3 => kk H1 locs1 h1 h3)
theorem gf_X2_52 (X : cx p s m args meth c cc nL ret RX2 D y) (hP : va_P D vwCl (w2_s y lay A F R) H) (hdg : decode cc pc = .ok (.getfield 52, 3)) (kk : W p l e RM s m args below meth c H locs cells slots Q (F0 m (pc + 3) ls (.int (F 9) :: rest))) : W p l e RM s m args below meth c H locs cells slots Q (F0 m pc ls (.ref (A 0) :: rest)) := va_get (cx_x X) (cx_b X) (cx_w X) inlX2 (cx_o X) (cx_K X).1 hP 0 rfl rfl 9 (by decide) (cx_w X _ qw_87) (fun _ h => h) rfl hdg kk
theorem pf_X2_52 (X : cx p s m args meth c cc nL ret RX2 D y) {x : Int32} (hP : va_P D vwCl (w2_s y lay A F R) H) (hA : ap_s 5 P A) (hS : va_S P H0 H locs) (hdg : decode cc pc = .ok (.putfield 52, 3)) (kk : ∀ (H1 : Heap) (locs1 : List Loc), va_P D vwCl (w2_s y lay A (va_up F 9 x) R) H1 → va_S P H0 H1 locs1 → W p l e RM s m args below meth c H1 locs1 cells slots Q (F0 m (pc + 3) ls rest)) : W p l e RM s m args below meth c H locs cells slots Q (F0 m pc ls (.int x :: .ref (A 0) :: rest)) := va_put (ty := .int) (cx_x X) (cx_b X) (cx_w X) inlX2 tyX2 tyX2_ok nmX2 (cx_o X) (cx_K X).1 hP (apD_2 hA) hS 0 rfl rfl 9 (by decide) (cx_w X _ qw_87) (fun _ h => h) rfl (by decide +kernel) rfl rfl (Nat.le_of_ble_eq_true rfl) hdg (fun H1 locs1 h1 _ h3 => kk H1 locs1 h1 h3)
theorem gf_X2_55 (X : cx p s m args meth c cc nL ret RX2 D y) (hP : va_P D vwCl (w2_s y lay A F R) H) (hdg : decode cc pc = .ok (.getfield 55, 3)) (kk : W p l e RM s m args below meth c H locs cells slots Q (F0 m (pc + 3) ls (.int (F 10) :: rest))) : W p l e RM s m args below meth c H locs cells slots Q (F0 m pc ls (.ref (A 0) :: rest)) := va_get (cx_x X) (cx_b X) (cx_w X) inlX2 (cx_o X) (cx_K X).1 hP 0 rfl rfl 10 (by decide) (cx_w X _ qw_88) (fun _ h => h) rfl hdg kk
theorem pf_X2_55 (X : cx p s m args meth c cc nL ret RX2 D y) {x : Int32} (hP : va_P D vwCl (w2_s y lay A F R) H) (hA : ap_s 5 P A) (hS : va_S P H0 H locs) (hdg : decode cc pc = .ok (.putfield 55, 3)) (kk : ∀ (H1 : Heap) (locs1 : List Loc), va_P D vwCl (w2_s y lay A (va_up F 10 x) R) H1 → va_S P H0 H1 locs1 → W p l e RM s m args below meth c H1 locs1 cells slots Q (F0 m (pc + 3) ls rest)) : W p l e RM s m args below meth c H locs cells slots Q (F0 m pc ls (.int x :: .ref (A 0) :: rest)) := va_put (ty := .int) (cx_x X) (cx_b X) (cx_w X) inlX2 tyX2 tyX2_ok nmX2 (cx_o X) (cx_K X).1 hP (apD_2 hA) hS 0 rfl rfl 10 (by decide) (cx_w X _ qw_88) (fun _ h => h) rfl (by decide +kernel) rfl rfl (Nat.le_of_ble_eq_true rfl) hdg (fun H1 locs1 h1 _ h3 => kk H1 locs1 h1 h3)
theorem gf_X2_64 (X : cx p s m args meth c cc nL ret RX2 D y) (hP : va_P D vwCl (w2_s y lay A F R) H) (hdg : decode cc pc = .ok (.getfield 64, 3)) (kk : W p l e RM s m args below meth c H locs cells slots Q (F0 m (pc + 3) ls (.int (F 1) :: rest))) : W p l e RM s m args below meth c H locs cells slots Q (F0 m pc ls (.ref (A 0) :: rest)) := va_get (cx_x X) (cx_b X) (cx_w X) inlX2 (cx_o X) (cx_K X).1 hP 0 rfl rfl 1 (by decide) (cx_w X _ qw_145) (fun _ h => h) rfl hdg kk
theorem pf_X2_64 (X : cx p s m args meth c cc nL ret RX2 D y) {x : Int32} (hP : va_P D vwCl (w2_s y lay A F R) H) (hA : ap_s 5 P A) (hS : va_S P H0 H locs) (hdg : decode cc pc = .ok (.putfield 64, 3)) (kk : ∀ (H1 : Heap) (locs1 : List Loc), va_P D vwCl (w2_s y lay A (va_up F 1 x) R) H1 → va_S P H0 H1 locs1 → W p l e RM s m args below meth c H1 locs1 cells slots Q (F0 m (pc + 3) ls rest)) : W p l e RM s m args below meth c H locs cells slots Q (F0 m pc ls (.int x :: .ref (A 0) :: rest)) := va_put (ty := .int) (cx_x X) (cx_b X) (cx_w X) inlX2 tyX2 tyX2_ok nmX2 (cx_o X) (cx_K X).1 hP (apD_2 hA) hS 0 rfl rfl 1 (by decide) (cx_w X _ qw_145) (fun _ h => h) rfl (by decide +kernel) rfl rfl (Nat.le_of_ble_eq_true rfl) hdg (fun H1 locs1 h1 _ h3 => kk H1 locs1 h1 h3)
theorem gf_X2_67 (X : cx p s m args meth c cc nL ret RX2 D y) (hP : va_P D vwCl (w2_s y lay A F R) H) (hdg : decode cc pc = .ok (.getfield 67, 3)) (kk : W p l e RM s m args below meth c H locs cells slots Q (F0 m (pc + 3) ls (.int (F 2) :: rest))) : W p l e RM s m args below meth c H locs cells slots Q (F0 m pc ls (.ref (A 0) :: rest)) := va_get (cx_x X) (cx_b X) (cx_w X) inlX2 (cx_o X) (cx_K X).1 hP 0 rfl rfl 2 (by decide) (cx_w X _ qw_146) (fun _ h => h) rfl hdg kk
theorem pf_X2_67 (X : cx p s m args meth c cc nL ret RX2 D y) {x : Int32} (hP : va_P D vwCl (w2_s y lay A F R) H) (hA : ap_s 5 P A) (hS : va_S P H0 H locs) (hdg : decode cc pc = .ok (.putfield 67, 3)) (kk : ∀ (H1 : Heap) (locs1 : List Loc), va_P D vwCl (w2_s y lay A (va_up F 2 x) R) H1 → va_S P H0 H1 locs1 → W p l e RM s m args below meth c H1 locs1 cells slots Q (F0 m (pc + 3) ls rest)) : W p l e RM s m args below meth c H locs cells slots Q (F0 m pc ls (.int x :: .ref (A 0) :: rest)) := va_put (ty := .int) (cx_x X) (cx_b X) (cx_w X) inlX2 tyX2 tyX2_ok nmX2 (cx_o X) (cx_K X).1 hP (apD_2 hA) hS 0 rfl rfl 2 (by decide) (cx_w X _ qw_146) (fun _ h => h) rfl (by decide +kernel) rfl rfl (Nat.le_of_ble_eq_true rfl) hdg (fun H1 locs1 h1 _ h3 => kk H1 locs1 h1 h3)
theorem gf_X2_136 (X : cx p s m args meth c cc nL ret RX2 D y) (hP : va_P D vwCl (w1_s y A F R) H) (hdg : decode cc pc = .ok (.getfield 136, 3)) (kk : W p l e RM s m args below meth c H locs cells slots Q (F0 m (pc + 3) ls (.int (F 2) :: rest))) : W p l e RM s m args below meth c H locs cells slots Q (F0 m pc ls (.ref (A 0) :: rest)) := va_get (cx_x X) (cx_b X) (cx_w X) inlX1 (cx_o X) (cx_K X).1 hP 0 rfl rfl 2 (by decide) (cx_w X _ qw_412) (fun _ h => h) rfl hdg kk
theorem gf_X2_163 (X : cx p s m args meth c cc nL ret RX2 D y) (hP : va_P D vwCl (w1_s y A F R) H) (hdg : decode cc pc = .ok (.getfield 163, 3)) (kk : W p l e RM s m args below meth c H locs cells slots Q (F0 m (pc + 3) ls (.int (F 1) :: rest))) : W p l e RM s m args below meth c H locs cells slots Q (F0 m pc ls (.ref (A 0) :: rest)) := va_get (cx_x X) (cx_b X) (cx_w X) inlX1 (cx_o X) (cx_K X).1 hP 0 rfl rfl 1 (by decide) (cx_w X _ qw_241) (fun _ h => h) rfl hdg kk
theorem gf_X2_175 (X : cx p s m args meth c cc nL ret RX2 D y) (hP : va_P D vwCl (w1_s y A F R) H) (hdg : decode cc pc = .ok (.getfield 175, 3)) (kk : W p l e RM s m args below meth c H locs cells slots Q (F0 m (pc + 3) ls (.int (F 0) :: rest))) : W p l e RM s m args below meth c H locs cells slots Q (F0 m pc ls (.ref (A 0) :: rest)) := va_get (cx_x X) (cx_b X) (cx_w X) inlX1 (cx_o X) (cx_K X).1 hP 0 rfl rfl 0 (by decide) (cx_w X _ qw_390) (fun _ h => h) rfl hdg kk
theorem gf_X3_9 (X : cx p s m args meth c cc nL ret RX3 D y) (hP : va_P D vwCl (w3_s y A F R) H) (hdg : decode cc pc = .ok (.getfield 9, 3)) (kk : W p l e RM s m args below meth c H locs cells slots Q (F0 m (pc + 3) ls (.ref (A 1) :: rest))) : W p l e RM s m args below meth c H locs cells slots Q (F0 m pc ls (.ref (A 0) :: rest)) := va_get (cx_x X) (cx_b X) (cx_w X) inlX3 (cx_o X) (cx_K X).1 hP 0 rfl rfl 3 (by decide) (cx_w X _ qw_103) (fun _ h => h) rfl hdg kk
theorem gf_X3_15 (X : cx p s m args meth c cc nL ret RX3 D y) (hP : va_P D vwCl (w3_s y A F R) H) (hdg : decode cc pc = .ok (.getfield 15, 3)) (kk : W p l e RM s m args below meth c H locs cells slots Q (F0 m (pc + 3) ls (.ref (A 2) :: rest))) : W p l e RM s m args below meth c H locs cells slots Q (F0 m pc ls (.ref (A 0) :: rest)) := va_get (cx_x X) (cx_b X) (cx_w X) inlX3 (cx_o X) (cx_K X).1 hP 0 rfl rfl 4 (by decide) (cx_w X _ qw_104) (fun _ h => h) rfl hdg kk
theorem gf_X3_18 (X : cx p s m args meth c cc nL ret RX3 D y) (hP : va_P D vwCl (w3_s y A F R) H) (hdg : decode cc pc = .ok (.getfield 18, 3)) (kk : W p l e RM s m args below meth c H locs cells slots Q (F0 m (pc + 3) ls (.ref (A 3) :: rest))) : W p l e RM s m args below meth c H locs cells slots Q (F0 m pc ls (.ref (A 0) :: rest)) := va_get (cx_x X) (cx_b X) (cx_w X) inlX3 (cx_o X) (cx_K X).1 hP 0 rfl rfl 5 (by decide) (cx_w X _ qw_105) (fun _ h => h) rfl hdg kk
theorem gf_X3_21 (X : cx p s m args meth c cc nL ret RX3 D y) (hP : va_P D vwCl (w3_s y A F R) H) (hdg : decode cc pc = .ok (.getfield 21, 3)) (kk : W p l e RM s m args below meth c H locs cells slots Q (F0 m (pc + 3) ls (.ref (A 4) :: rest))) : W p l e RM s m args below meth c H locs cells slots Q (F0 m pc ls (.ref (A 0) :: rest)) := va_get (cx_x X) (cx_b X) (cx_w X) inlX3 (cx_o X) (cx_K X).1 hP 0 rfl rfl 6 (by decide) (cx_w X _ qw_106) (fun _ h => h) rfl hdg kk
theorem gf_X3_24 (X : cx p s m args meth c cc nL ret RX3 D y) (hP : va_P D vwCl (w3_s y A F R) H) (hdg : decode cc pc = .ok (.getfield 24, 3)) (kk : W p l e RM s m args below meth c H locs cells slots Q (F0 m (pc + 3) ls (.int (F 0) :: rest))) : W p l e RM s m args below meth c H locs cells slots Q (F0 m pc ls (.ref (A 0) :: rest)) := va_get (cx_x X) (cx_b X) (cx_w X) inlX3 (cx_o X) (cx_K X).1 hP 0 rfl rfl 0 (by decide) (cx_w X _ qw_726) (fun _ h => h) rfl hdg kk
theorem pf_X3_24 (X : cx p s m args meth c cc nL ret RX3 D y) {x : Int32} (hP : va_P D vwCl (w3_s y A F R) H) (hA : ap_s 5 P A) (hS : va_S P H0 H locs) (hdg : decode cc pc = .ok (.putfield 24, 3)) (kk : ∀ (H1 : Heap) (locs1 : List Loc), va_P D vwCl (w3_s y A (va_up F 0 x) R) H1 → va_S P H0 H1 locs1 → W p l e RM s m args below meth c H1 locs1 cells slots Q (F0 m (pc + 3) ls rest)) : W p l e RM s m args below meth c H locs cells slots Q (F0 m pc ls (.int x :: .ref (A 0) :: rest)) := va_put (ty := .int) (cx_x X) (cx_b X) (cx_w X) inlX3 tyX3 tyX3_ok nmX3 (cx_o X) (cx_K X).1 hP (apD_3 hA) hS 0 rfl rfl 0 (by decide) (cx_w X _ qw_726) (fun _ h => h) rfl (by decide +kernel) rfl rfl (Nat.le_of_ble_eq_true rfl) hdg (fun H1 locs1 h1 _ h3 => kk H1 locs1 h1 h3)
theorem gf_X3_32 (X : cx p s m args meth c cc nL ret RX3 D y) (hP : va_P D vwCl (w3_s y A F R) H) (hdg : decode cc pc = .ok (.getfield 32, 3)) (kk : W p l e RM s m args below meth c H locs cells slots Q (F0 m (pc + 3) ls (.int (F 1) :: rest))) : W p l e RM s m args below meth c H locs cells slots Q (F0 m pc ls (.ref (A 0) :: rest)) := va_get (cx_x X) (cx_b X) (cx_w X) inlX3 (cx_o X) (cx_K X).1 hP 0 rfl rfl 1 (by decide) (cx_w X _ qw_753) (fun _ h => h) rfl hdg kk
theorem pf_X3_32 (X : cx p s m args meth c cc nL ret RX3 D y) {x : Int32} (hP : va_P D vwCl (w3_s y A F R) H) (hA : ap_s 5 P A) (hS : va_S P H0 H locs) (hdg : decode cc pc = .ok (.putfield 32, 3)) (kk : ∀ (H1 : Heap) (locs1 : List Loc), va_P D vwCl (w3_s y A (va_up F 1 x) R) H1 → va_S P H0 H1 locs1 → W p l e RM s m args below meth c H1 locs1 cells slots Q (F0 m (pc + 3) ls rest)) : W p l e RM s m args below meth c H locs cells slots Q (F0 m pc ls (.int x :: .ref (A 0) :: rest)) := va_put (ty := .int) (cx_x X) (cx_b X) (cx_w X) inlX3 tyX3 tyX3_ok nmX3 (cx_o X) (cx_K X).1 hP (apD_3 hA) hS 0 rfl rfl 1 (by decide) (cx_w X _ qw_753) (fun _ h => h) rfl (by decide +kernel) rfl rfl (Nat.le_of_ble_eq_true rfl) hdg (fun H1 locs1 h1 _ h3 => kk H1 locs1 h1 h3)
theorem gf_X3_35 (X : cx p s m args meth c cc nL ret RX3 D y) (hP : va_P D vwCl (w3_s y A F R) H) (hdg : decode cc pc = .ok (.getfield 35, 3)) (kk : W p l e RM s m args below meth c H locs cells slots Q (F0 m (pc + 3) ls (.int (F 2) :: rest))) : W p l e RM s m args below meth c H locs cells slots Q (F0 m pc ls (.ref (A 0) :: rest)) := va_get (cx_x X) (cx_b X) (cx_w X) inlX3 (cx_o X) (cx_K X).1 hP 0 rfl rfl 2 (by decide) (cx_w X _ qw_754) (fun _ h => h) rfl hdg kk
theorem pf_X3_35 (X : cx p s m args meth c cc nL ret RX3 D y) {x : Int32} (hP : va_P D vwCl (w3_s y A F R) H) (hA : ap_s 5 P A) (hS : va_S P H0 H locs) (hdg : decode cc pc = .ok (.putfield 35, 3)) (kk : ∀ (H1 : Heap) (locs1 : List Loc), va_P D vwCl (w3_s y A (va_up F 2 x) R) H1 → va_S P H0 H1 locs1 → W p l e RM s m args below meth c H1 locs1 cells slots Q (F0 m (pc + 3) ls rest)) : W p l e RM s m args below meth c H locs cells slots Q (F0 m pc ls (.int x :: .ref (A 0) :: rest)) := va_put (ty := .int) (cx_x X) (cx_b X) (cx_w X) inlX3 tyX3 tyX3_ok nmX3 (cx_o X) (cx_K X).1 hP (apD_3 hA) hS 0 rfl rfl 2 (by decide) (cx_w X _ qw_754) (fun _ h => h) rfl (by decide +kernel) rfl rfl (Nat.le_of_ble_eq_true rfl) hdg (fun H1 locs1 h1 _ h3 => kk H1 locs1 h1 h3)
theorem gf_X4_52 (X : cx p s m args meth c cc nL ret RX4 D y) (hP : va_P D vwCl (w2_s y lay A F R) H) (hdg : decode cc pc = .ok (.getfield 52, 3)) (kk : W p l e RM s m args below meth c H locs cells slots Q (F0 m (pc + 3) ls (.ref lay :: rest))) : W p l e RM s m args below meth c H locs cells slots Q (F0 m pc ls (.ref (A 0) :: rest)) := va_get (cx_x X) (cx_b X) (cx_w X) inlX2 (cx_o X) (cx_K X).1 hP 0 rfl rfl 0 (by decide) (cx_w X _ qw_123) (fun _ h => h) rfl hdg kk
theorem gf_X4_56 (X : cx p s m args meth c cc nL ret RX4 D y) (hP : va_P D vwCl (w1_s y A F R) H) (hdg : decode cc pc = .ok (.getfield 56, 3)) (kk : W p l e RM s m args below meth c H locs cells slots Q (F0 m (pc + 3) ls (.int (F 1) :: rest))) : W p l e RM s m args below meth c H locs cells slots Q (F0 m pc ls (.ref (A 0) :: rest)) := va_get (cx_x X) (cx_b X) (cx_w X) inlX1 (cx_o X) (cx_K X).1 hP 0 rfl rfl 1 (by decide) (cx_w X _ qw_124) (fun _ h => h) rfl hdg kk
theorem gf_X4_60 (X : cx p s m args meth c cc nL ret RX4 D y) (hP : va_P D vwCl (w2_s y lay A F R) H) (hdg : decode cc pc = .ok (.getfield 60, 3)) (kk : W p l e RM s m args below meth c H locs cells slots Q (F0 m (pc + 3) ls (.int (F 1) :: rest))) : W p l e RM s m args below meth c H locs cells slots Q (F0 m pc ls (.ref (A 0) :: rest)) := va_get (cx_x X) (cx_b X) (cx_w X) inlX2 (cx_o X) (cx_K X).1 hP 0 rfl rfl 1 (by decide) (cx_w X _ qw_176) (fun _ h => h) rfl hdg kk
theorem pf_X4_60 (X : cx p s m args meth c cc nL ret RX4 D y) {x : Int32} (hP : va_P D vwCl (w2_s y lay A F R) H) (hA : ap_s 5 P A) (hS : va_S P H0 H locs) (hdg : decode cc pc = .ok (.putfield 60, 3)) (kk : ∀ (H1 : Heap) (locs1 : List Loc), va_P D vwCl (w2_s y lay A (va_up F 1 x) R) H1 → va_S P H0 H1 locs1 → W p l e RM s m args below meth c H1 locs1 cells slots Q (F0 m (pc + 3) ls rest)) : W p l e RM s m args below meth c H locs cells slots Q (F0 m pc ls (.int x :: .ref (A 0) :: rest)) := va_put (ty := .int) (cx_x X) (cx_b X) (cx_w X) inlX2 tyX2 tyX2_ok nmX2 (cx_o X) (cx_K X).1 hP (apD_2 hA) hS 0 rfl rfl 1 (by decide) (cx_w X _ qw_176) (fun _ h => h) rfl (by decide +kernel) rfl rfl (Nat.le_of_ble_eq_true rfl) hdg (fun H1 locs1 h1 _ h3 => kk H1 locs1 h1 h3)
theorem gf_X4_63 (X : cx p s m args meth c cc nL ret RX4 D y) (hP : va_P D vwCl (w2_s y lay A F R) H) (hdg : decode cc pc = .ok (.getfield 63, 3)) (kk : W p l e RM s m args below meth c H locs cells slots Q (F0 m (pc + 3) ls (.int (F 2) :: rest))) : W p l e RM s m args below meth c H locs cells slots Q (F0 m pc ls (.ref (A 0) :: rest)) := va_get (cx_x X) (cx_b X) (cx_w X) inlX2 (cx_o X) (cx_K X).1 hP 0 rfl rfl 2 (by decide) (cx_w X _ qw_189) (fun _ h => h) rfl hdg kk
theorem pf_X4_63 (X : cx p s m args meth c cc nL ret RX4 D y) {x : Int32} (hP : va_P D vwCl (w2_s y lay A F R) H) (hA : ap_s 5 P A) (hS : va_S P H0 H locs) (hdg : decode cc pc = .ok (.putfield 63, 3)) (kk : ∀ (H1 : Heap) (locs1 : List Loc), va_P D vwCl (w2_s y lay A (va_up F 2 x) R) H1 → va_S P H0 H1 locs1 → W p l e RM s m args below meth c H1 locs1 cells slots Q (F0 m (pc + 3) ls rest)) : W p l e RM s m args below meth c H locs cells slots Q (F0 m pc ls (.int x :: .ref (A 0) :: rest)) := va_put (ty := .int) (cx_x X) (cx_b X) (cx_w X) inlX2 tyX2 tyX2_ok nmX2 (cx_o X) (cx_K X).1 hP (apD_2 hA) hS 0 rfl rfl 2 (by decide) (cx_w X _ qw_189) (fun _ h => h) rfl (by decide +kernel) rfl rfl (Nat.le_of_ble_eq_true rfl) hdg (fun H1 locs1 h1 _ h3 => kk H1 locs1 h1 h3)
theorem gf_X4_66 (X : cx p s m args meth c cc nL ret RX4 D y) (hP : va_P D vwCl (w2_s y lay A F R) H) (hdg : decode cc pc = .ok (.getfield 66, 3)) (kk : W p l e RM s m args below meth c H locs cells slots Q (F0 m (pc + 3) ls (.int (F 3) :: rest))) : W p l e RM s m args below meth c H locs cells slots Q (F0 m pc ls (.ref (A 0) :: rest)) := va_get (cx_x X) (cx_b X) (cx_w X) inlX2 (cx_o X) (cx_K X).1 hP 0 rfl rfl 3 (by decide) (cx_w X _ qw_198) (fun _ h => h) rfl hdg kk
theorem pf_X4_66 (X : cx p s m args meth c cc nL ret RX4 D y) {x : Int32} (hz : x &&& 1 = x) (hP : va_P D vwCl (w2_s y lay A F R) H) (hA : ap_s 5 P A) (hS : va_S P H0 H locs) (hdg : decode cc pc = .ok (.putfield 66, 3)) (kk : ∀ (H1 : Heap) (locs1 : List Loc), va_P D vwCl (w2_s y lay A (va_up F 3 x) R) H1 → va_S P H0 H1 locs1 → W p l e RM s m args below meth c H1 locs1 cells slots Q (F0 m (pc + 3) ls rest)) : W p l e RM s m args below meth c H locs cells slots Q (F0 m pc ls (.int x :: .ref (A 0) :: rest)) := va_put (ty := .boolean) (cx_x X) (cx_b X) (cx_w X) inlX2 tyX2 tyX2_ok nmX2 (cx_o X) (cx_K X).1 hP (apD_2 hA) hS 0 rfl rfl 3 (by decide) (cx_w X _ qw_198) (fun _ h => h) rfl (by decide +kernel) (by show Value.int (x &&& 1) = _; rw [hz]) (by rw [← hz]; exact fit_z x) (Nat.le_of_ble_eq_true rfl) hdg (fun H1 locs1 h1 _ h3 => kk H1 locs1 h1 h3)
theorem gf_X4_74 (X : cx p s m args meth c cc nL ret RX4 D y) (hP : va_P D vwCl (w1_s y A F R) H) (hdg : decode cc pc = .ok (.getfield 74, 3)) (kk : W p l e RM s m args below meth c H locs cells slots Q (F0 m (pc + 3) ls (.int (F 0) :: rest))) : W p l e RM s m args below meth c H locs cells slots Q (F0 m pc ls (.ref (A 0) :: rest)) := va_get (cx_x X) (cx_b X) (cx_w X) inlX1 (cx_o X) (cx_K X).1 hP 0 rfl rfl 0 (by decide) (cx_w X _ qw_323) (fun _ h => h) rfl hdg kk
theorem gf_X4_162 (X : cx p s m args meth c cc nL ret RX4 D y) (hP : va_P D vwCl (w2_s y lay A F R) H) (hdg : decode cc pc = .ok (.getfield 162, 3)) (kk : W p l e RM s m args below meth c H locs cells slots Q (F0 m (pc + 3) ls (.int (F 4) :: rest))) : W p l e RM s m args below meth c H locs cells slots Q (F0 m pc ls (.ref (A 0) :: rest)) := va_get (cx_x X) (cx_b X) (cx_w X) inlX2 (cx_o X) (cx_K X).1 hP 0 rfl rfl 4 (by decide) (cx_w X _ qw_658) (fun _ h => h) rfl hdg kk
theorem pf_X4_162 (X : cx p s m args meth c cc nL ret RX4 D y) {x : Int32} (hP : va_P D vwCl (w2_s y lay A F R) H) (hA : ap_s 5 P A) (hS : va_S P H0 H locs) (hdg : decode cc pc = .ok (.putfield 162, 3)) (kk : ∀ (H1 : Heap) (locs1 : List Loc), va_P D vwCl (w2_s y lay A (va_up F 4 x) R) H1 → va_S P H0 H1 locs1 → W p l e RM s m args below meth c H1 locs1 cells slots Q (F0 m (pc + 3) ls rest)) : W p l e RM s m args below meth c H locs cells slots Q (F0 m pc ls (.int x :: .ref (A 0) :: rest)) := va_put (ty := .int) (cx_x X) (cx_b X) (cx_w X) inlX2 tyX2 tyX2_ok nmX2 (cx_o X) (cx_K X).1 hP (apD_2 hA) hS 0 rfl rfl 4 (by decide) (cx_w X _ qw_658) (fun _ h => h) rfl (by decide +kernel) rfl rfl (Nat.le_of_ble_eq_true rfl) hdg (fun H1 locs1 h1 _ h3 => kk H1 locs1 h1 h3)
theorem gf_X4_165 (X : cx p s m args meth c cc nL ret RX4 D y) (hP : va_P D vwCl (w2_s y lay A F R) H) (hdg : decode cc pc = .ok (.getfield 165, 3)) (kk : W p l e RM s m args below meth c H locs cells slots Q (F0 m (pc + 3) ls (.int (F 5) :: rest))) : W p l e RM s m args below meth c H locs cells slots Q (F0 m pc ls (.ref (A 0) :: rest)) := va_get (cx_x X) (cx_b X) (cx_w X) inlX2 (cx_o X) (cx_K X).1 hP 0 rfl rfl 5 (by decide) (cx_w X _ qw_667) (fun _ h => h) rfl hdg kk
theorem pf_X4_165 (X : cx p s m args meth c cc nL ret RX4 D y) {x : Int32} (hP : va_P D vwCl (w2_s y lay A F R) H) (hA : ap_s 5 P A) (hS : va_S P H0 H locs) (hdg : decode cc pc = .ok (.putfield 165, 3)) (kk : ∀ (H1 : Heap) (locs1 : List Loc), va_P D vwCl (w2_s y lay A (va_up F 5 x) R) H1 → va_S P H0 H1 locs1 → W p l e RM s m args below meth c H1 locs1 cells slots Q (F0 m (pc + 3) ls rest)) : W p l e RM s m args below meth c H locs cells slots Q (F0 m pc ls (.int x :: .ref (A 0) :: rest)) := va_put (ty := .int) (cx_x X) (cx_b X) (cx_w X) inlX2 tyX2 tyX2_ok nmX2 (cx_o X) (cx_K X).1 hP (apD_2 hA) hS 0 rfl rfl 5 (by decide) (cx_w X _ qw_667) (fun _ h => h) rfl (by decide +kernel) rfl rfl (Nat.le_of_ble_eq_true rfl) hdg (fun H1 locs1 h1 _ h3 => kk H1 locs1 h1 h3)
theorem gf_X4_168 (X : cx p s m args meth c cc nL ret RX4 D y) (hP : va_P D vwCl (w2_s y lay A F R) H) (hdg : decode cc pc = .ok (.getfield 168, 3)) (kk : W p l e RM s m args below meth c H locs cells slots Q (F0 m (pc + 3) ls (.int (F 6) :: rest))) : W p l e RM s m args below meth c H locs cells slots Q (F0 m pc ls (.ref (A 0) :: rest)) := va_get (cx_x X) (cx_b X) (cx_w X) inlX2 (cx_o X) (cx_K X).1 hP 0 rfl rfl 6 (by decide) (cx_w X _ qw_676) (fun _ h => h) rfl hdg kk
theorem pf_X4_168 (X : cx p s m args meth c cc nL ret RX4 D y) {x : Int32} (hP : va_P D vwCl (w2_s y lay A F R) H) (hA : ap_s 5 P A) (hS : va_S P H0 H locs) (hdg : decode cc pc = .ok (.putfield 168, 3)) (kk : ∀ (H1 : Heap) (locs1 : List Loc), va_P D vwCl (w2_s y lay A (va_up F 6 x) R) H1 → va_S P H0 H1 locs1 → W p l e RM s m args below meth c H1 locs1 cells slots Q (F0 m (pc + 3) ls rest)) : W p l e RM s m args below meth c H locs cells slots Q (F0 m pc ls (.int x :: .ref (A 0) :: rest)) := va_put (ty := .int) (cx_x X) (cx_b X) (cx_w X) inlX2 tyX2 tyX2_ok nmX2 (cx_o X) (cx_K X).1 hP (apD_2 hA) hS 0 rfl rfl 6 (by decide) (cx_w X _ qw_676) (fun _ h => h) rfl (by decide +kernel) rfl rfl (Nat.le_of_ble_eq_true rfl) hdg (fun H1 locs1 h1 _ h3 => kk H1 locs1 h1 h3)
theorem gf_X4_171 (X : cx p s m args meth c cc nL ret RX4 D y) (hP : va_P D vwCl (w2_s y lay A F R) H) (hdg : decode cc pc = .ok (.getfield 171, 3)) (kk : W p l e RM s m args below meth c H locs cells slots Q (F0 m (pc + 3) ls (.int (F 7) :: rest))) : W p l e RM s m args below meth c H locs cells slots Q (F0 m pc ls (.ref (A 0) :: rest)) := va_get (cx_x X) (cx_b X) (cx_w X) inlX2 (cx_o X) (cx_K X).1 hP 0 rfl rfl 7 (by decide) (cx_w X _ qw_685) (fun _ h => h) rfl hdg kk
theorem pf_X4_171 (X : cx p s m args meth c cc nL ret RX4 D y) {x : Int32} (hP : va_P D vwCl (w2_s y lay A F R) H) (hA : ap_s 5 P A) (hS : va_S P H0 H locs) (hdg : decode cc pc = .ok (.putfield 171, 3)) (kk : ∀ (H1 : Heap) (locs1 : List Loc), va_P D vwCl (w2_s y lay A (va_up F 7 x) R) H1 → va_S P H0 H1 locs1 → W p l e RM s m args below meth c H1 locs1 cells slots Q (F0 m (pc + 3) ls rest)) : W p l e RM s m args below meth c H locs cells slots Q (F0 m pc ls (.int x :: .ref (A 0) :: rest)) := va_put (ty := .int) (cx_x X) (cx_b X) (cx_w X) inlX2 tyX2 tyX2_ok nmX2 (cx_o X) (cx_K X).1 hP (apD_2 hA) hS 0 rfl rfl 7 (by decide) (cx_w X _ qw_685) (fun _ h => h) rfl (by decide +kernel) rfl rfl (Nat.le_of_ble_eq_true rfl) hdg (fun H1 locs1 h1 _ h3 => kk H1 locs1 h1 h3)
theorem gf_X4_174 (X : cx p s m args meth c cc nL ret RX4 D y) (hP : va_P D vwCl (w2_s y lay A F R) H) (hdg : decode cc pc = .ok (.getfield 174, 3)) (kk : W p l e RM s m args below meth c H locs cells slots Q (F0 m (pc + 3) ls (.int (F 8) :: rest))) : W p l e RM s m args below meth c H locs cells slots Q (F0 m pc ls (.ref (A 0) :: rest)) := va_get (cx_x X) (cx_b X) (cx_w X) inlX2 (cx_o X) (cx_K X).1 hP 0 rfl rfl 8 (by decide) (cx_w X _ qw_694) (fun _ h => h) rfl hdg kk
theorem pf_X4_174 (X : cx p s m args meth c cc nL ret RX4 D y) {x : Int32} (hP : va_P D vwCl (w2_s y lay A F R) H) (hA : ap_s 5 P A) (hS : va_S P H0 H locs) (hdg : decode cc pc = .ok (.putfield 174, 3)) (kk : ∀ (H1 : Heap) (locs1 : List Loc), va_P D vwCl (w2_s y lay A (va_up F 8 x) R) H1 → va_S P H0 H1 locs1 → W p l e RM s m args below meth c H1 locs1 cells slots Q (F0 m (pc + 3) ls rest)) : W p l e RM s m args below meth c H locs cells slots Q (F0 m pc ls (.int x :: .ref (A 0) :: rest)) := va_put (ty := .int) (cx_x X) (cx_b X) (cx_w X) inlX2 tyX2 tyX2_ok nmX2 (cx_o X) (cx_K X).1 hP (apD_2 hA) hS 0 rfl rfl 8 (by decide) (cx_w X _ qw_694) (fun _ h => h) rfl (by decide +kernel) rfl rfl (Nat.le_of_ble_eq_true rfl) hdg (fun H1 locs1 h1 _ h3 => kk H1 locs1 h1 h3)
theorem gf_X4_177 (X : cx p s m args meth c cc nL ret RX4 D y) (hP : va_P D vwCl (w2_s y lay A F R) H) (hdg : decode cc pc = .ok (.getfield 177, 3)) (kk : W p l e RM s m args below meth c H locs cells slots Q (F0 m (pc + 3) ls (.int (F 9) :: rest))) : W p l e RM s m args below meth c H locs cells slots Q (F0 m pc ls (.ref (A 0) :: rest)) := va_get (cx_x X) (cx_b X) (cx_w X) inlX2 (cx_o X) (cx_K X).1 hP 0 rfl rfl 9 (by decide) (cx_w X _ qw_703) (fun _ h => h) rfl hdg kk
theorem pf_X4_177 (X : cx p s m args meth c cc nL ret RX4 D y) {x : Int32} (hP : va_P D vwCl (w2_s y lay A F R) H) (hA : ap_s 5 P A) (hS : va_S P H0 H locs) (hdg : decode cc pc = .ok (.putfield 177, 3)) (kk : ∀ (H1 : Heap) (locs1 : List Loc), va_P D vwCl (w2_s y lay A (va_up F 9 x) R) H1 → va_S P H0 H1 locs1 → W p l e RM s m args below meth c H1 locs1 cells slots Q (F0 m (pc + 3) ls rest)) : W p l e RM s m args below meth c H locs cells slots Q (F0 m pc ls (.int x :: .ref (A 0) :: rest)) := va_put (ty := .int) (cx_x X) (cx_b X) (cx_w X) inlX2 tyX2 tyX2_ok nmX2 (cx_o X) (cx_K X).1 hP (apD_2 hA) hS 0 rfl rfl 9 (by decide) (cx_w X _ qw_703) (fun _ h => h) rfl (by decide +kernel) rfl rfl (Nat.le_of_ble_eq_true rfl) hdg (fun H1 locs1 h1 _ h3 => kk H1 locs1 h1 h3)
theorem gf_X4_180 (X : cx p s m args meth c cc nL ret RX4 D y) (hP : va_P D vwCl (w2_s y lay A F R) H) (hdg : decode cc pc = .ok (.getfield 180, 3)) (kk : W p l e RM s m args below meth c H locs cells slots Q (F0 m (pc + 3) ls (.int (F 10) :: rest))) : W p l e RM s m args below meth c H locs cells slots Q (F0 m pc ls (.ref (A 0) :: rest)) := va_get (cx_x X) (cx_b X) (cx_w X) inlX2 (cx_o X) (cx_K X).1 hP 0 rfl rfl 10 (by decide) (cx_w X _ qw_712) (fun _ h => h) rfl hdg kk
theorem pf_X4_180 (X : cx p s m args meth c cc nL ret RX4 D y) {x : Int32} (hP : va_P D vwCl (w2_s y lay A F R) H) (hA : ap_s 5 P A) (hS : va_S P H0 H locs) (hdg : decode cc pc = .ok (.putfield 180, 3)) (kk : ∀ (H1 : Heap) (locs1 : List Loc), va_P D vwCl (w2_s y lay A (va_up F 10 x) R) H1 → va_S P H0 H1 locs1 → W p l e RM s m args below meth c H1 locs1 cells slots Q (F0 m (pc + 3) ls rest)) : W p l e RM s m args below meth c H locs cells slots Q (F0 m pc ls (.int x :: .ref (A 0) :: rest)) := va_put (ty := .int) (cx_x X) (cx_b X) (cx_w X) inlX2 tyX2 tyX2_ok nmX2 (cx_o X) (cx_K X).1 hP (apD_2 hA) hS 0 rfl rfl 10 (by decide) (cx_w X _ qw_712) (fun _ h => h) rfl (by decide +kernel) rfl rfl (Nat.le_of_ble_eq_true rfl) hdg (fun H1 locs1 h1 _ h3 => kk H1 locs1 h1 h3)
theorem gf_X4_186 (X : cx p s m args meth c cc nL ret RX4 D y) (hP : va_P D vwCl (w3_s y A F R) H) (hdg : decode cc pc = .ok (.getfield 186, 3)) (kk : W p l e RM s m args below meth c H locs cells slots Q (F0 m (pc + 3) ls (.int (F 0) :: rest))) : W p l e RM s m args below meth c H locs cells slots Q (F0 m pc ls (.ref (A 0) :: rest)) := va_get (cx_x X) (cx_b X) (cx_w X) inlX3 (cx_o X) (cx_K X).1 hP 0 rfl rfl 0 (by decide) (cx_w X _ qw_721) (fun _ h => h) rfl hdg kk
theorem pf_X4_186 (X : cx p s m args meth c cc nL ret RX4 D y) {x : Int32} (hP : va_P D vwCl (w3_s y A F R) H) (hA : ap_s 5 P A) (hS : va_S P H0 H locs) (hdg : decode cc pc = .ok (.putfield 186, 3)) (kk : ∀ (H1 : Heap) (locs1 : List Loc), va_P D vwCl (w3_s y A (va_up F 0 x) R) H1 → va_S P H0 H1 locs1 → W p l e RM s m args below meth c H1 locs1 cells slots Q (F0 m (pc + 3) ls rest)) : W p l e RM s m args below meth c H locs cells slots Q (F0 m pc ls (.int x :: .ref (A 0) :: rest)) := va_put (ty := .int) (cx_x X) (cx_b X) (cx_w X) inlX3 tyX3 tyX3_ok nmX3 (cx_o X) (cx_K X).1 hP (apD_3 hA) hS 0 rfl rfl 0 (by decide) (cx_w X _ qw_721) (fun _ h => h) rfl (by decide +kernel) rfl rfl (Nat.le_of_ble_eq_true rfl) hdg (fun H1 locs1 h1 _ h3 => kk H1 locs1 h1 h3)
theorem gf_X4_193 (X : cx p s m args meth c cc nL ret RX4 D y) (hP : va_P D vwCl (w3_s y A F R) H) (hdg : decode cc pc = .ok (.getfield 193, 3)) (kk : W p l e RM s m args below meth c H locs cells slots Q (F0 m (pc + 3) ls (.int (F 1) :: rest))) : W p l e RM s m args below meth c H locs cells slots Q (F0 m pc ls (.ref (A 0) :: rest)) := va_get (cx_x X) (cx_b X) (cx_w X) inlX3 (cx_o X) (cx_K X).1 hP 0 rfl rfl 1 (by decide) (cx_w X _ qw_744) (fun _ h => h) rfl hdg kk
theorem pf_X4_193 (X : cx p s m args meth c cc nL ret RX4 D y) {x : Int32} (hP : va_P D vwCl (w3_s y A F R) H) (hA : ap_s 5 P A) (hS : va_S P H0 H locs) (hdg : decode cc pc = .ok (.putfield 193, 3)) (kk : ∀ (H1 : Heap) (locs1 : List Loc), va_P D vwCl (w3_s y A (va_up F 1 x) R) H1 → va_S P H0 H1 locs1 → W p l e RM s m args below meth c H1 locs1 cells slots Q (F0 m (pc + 3) ls rest)) : W p l e RM s m args below meth c H locs cells slots Q (F0 m pc ls (.int x :: .ref (A 0) :: rest)) := va_put (ty := .int) (cx_x X) (cx_b X) (cx_w X) inlX3 tyX3 tyX3_ok nmX3 (cx_o X) (cx_K X).1 hP (apD_3 hA) hS 0 rfl rfl 1 (by decide) (cx_w X _ qw_744) (fun _ h => h) rfl (by decide +kernel) rfl rfl (Nat.le_of_ble_eq_true rfl) hdg (fun H1 locs1 h1 _ h3 => kk H1 locs1 h1 h3)
theorem gf_X4_196 (X : cx p s m args meth c cc nL ret RX4 D y) (hP : va_P D vwCl (w3_s y A F R) H) (hdg : decode cc pc = .ok (.getfield 196, 3)) (kk : W p l e RM s m args below meth c H locs cells slots Q (F0 m (pc + 3) ls (.int (F 2) :: rest))) : W p l e RM s m args below meth c H locs cells slots Q (F0 m pc ls (.ref (A 0) :: rest)) := va_get (cx_x X) (cx_b X) (cx_w X) inlX3 (cx_o X) (cx_K X).1 hP 0 rfl rfl 2 (by decide) (cx_w X _ qw_745) (fun _ h => h) rfl hdg kk
theorem pf_X4_196 (X : cx p s m args meth c cc nL ret RX4 D y) {x : Int32} (hP : va_P D vwCl (w3_s y A F R) H) (hA : ap_s 5 P A) (hS : va_S P H0 H locs) (hdg : decode cc pc = .ok (.putfield 196, 3)) (kk : ∀ (H1 : Heap) (locs1 : List Loc), va_P D vwCl (w3_s y A (va_up F 2 x) R) H1 → va_S P H0 H1 locs1 → W p l e RM s m args below meth c H1 locs1 cells slots Q (F0 m (pc + 3) ls rest)) : W p l e RM s m args below meth c H locs cells slots Q (F0 m pc ls (.int x :: .ref (A 0) :: rest)) := va_put (ty := .int) (cx_x X) (cx_b X) (cx_w X) inlX3 tyX3 tyX3_ok nmX3 (cx_o X) (cx_K X).1 hP (apD_3 hA) hS 0 rfl rfl 2 (by decide) (cx_w X _ qw_745) (fun _ h => h) rfl (by decide +kernel) rfl rfl (Nat.le_of_ble_eq_true rfl) hdg (fun H1 locs1 h1 _ h3 => kk H1 locs1 h1 h3)
theorem gf_X4_199 (X : cx p s m args meth c cc nL ret RX4 D y) (hP : va_P D vwCl (w3_s y A F R) H) (hdg : decode cc pc = .ok (.getfield 199, 3)) (kk : W p l e RM s m args below meth c H locs cells slots Q (F0 m (pc + 3) ls (.ref (A 1) :: rest))) : W p l e RM s m args below meth c H locs cells slots Q (F0 m pc ls (.ref (A 0) :: rest)) := va_get (cx_x X) (cx_b X) (cx_w X) inlX3 (cx_o X) (cx_K X).1 hP 0 rfl rfl 3 (by decide) (cx_w X _ qw_746) (fun _ h => h) rfl hdg kk
theorem gf_X4_203 (X : cx p s m args meth c cc nL ret RX4 D y) (hP : va_P D vwCl (w3_s y A F R) H) (hdg : decode cc pc = .ok (.getfield 203, 3)) (kk : W p l e RM s m args below meth c H locs cells slots Q (F0 m (pc + 3) ls (.ref (A 2) :: rest))) : W p l e RM s m args below meth c H locs cells slots Q (F0 m pc ls (.ref (A 0) :: rest)) := va_get (cx_x X) (cx_b X) (cx_w X) inlX3 (cx_o X) (cx_K X).1 hP 0 rfl rfl 4 (by decide) (cx_w X _ qw_747) (fun _ h => h) rfl hdg kk
theorem gf_X4_206 (X : cx p s m args meth c cc nL ret RX4 D y) (hP : va_P D vwCl (w3_s y A F R) H) (hdg : decode cc pc = .ok (.getfield 206, 3)) (kk : W p l e RM s m args below meth c H locs cells slots Q (F0 m (pc + 3) ls (.ref (A 3) :: rest))) : W p l e RM s m args below meth c H locs cells slots Q (F0 m pc ls (.ref (A 0) :: rest)) := va_get (cx_x X) (cx_b X) (cx_w X) inlX3 (cx_o X) (cx_K X).1 hP 0 rfl rfl 5 (by decide) (cx_w X _ qw_748) (fun _ h => h) rfl hdg kk
theorem gf_X5_7 (X : cx p s m args meth c cc nL ret RX5 D y) (hP : va_P D vwCl (w5_s y A F R) H) (hdg : decode cc pc = .ok (.getfield 7, 3)) (kk : W p l e RM s m args below meth c H locs cells slots Q (F0 m (pc + 3) ls (.ref (A 1) :: rest))) : W p l e RM s m args below meth c H locs cells slots Q (F0 m pc ls (.ref (A 0) :: rest)) := va_get (cx_x X) (cx_b X) (cx_w X) inlX5 (cx_o X) (cx_K X).1 hP 0 rfl rfl 0 (by decide) (cx_w X _ qw_111) (fun _ h => h) rfl hdg kk
theorem gf_X5_13 (X : cx p s m args meth c cc nL ret RX5 D y) (hP : va_P D vwCl (w5_s y A F R) H) (hdg : decode cc pc = .ok (.getfield 13, 3)) (kk : W p l e RM s m args below meth c H locs cells slots Q (F0 m (pc + 3) ls (.ref (A 2) :: rest))) : W p l e RM s m args below meth c H locs cells slots Q (F0 m pc ls (.ref (A 0) :: rest)) := va_get (cx_x X) (cx_b X) (cx_w X) inlX5 (cx_o X) (cx_K X).1 hP 0 rfl rfl 1 (by decide) (cx_w X _ qw_112) (fun _ h => h) rfl hdg kk
theorem gf_X5_16 (X : cx p s m args meth c cc nL ret RX5 D y) (hP : va_P D vwCl (w5_s y A F R) H) (hdg : decode cc pc = .ok (.getfield 16, 3)) (kk : W p l e RM s m args below meth c H locs cells slots Q (F0 m (pc + 3) ls (.ref (A 3) :: rest))) : W p l e RM s m args below meth c H locs cells slots Q (F0 m pc ls (.ref (A 0) :: rest)) := va_get (cx_x X) (cx_b X) (cx_w X) inlX5 (cx_o X) (cx_K X).1 hP 0 rfl rfl 3 (by decide) (cx_w X _ qw_113) (fun _ h => h) rfl hdg kk
theorem gf_X5_19 (X : cx p s m args meth c cc nL ret RX5 D y) (hP : va_P D vwCl (w5_s y A F R) H) (hdg : decode cc pc = .ok (.getfield 19, 3)) (kk : W p l e RM s m args below meth c H locs cells slots Q (F0 m (pc + 3) ls (.ref (A 4) :: rest))) : W p l e RM s m args below meth c H locs cells slots Q (F0 m pc ls (.ref (A 0) :: rest)) := va_get (cx_x X) (cx_b X) (cx_w X) inlX5 (cx_o X) (cx_K X).1 hP 0 rfl rfl 4 (by decide) (cx_w X _ qw_115) (fun _ h => h) rfl hdg kk
theorem gf_X5_23 (X : cx p s m args meth c cc nL ret RX5 D y) (hP : va_P D vwCl (w5_s y A F R) H) (hdg : decode cc pc = .ok (.getfield 23, 3)) (kk : W p l e RM s m args below meth c H locs cells slots Q (F0 m (pc + 3) ls (.ref (A 5) :: rest))) : W p l e RM s m args below meth c H locs cells slots Q (F0 m pc ls (.ref (A 0) :: rest)) := va_get (cx_x X) (cx_b X) (cx_w X) inlX5 (cx_o X) (cx_K X).1 hP 0 rfl rfl 5 (by decide) (cx_w X _ qw_117) (fun _ h => h) rfl hdg kk
theorem gf_X5_27 (X : cx p s m args meth c cc nL ret RX5 D y) (hP : va_P D vwCl (w5_s y A F R) H) (hdg : decode cc pc = .ok (.getfield 27, 3)) (kk : W p l e RM s m args below meth c H locs cells slots Q (F0 m (pc + 3) ls (.ref (A 6) :: rest))) : W p l e RM s m args below meth c H locs cells slots Q (F0 m pc ls (.ref (A 0) :: rest)) := va_get (cx_x X) (cx_b X) (cx_w X) inlX5 (cx_o X) (cx_K X).1 hP 0 rfl rfl 8 (by decide) (cx_w X _ qw_118) (fun _ h => h) rfl hdg kk
theorem gf_X5_30 (X : cx p s m args meth c cc nL ret RX5 D y) (hP : va_P D vwCl (w5_s y A F R) H) (hdg : decode cc pc = .ok (.getfield 30, 3)) (kk : W p l e RM s m args below meth c H locs cells slots Q (F0 m (pc + 3) ls (.int (F 2) :: rest))) : W p l e RM s m args below meth c H locs cells slots Q (F0 m pc ls (.ref (A 0) :: rest)) := va_get (cx_x X) (cx_b X) (cx_w X) inlX5 (cx_o X) (cx_K X).1 hP 0 rfl rfl 2 (by decide) (cx_w X _ qw_163) (fun _ h => h) rfl hdg kk
theorem pf_X5_30 (X : cx p s m args meth c cc nL ret RX5 D y) {x : Int32} (hP : va_P D vwCl (w5_s y A F R) H) (hA : ap_s 7 P A) (hS : va_S P H0 H locs) (hdg : decode cc pc = .ok (.putfield 30, 3)) (kk : ∀ (H1 : Heap) (locs1 : List Loc), va_P D vwCl (w5_s y A (va_up F 2 x) R) H1 → va_S P H0 H1 locs1 → W p l e RM s m args below meth c H1 locs1 cells slots Q (F0 m (pc + 3) ls rest)) : W p l e RM s m args below meth c H locs cells slots Q (F0 m pc ls (.int x :: .ref (A 0) :: rest)) := va_put (ty := .int) (cx_x X) (cx_b X) (cx_w X) inlX5 tyX5 tyX5_ok nmX5 (cx_o X) (cx_K X).1 hP (apD_5 hA) hS 0 rfl rfl 2 (by decide) (cx_w X _ qw_163) (fun _ h => h) rfl (by decide +kernel) rfl rfl (Nat.le_of_ble_eq_true rfl) hdg (fun H1 locs1 h1 _ h3 => kk H1 locs1 h1 h3)
theorem gf_X5_75 (X : cx p s m args meth c cc nL ret RX5 D y) (hP : va_P D vwCl (w5_s y A F R) H) (hdg : decode cc pc = .ok (.getfield 75, 3)) (kk : W p l e RM s m args below meth c H locs cells slots Q (F0 m (pc + 3) ls (.int (F 7) :: rest))) : W p l e RM s m args below meth c H locs cells slots Q (F0 m pc ls (.ref (A 0) :: rest)) := va_get (cx_x X) (cx_b X) (cx_w X) inlX5 (cx_o X) (cx_K X).1 hP 0 rfl rfl 7 (by decide) (cx_w X _ qw_451) (fun _ h => h) rfl hdg kk
theorem pf_X5_75 (X : cx p s m args meth c cc nL ret RX5 D y) {x : Int32} (hP : va_P D vwCl (w5_s y A F R) H) (hA : ap_s 7 P A) (hS : va_S P H0 H locs) (hdg : decode cc pc = .ok (.putfield 75, 3)) (kk : ∀ (H1 : Heap) (locs1 : List Loc), va_P D vwCl (w5_s y A (va_up F 7 x) R) H1 → va_S P H0 H1 locs1 → W p l e RM s m args below meth c H1 locs1 cells slots Q (F0 m (pc + 3) ls rest)) : W p l e RM s m args below meth c H locs cells slots Q (F0 m pc ls (.int x :: .ref (A 0) :: rest)) := va_put (ty := .int) (cx_x X) (cx_b X) (cx_w X) inlX5 tyX5 tyX5_ok nmX5 (cx_o X) (cx_K X).1 hP (apD_5 hA) hS 0 rfl rfl 7 (by decide) (cx_w X _ qw_451) (fun _ h => h) rfl (by decide +kernel) rfl rfl (Nat.le_of_ble_eq_true rfl) hdg (fun H1 locs1 h1 _ h3 => kk H1 locs1 h1 h3)
theorem gf_X5_141 (X : cx p s m args meth c cc nL ret RX5 D y) (hP : va_P D vwCl (w5_s y A F R) H) (hdg : decode cc pc = .ok (.getfield 141, 3)) (kk : W p l e RM s m args below meth c H locs cells slots Q (F0 m (pc + 3) ls (.int (F 6) :: rest))) : W p l e RM s m args below meth c H locs cells slots Q (F0 m pc ls (.ref (A 0) :: rest)) := va_get (cx_x X) (cx_b X) (cx_w X) inlX5 (cx_o X) (cx_K X).1 hP 0 rfl rfl 6 (by decide) (cx_w X _ qw_731) (fun _ h => h) rfl hdg kk
theorem pf_X5_141 (X : cx p s m args meth c cc nL ret RX5 D y) {x : Int32} (hP : va_P D vwCl (w5_s y A F R) H) (hA : ap_s 7 P A) (hS : va_S P H0 H locs) (hdg : decode cc pc = .ok (.putfield 141, 3)) (kk : ∀ (H1 : Heap) (locs1 : List Loc), va_P D vwCl (w5_s y A (va_up F 6 x) R) H1 → va_S P H0 H1 locs1 → W p l e RM s m args below meth c H1 locs1 cells slots Q (F0 m (pc + 3) ls rest)) : W p l e RM s m args below meth c H locs cells slots Q (F0 m pc ls (.int x :: .ref (A 0) :: rest)) := va_put (ty := .int) (cx_x X) (cx_b X) (cx_w X) inlX5 tyX5 tyX5_ok nmX5 (cx_o X) (cx_K X).1 hP (apD_5 hA) hS 0 rfl rfl 6 (by decide) (cx_w X _ qw_731) (fun _ h => h) rfl (by decide +kernel) rfl rfl (Nat.le_of_ble_eq_true rfl) hdg (fun H1 locs1 h1 _ h3 => kk H1 locs1 h1 h3)
theorem gf_X5_144 (X : cx p s m args meth c cc nL ret RX5 D y) (hP : va_P D vwCl (w5_s y A F R) H) (hdg : decode cc pc = .ok (.getfield 144, 3)) (kk : W p l e RM s m args below meth c H locs cells slots Q (F0 m (pc + 3) ls (.int (F 9) :: rest))) : W p l e RM s m args below meth c H locs cells slots Q (F0 m pc ls (.ref (A 0) :: rest)) := va_get (cx_x X) (cx_b X) (cx_w X) inlX5 (cx_o X) (cx_K X).1 hP 0 rfl rfl 9 (by decide) (cx_w X _ qw_792) (fun _ h => h) rfl hdg kk
theorem pf_X5_144 (X : cx p s m args meth c cc nL ret RX5 D y) {x : Int32} (hP : va_P D vwCl (w5_s y A F R) H) (hA : ap_s 7 P A) (hS : va_S P H0 H locs) (hdg : decode cc pc = .ok (.putfield 144, 3)) (kk : ∀ (H1 : Heap) (locs1 : List Loc), va_P D vwCl (w5_s y A (va_up F 9 x) R) H1 → va_S P H0 H1 locs1 → W p l e RM s m args below meth c H1 locs1 cells slots Q (F0 m (pc + 3) ls rest)) : W p l e RM s m args below meth c H locs cells slots Q (F0 m pc ls (.int x :: .ref (A 0) :: rest)) := va_put (ty := .int) (cx_x X) (cx_b X) (cx_w X) inlX5 tyX5 tyX5_ok nmX5 (cx_o X) (cx_K X).1 hP (apD_5 hA) hS 0 rfl rfl 9 (by decide) (cx_w X _ qw_792) (fun _ h => h) rfl (by decide +kernel) rfl rfl (Nat.le_of_ble_eq_true rfl) hdg (fun H1 locs1 h1 _ h3 => kk H1 locs1 h1 h3)
theorem gf_X5_153 (X : cx p s m args meth c cc nL ret RX5 D y) (hP : va_P D vwCl (w5_s y A F R) H) (hdg : decode cc pc = .ok (.getfield 153, 3)) (kk : W p l e RM s m args below meth c H locs cells slots Q (F0 m (pc + 3) ls (.int (F 10) :: rest))) : W p l e RM s m args below meth c H locs cells slots Q (F0 m pc ls (.ref (A 0) :: rest)) := va_get (cx_x X) (cx_b X) (cx_w X) inlX5 (cx_o X) (cx_K X).1 hP 0 rfl rfl 10 (by decide) (cx_w X _ qw_791) (fun _ h => h) rfl hdg kk
theorem pf_X5_153 (X : cx p s m args meth c cc nL ret RX5 D y) {x : Int32} (hz : x &&& 1 = x) (hP : va_P D vwCl (w5_s y A F R) H) (hA : ap_s 7 P A) (hS : va_S P H0 H locs) (hdg : decode cc pc = .ok (.putfield 153, 3)) (kk : ∀ (H1 : Heap) (locs1 : List Loc), va_P D vwCl (w5_s y A (va_up F 10 x) R) H1 → va_S P H0 H1 locs1 → W p l e RM s m args below meth c H1 locs1 cells slots Q (F0 m (pc + 3) ls rest)) : W p l e RM s m args below meth c H locs cells slots Q (F0 m pc ls (.int x :: .ref (A 0) :: rest)) := va_put (ty := .boolean) (cx_x X) (cx_b X) (cx_w X) inlX5 tyX5 tyX5_ok nmX5 (cx_o X) (cx_K X).1 hP (apD_5 hA) hS 0 rfl rfl 10 (by decide) (cx_w X _ qw_791) (fun _ h => h) rfl (by decide +kernel) (by show Value.int (x &&& 1) = _; rw [hz]) (by rw [← hz]; exact fit_z x) (Nat.le_of_ble_eq_true rfl) hdg (fun H1 locs1 h1 _ h3 => kk H1 locs1 h1 h3)
end ROWS
end
section
theorem vq_X0_24 : vq RX0 24 RX0 yX0_newestState cX0_newestState 1 (some (.object "ChannelBorrower$Network")) 0 := ⟨qw_137, qw_138, qw_139, qw_21, qw_140, rfl, by decide, by decide, by decide +kernel⟩
theorem vq_X0_28 : vq RX0 28 RX2 yX2_copyFrom cX2_copyFrom 2 none 1 := ⟨qw_141, qw_142, qw_143, qw_17, qw_144, rfl, by decide, by decide, by decide +kernel⟩
theorem vq_X1_37 : vq RX1 37 RX1 yX1_placeCells cX1_placeCells 6 none 2 := ⟨qw_41, qw_42, qw_43, qw_14, qw_44, rfl, by decide, by decide, by decide +kernel⟩
theorem vq_X1_41 : vq RX1 41 RX1 yX1_channelsOfGroup cX1_channelsOfGroup 5 (some .int) 2 := ⟨qw_45, qw_46, qw_47, qw_14, qw_48, rfl, by decide, by decide, by decide +kernel⟩
theorem vq_X1_45 : vq RX1 45 RX1 yX1_cellsWithin cX1_cellsWithin 5 (some .int) 2 := ⟨qw_49, qw_50, qw_51, qw_14, qw_52, rfl, by decide, by decide, by decide +kernel⟩
theorem vq_X1_48 : vq RX1 48 RX1 yX1_separation cX1_separation 5 (some .int) 2 := ⟨qw_53, qw_54, qw_55, qw_14, qw_56, rfl, by decide, by decide, by decide +kernel⟩
theorem vq_X1_51 : vq RX1 51 RX1 yX1_hasCell cX1_hasCell 2 (some .boolean) 1 := ⟨qw_64, qw_65, qw_66, qw_14, qw_67, rfl, by decide, by decide, by decide +kernel⟩
theorem vq_X1_64 : vq RX1 64 RX1 yX1_near cX1_near 2 (some .int) 1 := ⟨qw_254, qw_247, qw_248, qw_14, qw_249, rfl, by decide, by decide, by decide +kernel⟩
theorem vq_X2_28 : vq RX2 28 RX2 yX2_begin cX2_begin 2 none 1 := ⟨qw_77, qw_78, qw_79, qw_17, qw_80, rfl, by decide, by decide, by decide +kernel⟩
theorem sq_X2_58 : sq RX2 58 yJ7_fill_53178 cJ7_fill_53178 4 none 2 := ⟨qw_89, qw_90, qw_91, qw_92, by decide, by decide, by decide +kernel⟩
theorem vq_X2_76 : vq RX2 76 RX2 yX2_isPresent cX2_isPresent 2 (some .boolean) 1 := ⟨qw_215, qw_216, qw_217, qw_17, qw_218, rfl, by decide, by decide, by decide +kernel⟩
theorem vq_X2_80 : vq RX2 80 RX2 yX2_channelAt cX2_channelAt 2 (some .int) 1 := ⟨qw_211, qw_212, qw_213, qw_17, qw_214, rfl, by decide, by decide, by decide +kernel⟩
theorem vq_X2_84 : vq RX2 84 RX2 yX2_cellAt cX2_cellAt 2 (some .int) 1 := ⟨qw_219, qw_220, qw_221, qw_17, qw_222, rfl, by decide, by decide, by decide +kernel⟩
theorem vq_X2_87 : vq RX2 87 RX2 yX2_isNominal cX2_isNominal 3 (some .boolean) 2 := ⟨qw_223, qw_224, qw_225, qw_17, qw_226, rfl, by decide, by decide, by decide +kernel⟩
theorem vq_X2_91 : vq RX2 91 RX1 yX1_hasCell cX1_hasCell 2 (some .boolean) 1 := ⟨qw_263, qw_65, qw_66, qw_14, qw_67, rfl, by decide, by decide, by decide +kernel⟩
theorem vq_X2_96 : vq RX2 96 RX2 yX2_lowestFreeNumber cX2_lowestFreeNumber 2 (some .int) 0 := ⟨qw_374, qw_375, qw_376, qw_17, qw_377, rfl, by decide, by decide, by decide +kernel⟩
theorem vq_X2_100 : vq RX2 100 RX2 yX2_chooseChannel cX2_chooseChannel 5 (some .int) 1 := ⟨qw_382, qw_383, qw_384, qw_17, qw_385, rfl, by decide, by decide, by decide +kernel⟩
theorem vq_X2_103 : vq RX2 103 RX2 yX2_fixedAccepts cX2_fixedAccepts 4 (some .boolean) 1 := ⟨qw_408, qw_409, qw_410, qw_17, qw_411, rfl, by decide, by decide, by decide +kernel⟩
theorem vq_X2_110 : vq RX2 110 RX2 yX2_place cX2_place 4 none 3 := ⟨qw_415, qw_416, qw_417, qw_17, qw_418, rfl, by decide, by decide, by decide +kernel⟩
theorem vq_X2_114 : vq RX2 114 RX2 yX2_release cX2_release 4 none 1 := ⟨qw_259, qw_260, qw_261, qw_17, qw_262, rfl, by decide, by decide, by decide +kernel⟩
theorem vq_X2_118 : vq RX2 118 RX2 yX2_returnCalls cX2_returnCalls 5 (some .int) 0 := ⟨qw_485, qw_200, qw_201, qw_17, qw_202, rfl, by decide, by decide, by decide +kernel⟩
theorem vq_X2_121 : vq RX2 121 RX1 yX1_separation cX1_separation 5 (some .int) 2 := ⟨qw_391, qw_54, qw_55, qw_14, qw_56, rfl, by decide, by decide, by decide +kernel⟩
theorem vq_X2_129 : vq RX2 129 RX2 yX2_occupy cX2_occupy 4 none 2 := ⟨qw_264, qw_265, qw_266, qw_17, qw_267, rfl, by decide, by decide, by decide +kernel⟩
theorem vq_X2_133 : vq RX2 133 RX2 yX2_borrows cX2_borrows 3 (some .boolean) 1 := ⟨qw_207, qw_208, qw_209, qw_17, qw_210, rfl, by decide, by decide, by decide +kernel⟩
theorem vq_X2_139 : vq RX2 139 RX2 yX2_nextToReturn cX2_nextToReturn 5 (some .int) 0 := ⟨qw_203, qw_204, qw_205, qw_17, qw_206, rfl, by decide, by decide, by decide +kernel⟩
theorem vq_X2_142 : vq RX2 142 RX2 yX2_availableNominals cX2_availableNominals 2 (some .int) 1 := ⟨qw_233, qw_234, qw_235, qw_17, qw_236, rfl, by decide, by decide, by decide +kernel⟩
theorem vq_X2_145 : vq RX2 145 RX2 yX2_lowestOf cX2_lowestOf 3 (some .int) 1 := ⟨qw_255, qw_256, qw_257, qw_17, qw_258, rfl, by decide, by decide, by decide +kernel⟩
theorem vq_X2_148 : vq RX2 148 RX1 yX1_burdenIn cX1_burdenIn 6 (some .int) 2 := ⟨qw_250, qw_251, qw_252, qw_14, qw_253, rfl, by decide, by decide, by decide +kernel⟩
theorem vq_X2_151 : vq RX2 151 RX1 yX1_nominalsOf cX1_nominalsOf 2 (some .int) 1 := ⟨qw_227, qw_228, qw_229, qw_14, qw_230, rfl, by decide, by decide, by decide +kernel⟩
theorem vq_X2_157 : vq RX2 157 RX2 yX2_usedIn cX2_usedIn 2 (some .int) 1 := ⟨qw_242, qw_243, qw_244, qw_17, qw_245, rfl, by decide, by decide, by decide +kernel⟩
theorem vq_X2_160 : vq RX2 160 RX1 yX1_near cX1_near 2 (some .int) 1 := ⟨qw_246, qw_247, qw_248, qw_14, qw_249, rfl, by decide, by decide, by decide +kernel⟩
theorem vq_X2_166 : vq RX2 166 RX2 yX2_availableIn cX2_availableIn 5 (some .int) 1 := ⟨qw_237, qw_238, qw_239, qw_17, qw_240, rfl, by decide, by decide, by decide +kernel⟩
theorem vq_X2_169 : vq RX2 169 RX2 yX2_bestDonor cX2_bestDonor 9 (some .int) 2 := ⟨qw_386, qw_387, qw_388, qw_17, qw_389, rfl, by decide, by decide, by decide +kernel⟩
theorem vq_X2_172 : vq RX2 172 RX2 yX2_greatestOf cX2_greatestOf 3 (some .int) 1 := ⟨qw_404, qw_405, qw_406, qw_17, qw_407, rfl, by decide, by decide, by decide +kernel⟩
theorem sq_X2_178 : sq RX2 178 yJ6_bitCount_0f7a4 cJ6_bitCount_0f7a4 1 (some .int) 1 := ⟨qw_392, qw_393, qw_394, qw_395, by decide, by decide, by decide +kernel⟩
theorem vq_X2_183 : vq RX2 183 RX2 yX2_rankOf cX2_rankOf 4 (some .int) 3 := ⟨qw_399, qw_400, qw_401, qw_17, qw_402, rfl, by decide, by decide, by decide +kernel⟩
theorem vq_X2_187 : vq RX2 187 RX1 yX1_groupAt cX1_groupAt 2 (some .int) 1 := ⟨qw_403, qw_346, qw_347, qw_14, qw_348, rfl, by decide, by decide, by decide +kernel⟩
theorem vq_X3_38 : vq RX3 38 RX3 yX3_skipSpaces cX3_skipSpaces 2 none 0 := ⟨qw_755, qw_756, qw_757, qw_26, qw_758, rfl, by decide, by decide, by decide +kernel⟩
theorem vq_X3_41 : vq RX3 41 RX3 yX3_readCommand cX3_readCommand 4 (some .boolean) 0 := ⟨qw_763, qw_764, qw_765, qw_26, qw_766, rfl, by decide, by decide, by decide +kernel⟩
theorem vq_X3_45 : vq RX3 45 RX3 yX3_character cX3_character 2 (some .int) 0 := ⟨qw_759, qw_760, qw_761, qw_26, qw_762, rfl, by decide, by decide, by decide +kernel⟩
theorem vq_X3_49 : vq RX3 49 RX3 yX3_readNumber cX3_readNumber 3 (some .int) 0 := ⟨qw_767, qw_768, qw_769, qw_26, qw_770, rfl, by decide, by decide, by decide +kernel⟩
theorem vq_X3_52 : vq RX3 52 RX3 yX3_readSign cX3_readSign 2 (some .boolean) 1 := ⟨qw_775, qw_776, qw_777, qw_26, qw_778, rfl, by decide, by decide, by decide +kernel⟩
theorem vq_X3_56 : vq RX3 56 RX3 yX3_keep cX3_keep 4 (some .boolean) 3 := ⟨qw_779, qw_780, qw_781, qw_26, qw_782, rfl, by decide, by decide, by decide +kernel⟩
theorem vq_X3_59 : vq RX3 59 RX3 yX3_digit cX3_digit 2 (some .int) 0 := ⟨qw_771, qw_772, qw_773, qw_26, qw_774, rfl, by decide, by decide, by decide +kernel⟩
theorem sq_X4_41 : sq RX4 41 yX4_isBetween cX4_isBetween 3 (some .boolean) 3 := ⟨qw_125, qw_126, qw_2, qw_127, by decide, by decide, by decide +kernel⟩
theorem vq_X4_45 : vq RX4 45 RX0 yX0_push cX0_push 3 none 1 := ⟨qw_128, qw_129, qw_130, qw_21, qw_131, rfl, by decide, by decide, by decide +kernel⟩
theorem vq_X4_49 : vq RX4 49 RX2 yX2_begin cX2_begin 2 none 1 := ⟨qw_151, qw_78, qw_79, qw_17, qw_80, rfl, by decide, by decide, by decide +kernel⟩
theorem vq_X4_70 : vq RX4 70 RX2 yX2_returnCalls cX2_returnCalls 5 (some .int) 0 := ⟨qw_199, qw_200, qw_201, qw_17, qw_202, rfl, by decide, by decide, by decide +kernel⟩
theorem vq_X4_77 : vq RX4 77 RX4 yX4_isCell cX4_isCell 2 (some .boolean) 1 := ⟨qw_340, qw_341, qw_342, qw_2, qw_343, rfl, by decide, by decide, by decide +kernel⟩
theorem vq_X4_81 : vq RX4 81 RX1 yX1_groupAt cX1_groupAt 2 (some .int) 1 := ⟨qw_345, qw_346, qw_347, qw_14, qw_348, rfl, by decide, by decide, by decide +kernel⟩
theorem vq_X4_85 : vq RX4 85 RX1 yX1_separation cX1_separation 5 (some .int) 2 := ⟨qw_361, qw_54, qw_55, qw_14, qw_56, rfl, by decide, by decide, by decide +kernel⟩
theorem vq_X4_89 : vq RX4 89 RX2 yX2_startError cX2_startError 2 (some .int) 1 := ⟨qw_370, qw_371, qw_372, qw_17, qw_373, rfl, by decide, by decide, by decide +kernel⟩
theorem vq_X4_92 : vq RX4 92 RX2 yX2_start cX2_start 5 (some .int) 1 := ⟨qw_378, qw_379, qw_380, qw_17, qw_381, rfl, by decide, by decide, by decide +kernel⟩
theorem vq_X4_95 : vq RX4 95 RX2 yX2_isPresent cX2_isPresent 2 (some .boolean) 1 := ⟨qw_480, qw_216, qw_217, qw_17, qw_218, rfl, by decide, by decide, by decide +kernel⟩
theorem vq_X4_98 : vq RX4 98 RX2 yX2_end cX2_end 3 (some .int) 1 := ⟨qw_481, qw_482, qw_483, qw_17, qw_484, rfl, by decide, by decide, by decide +kernel⟩
theorem vq_X4_101 : vq RX4 101 RX2 yX2_moveError cX2_moveError 4 (some .int) 2 := ⟨qw_494, qw_495, qw_496, qw_17, qw_497, rfl, by decide, by decide, by decide +kernel⟩
theorem vq_X4_104 : vq RX4 104 RX2 yX2_move cX2_move 4 (some .int) 2 := ⟨qw_498, qw_499, qw_500, qw_17, qw_501, rfl, by decide, by decide, by decide +kernel⟩
theorem vq_X4_107 : vq RX4 107 RX2 yX2_cellAt cX2_cellAt 2 (some .int) 1 := ⟨qw_510, qw_220, qw_221, qw_17, qw_222, rfl, by decide, by decide, by decide +kernel⟩
theorem vq_X4_110 : vq RX4 110 RX2 yX2_channelAt cX2_channelAt 2 (some .int) 1 := ⟨qw_519, qw_212, qw_213, qw_17, qw_214, rfl, by decide, by decide, by decide +kernel⟩
theorem vq_X4_113 : vq RX4 113 RX2 yX2_borrows cX2_borrows 3 (some .boolean) 1 := ⟨qw_528, qw_208, qw_209, qw_17, qw_210, rfl, by decide, by decide, by decide +kernel⟩
theorem sq_X4_116 : sq RX4 116 yX4_asNumber cX4_asNumber 1 (some .int) 1 := ⟨qw_529, qw_413, qw_2, qw_414, by decide, by decide, by decide +kernel⟩
theorem vq_X4_120 : vq RX4 120 RX2 yX2_isFixed cX2_isFixed 2 (some .boolean) 1 := ⟨qw_538, qw_539, qw_540, qw_17, qw_541, rfl, by decide, by decide, by decide +kernel⟩
theorem vq_X4_123 : vq RX4 123 RX4 yX4_isChannel cX4_isChannel 2 (some .boolean) 1 := ⟨qw_550, qw_551, qw_552, qw_2, qw_553, rfl, by decide, by decide, by decide +kernel⟩
theorem vq_X4_126 : vq RX4 126 RX2 yX2_availableIn cX2_availableIn 5 (some .int) 1 := ⟨qw_554, qw_238, qw_239, qw_17, qw_240, rfl, by decide, by decide, by decide +kernel⟩
theorem sq_X4_129 : sq RX4 129 yX4_contains cX4_contains 2 (some .boolean) 2 := ⟨qw_555, qw_231, qw_2, qw_232, by decide, by decide, by decide +kernel⟩
theorem vq_X4_133 : vq RX4 133 RX2 yX2_lockers cX2_lockers 6 (some .int) 2 := ⟨qw_568, qw_569, qw_570, qw_17, qw_571, rfl, by decide, by decide, by decide +kernel⟩
theorem vq_X4_136 : vq RX4 136 RX1 yX1_burdenIn cX1_burdenIn 6 (some .int) 2 := ⟨qw_580, qw_251, qw_252, qw_14, qw_253, rfl, by decide, by decide, by decide +kernel⟩
theorem vq_X4_139 : vq RX4 139 RX2 yX2_availableNominals cX2_availableNominals 2 (some .int) 1 := ⟨qw_589, qw_234, qw_235, qw_17, qw_236, rfl, by decide, by decide, by decide +kernel⟩
theorem sq_X4_142 : sq RX4 142 yJ6_bitCount_0f7a4 cJ6_bitCount_0f7a4 1 (some .int) 1 := ⟨qw_590, qw_393, qw_394, qw_395, by decide, by decide, by decide +kernel⟩
theorem vq_X4_147 : vq RX4 147 RX2 yX2_usedIn cX2_usedIn 2 (some .int) 1 := ⟨qw_599, qw_243, qw_244, qw_17, qw_245, rfl, by decide, by decide, by decide +kernel⟩
theorem vq_X4_150 : vq RX4 150 RX1 yX1_nominalsOf cX1_nominalsOf 2 (some .int) 1 := ⟨qw_608, qw_228, qw_229, qw_14, qw_230, rfl, by decide, by decide, by decide +kernel⟩
theorem vq_X4_153 : vq RX4 153 RX2 yX2_chooseChannel cX2_chooseChannel 5 (some .int) 1 := ⟨qw_617, qw_383, qw_384, qw_17, qw_385, rfl, by decide, by decide, by decide +kernel⟩
theorem vq_X4_156 : vq RX4 156 RX2 yX2_chooseDonor cX2_chooseDonor 4 (some .int) 1 := ⟨qw_626, qw_627, qw_628, qw_17, qw_629, rfl, by decide, by decide, by decide +kernel⟩
theorem vq_X4_159 : vq RX4 159 RX2 yX2_presentCalls cX2_presentCalls 3 (some .int) 0 := ⟨qw_646, qw_647, qw_648, qw_17, qw_649, rfl, by decide, by decide, by decide +kernel⟩
theorem vq_X4_183 : vq RX4 183 RX3 yX3_append cX3_append 2 (some .boolean) 1 := ⟨qw_722, qw_723, qw_724, qw_26, qw_725, rfl, by decide, by decide, by decide +kernel⟩
theorem vq_X4_189 : vq RX4 189 RX3 yX3_read cX3_read 2 (some .boolean) 0 := ⟨qw_749, qw_750, qw_751, qw_26, qw_752, rfl, by decide, by decide, by decide +kernel⟩
theorem vq_X4_209 : vq RX4 209 RX4 yX4_commandError cX4_commandError 4 (some .int) 3 := ⟨qw_783, qw_784, qw_785, qw_2, qw_786, rfl, by decide, by decide, by decide +kernel⟩
theorem vq_X4_213 : vq RX4 213 RX0 yX0_pop cX0_pop 3 (some .boolean) 1 := ⟨qw_818, qw_819, qw_820, qw_21, qw_821, rfl, by decide, by decide, by decide +kernel⟩
theorem vq_X4_220 : vq RX4 220 RX2 yX2_copyFrom cX2_copyFrom 2 none 1 := ⟨qw_830, qw_142, qw_143, qw_17, qw_144, rfl, by decide, by decide, by decide +kernel⟩
theorem vq_X4_223 : vq RX4 223 RX1 yX1_hasCell cX1_hasCell 2 (some .boolean) 1 := ⟨qw_344, qw_65, qw_66, qw_14, qw_67, rfl, by decide, by decide, by decide +kernel⟩
theorem sq_X5_34 : sq RX5 34 yX5_in cX5_in 3 (some .boolean) 3 := ⟨qw_156, qw_157, qw_5, qw_158, by decide, by decide, by decide +kernel⟩
theorem vq_X5_38 : vq RX5 38 RX5 yX5_calls cX5_calls 3 (some .int) 0 := ⟨qw_427, qw_428, qw_429, qw_5, qw_430, rfl, by decide, by decide, by decide +kernel⟩
theorem vq_X5_42 : vq RX5 42 RX5 yX5_cells cX5_cells 1 (some .int) 0 := ⟨qw_304, qw_305, qw_306, qw_5, qw_307, rfl, by decide, by decide, by decide +kernel⟩
theorem vq_X5_45 : vq RX5 45 RX5 yX5_groups cX5_groups 1 (some .int) 0 := ⟨qw_168, qw_169, qw_170, qw_5, qw_171, rfl, by decide, by decide, by decide +kernel⟩
theorem vq_X5_48 : vq RX5 48 RX5 yX5_channels cX5_channels 1 (some .int) 0 := ⟨qw_164, qw_165, qw_166, qw_5, qw_167, rfl, by decide, by decide, by decide +kernel⟩
theorem sq_X5_51 : sq RX5 51 yX5_size cX5_size 1 (some .int) 1 := ⟨qw_312, qw_313, qw_5, qw_314, by decide, by decide, by decide +kernel⟩
theorem vq_X5_55 : vq RX5 55 RX5 yX5_group cX5_group 4 (some .int) 1 := ⟨qw_284, qw_285, qw_286, qw_5, qw_287, rfl, by decide, by decide, by decide +kernel⟩
theorem vq_X5_58 : vq RX5 58 RX5 yX5_far cX5_far 6 (some .int) 2 := ⟨qw_308, qw_309, qw_310, qw_5, qw_311, rfl, by decide, by decide, by decide +kernel⟩
theorem vq_X5_62 : vq RX5 62 RX5 yX5_uses cX5_uses 5 (some .boolean) 2 := ⟨qw_296, qw_297, qw_298, qw_5, qw_299, rfl, by decide, by decide, by decide +kernel⟩
theorem vq_X5_66 : vq RX5 66 RX5 yX5_locks cX5_locks 5 (some .int) 2 := ⟨qw_300, qw_301, qw_302, qw_5, qw_303, rfl, by decide, by decide, by decide +kernel⟩
theorem vq_X5_69 : vq RX5 69 RX5 yX5_isNominal cX5_isNominal 3 (some .boolean) 2 := ⟨qw_280, qw_281, qw_282, qw_5, qw_283, rfl, by decide, by decide, by decide +kernel⟩
theorem vq_X5_72 : vq RX5 72 RX5 yX5_available cX5_available 3 (some .boolean) 2 := ⟨qw_292, qw_293, qw_294, qw_5, qw_295, rfl, by decide, by decide, by decide +kernel⟩
theorem vq_X5_78 : vq RX5 78 RX5 yX5_nominal cX5_nominal 3 (some .int) 1 := ⟨qw_288, qw_289, qw_290, qw_5, qw_291, rfl, by decide, by decide, by decide +kernel⟩
theorem vq_X5_81 : vq RX5 81 RX5 yX5_availables cX5_availables 4 (some .int) 1 := ⟨qw_452, qw_453, qw_454, qw_5, qw_455, rfl, by decide, by decide, by decide +kernel⟩
theorem vq_X5_84 : vq RX5 84 RX5 yX5_burdenOf cX5_burdenOf 5 (some .int) 2 := ⟨qw_315, qw_316, qw_317, qw_5, qw_318, rfl, by decide, by decide, by decide +kernel⟩
theorem vq_X5_87 : vq RX5 87 RX5 yX5_borrowed cX5_borrowed 2 (some .boolean) 1 := ⟨qw_276, qw_277, qw_278, qw_5, qw_279, rfl, by decide, by decide, by decide +kernel⟩
theorem vq_X5_91 : vq RX5 91 RX5 yX5_choose cX5_choose 9 (some .int) 1 := ⟨qw_447, qw_448, qw_449, qw_5, qw_450, rfl, by decide, by decide, by decide +kernel⟩
theorem vq_X5_94 : vq RX5 94 RX5 yX5_fixedIn cX5_fixedIn 4 (some .int) 1 := ⟨qw_456, qw_457, qw_458, qw_5, qw_459, rfl, by decide, by decide, by decide +kernel⟩
theorem vq_X5_97 : vq RX5 97 RX5 yX5_channelNow cX5_channelNow 2 (some .int) 1 := ⟨qw_464, qw_465, qw_466, qw_5, qw_467, rfl, by decide, by decide, by decide +kernel⟩
theorem vq_X5_100 : vq RX5 100 RX5 yX5_forget cX5_forget 2 none 1 := ⟨qw_468, qw_469, qw_470, qw_5, qw_471, rfl, by decide, by decide, by decide +kernel⟩
theorem vq_X5_104 : vq RX5 104 RX5 yX5_pass cX5_pass 7 (some .int) 0 := ⟨qw_272, qw_273, qw_274, qw_5, qw_275, rfl, by decide, by decide, by decide +kernel⟩
theorem vq_X5_107 : vq RX5 107 RX5 yX5_note cX5_note 2 none 0 := ⟨qw_159, qw_160, qw_161, qw_5, qw_162, rfl, by decide, by decide, by decide +kernel⟩
theorem vq_X5_110 : vq RX5 110 RX5 yX5_start cX5_start 5 (some .int) 1 := ⟨qw_443, qw_444, qw_445, qw_5, qw_446, rfl, by decide, by decide, by decide +kernel⟩
theorem vq_X5_113 : vq RX5 113 RX5 yX5_end cX5_end 4 (some .int) 1 := ⟨qw_460, qw_461, qw_462, qw_5, qw_463, rfl, by decide, by decide, by decide +kernel⟩
theorem vq_X5_116 : vq RX5 116 RX5 yX5_hand cX5_hand 6 (some .int) 2 := ⟨qw_472, qw_473, qw_474, qw_5, qw_475, rfl, by decide, by decide, by decide +kernel⟩
theorem vq_X5_119 : vq RX5 119 RX5 yX5_isCell cX5_isCell 2 (some .boolean) 1 := ⟨qw_353, qw_354, qw_355, qw_5, qw_356, rfl, by decide, by decide, by decide +kernel⟩
theorem vq_X5_122 : vq RX5 122 RX5 yX5_isCall cX5_isCall 2 (some .boolean) 1 := ⟨qw_431, qw_432, qw_433, qw_5, qw_434, rfl, by decide, by decide, by decide +kernel⟩
theorem vq_X5_125 : vq RX5 125 RX5 yX5_isError cX5_isError 4 (some .boolean) 3 := ⟨qw_423, qw_424, qw_425, qw_5, qw_426, rfl, by decide, by decide, by decide +kernel⟩
theorem vq_X5_128 : vq RX5 128 RX5 yX5_errorOf cX5_errorOf 4 (some .int) 3 := ⟨qw_435, qw_436, qw_437, qw_5, qw_438, rfl, by decide, by decide, by decide +kernel⟩
theorem vq_X5_132 : vq RX5 132 RX5 yX5_does cX5_does 4 (some .int) 3 := ⟨qw_439, qw_440, qw_441, qw_5, qw_442, rfl, by decide, by decide, by decide +kernel⟩
theorem vq_X5_135 : vq RX5 135 RX5 yX5_change cX5_change 4 (some .int) 2 := ⟨qw_181, qw_182, qw_183, qw_5, qw_184, rfl, by decide, by decide, by decide +kernel⟩
theorem vq_X5_138 : vq RX5 138 RX5 yX5_isChannel cX5_isChannel 2 (some .boolean) 1 := ⟨qw_560, qw_561, qw_562, qw_5, qw_563, rfl, by decide, by decide, by decide +kernel⟩
theorem vq_X5_147 : vq RX5 147 RX5 yX5_here cX5_here 1 (some .int) 0 := ⟨qw_801, qw_802, qw_803, qw_5, qw_804, rfl, by decide, by decide, by decide +kernel⟩
theorem vq_X5_150 : vq RX5 150 RX5 yX5_skip cX5_skip 1 none 0 := ⟨qw_797, qw_798, qw_799, qw_5, qw_800, rfl, by decide, by decide, by decide +kernel⟩
theorem vq_X5_157 : vq RX5 157 RX5 yX5_number cX5_number 2 (some .int) 0 := ⟨qw_805, qw_806, qw_807, qw_5, qw_808, rfl, by decide, by decide, by decide +kernel⟩
theorem vq_X5_160 : vq RX5 160 RX5 yX5_expect cX5_expect 2 none 1 := ⟨qw_809, qw_810, qw_811, qw_5, qw_812, rfl, by decide, by decide, by decide +kernel⟩
theorem vq_X5_163 : vq RX5 163 RX5 yX5_script cX5_script 9 (some .int) 1 := ⟨qw_793, qw_794, qw_795, qw_5, qw_796, rfl, by decide, by decide, by decide +kernel⟩
theorem nq_X0_41 : nq RX0 41 yX4_isBetween RX4 cX4_isBetween 3 (some .boolean) 3 := ⟨List.mem_of_getElem? (i := 1) rfl, qw_126, qw_2, qw_127, by decide, by decide, by decide +kernel⟩
theorem nq_X2_154 : nq RX2 154 yX4_contains RX4 cX4_contains 2 (some .boolean) 2 := ⟨List.mem_of_getElem? (i := 2) rfl, qw_231, qw_2, qw_232, by decide, by decide, by decide +kernel⟩
theorem nq_X1_67 : nq RX1 67 yX4_contains RX4 cX4_contains 2 (some .boolean) 2 := ⟨List.mem_of_getElem? (i := 3) rfl, qw_231, qw_2, qw_232, by decide, by decide, by decide +kernel⟩
theorem nq_X2_125 : nq RX2 125 yX4_isBetween RX4 cX4_isBetween 3 (some .boolean) 3 := ⟨List.mem_of_getElem? (i := 4) rfl, qw_126, qw_2, qw_127, by decide, by decide, by decide +kernel⟩
theorem nq_X2_106 : nq RX2 106 yX4_asNumber RX4 cX4_asNumber 1 (some .int) 1 := ⟨List.mem_of_getElem? (i := 5) rfl, qw_413, qw_2, qw_414, by decide, by decide, by decide +kernel⟩
theorem nq_X3_28 : nq RX3 28 yX4_isBetween RX4 cX4_isBetween 3 (some .boolean) 3 := ⟨List.mem_of_getElem? (i := 6) rfl, qw_126, qw_2, qw_127, by decide, by decide, by decide +kernel⟩
end
section
section ROWSW
variable {p : Program} {l : Launch} {e : Env} {RM : Room} {s : State} {m : MethodId} {args : Array Value} {below : List Frame} {meth : Method} {c : Code} {H H0 : Heap} {locs : List Loc} {cells slots : Nat} {Q : State → Prop}
variable {cc : ByteArray} {nL pc : Nat} {ret : Option FieldType} {own : String} {D : va_G} {y : Nat → ClassId} {ls : Array Slot} {rest st0 : List Value} {P : Nat → Prop} {ws : va_W} {a : Nat} {fs : List Value}
theorem gfW_X0_11 (X : cx p s m args meth c cc nL ret RX0 D y) (hP : va_P D vwCl ws H) (q0 : Nat) (he : ws[q0]? = some (a, .inr (0, fs))) {v : Value} (hv : fs[2]? = some v) (hdg : decode cc pc = .ok (.getfield 11, 3)) (kk : W p l e RM s m args below meth c H locs cells slots Q (F0 m (pc + 3) ls (v :: rest))) : W p l e RM s m args below meth c H locs cells slots Q (F0 m pc ls (.ref a :: rest)) := va_get (cx_x X) (cx_b X) (cx_w X) inlX0 (cx_o X) (cx_K X).1 hP q0 he rfl 2 (by decide) (cx_w X _ qw_98) (fun _ h => h) hv hdg kk
theorem pfW_X0_11 (X : cx p s m args meth c cc nL ret RX0 D y) (hin : meth.name = "<init>") (hP : va_P D vwCl ws H) (hD : va_D P ws) (hS : va_S P H0 H locs) (q0 : Nat) (he : ws[q0]? = some (a, .inr (0, fs))) {v : Value} (hn : narrow (.array (.object "ChannelBorrower$Network")) v = v) (hfit : fits (.array (.object "ChannelBorrower$Network")) v = true) (hl : 2 < fs.length) (hdg : decode cc pc = .ok (.putfield 11, 3)) (kk : ∀ (H1 : Heap) (locs1 : List Loc), va_P D vwCl (ws.set q0 (a, .inr (0, fs.set 2 v))) H1 → va_D P (ws.set q0 (a, .inr (0, fs.set 2 v))) → va_S P H0 H1 locs1 → W p l e RM s m args below meth c H1 locs1 cells slots Q (F0 m (pc + 3) ls rest)) : W p l e RM s m args below meth c H locs cells slots Q (F0 m pc ls (v :: .ref a :: rest)) := va_putF (ty := (.array (.object "ChannelBorrower$Network"))) (cx_x X) (cx_b X) (cx_w X) inlX0 tyX0 tyX0_ok nmX0 (cx_o X) (cx_K X).1 hP hD hS q0 he rfl 2 (by decide) (cx_w X _ qw_98) (fun _ h => h) rfl hin rfl (by decide +kernel) hn hfit hl hdg kk
theorem gfW_X0_20 (X : cx p s m args meth c cc nL ret RX0 D y) (hP : va_P D vwCl ws H) (q0 : Nat) (he : ws[q0]? = some (a, .inr (0, fs))) {v : Value} (hv : fs[1]? = some v) (hdg : decode cc pc = .ok (.getfield 20, 3)) (kk : W p l e RM s m args below meth c H locs cells slots Q (F0 m (pc + 3) ls (v :: rest))) : W p l e RM s m args below meth c H locs cells slots Q (F0 m pc ls (.ref a :: rest)) := va_get (cx_x X) (cx_b X) (cx_w X) inlX0 (cx_o X) (cx_K X).1 hP q0 he rfl 1 (by decide) (cx_w X _ qw_132) (fun _ h => h) hv hdg kk
theorem pfW_X0_20 (X : cx p s m args meth c cc nL ret RX0 D y) (hP : va_P D vwCl ws H) (hD : va_D P ws) (hS : va_S P H0 H locs) (q0 : Nat) (he : ws[q0]? = some (a, .inr (0, fs))) {v : Value} (hn : narrow .int v = v) (hfit : fits .int v = true) (hl : 1 < fs.length) (hdg : decode cc pc = .ok (.putfield 20, 3)) (kk : ∀ (H1 : Heap) (locs1 : List Loc), va_P D vwCl (ws.set q0 (a, .inr (0, fs.set 1 v))) H1 → va_D P (ws.set q0 (a, .inr (0, fs.set 1 v))) → va_S P H0 H1 locs1 → W p l e RM s m args below meth c H1 locs1 cells slots Q (F0 m (pc + 3) ls rest)) : W p l e RM s m args below meth c H locs cells slots Q (F0 m pc ls (v :: .ref a :: rest)) := va_put (ty := .int) (cx_x X) (cx_b X) (cx_w X) inlX0 tyX0 tyX0_ok nmX0 (cx_o X) (cx_K X).1 hP hD hS q0 he rfl 1 (by decide) (cx_w X _ qw_132) (fun _ h => h) rfl (by decide +kernel) hn hfit hl hdg kk
theorem gfW_X0_32 (X : cx p s m args meth c cc nL ret RX0 D y) (hP : va_P D vwCl ws H) (q0 : Nat) (he : ws[q0]? = some (a, .inr (0, fs))) {v : Value} (hv : fs[0]? = some v) (hdg : decode cc pc = .ok (.getfield 32, 3)) (kk : W p l e RM s m args below meth c H locs cells slots Q (F0 m (pc + 3) ls (v :: rest))) : W p l e RM s m args below meth c H locs cells slots Q (F0 m pc ls (.ref a :: rest)) := va_get (cx_x X) (cx_b X) (cx_w X) inlX0 (cx_o X) (cx_K X).1 hP q0 he rfl 0 (by decide) (cx_w X _ qw_133) (fun _ h => h) hv hdg kk
theorem pfW_X0_32 (X : cx p s m args meth c cc nL ret RX0 D y) (hP : va_P D vwCl ws H) (hD : va_D P ws) (hS : va_S P H0 H locs) (q0 : Nat) (he : ws[q0]? = some (a, .inr (0, fs))) {v : Value} (hn : narrow .int v = v) (hfit : fits .int v = true) (hl : 0 < fs.length) (hdg : decode cc pc = .ok (.putfield 32, 3)) (kk : ∀ (H1 : Heap) (locs1 : List Loc), va_P D vwCl (ws.set q0 (a, .inr (0, fs.set 0 v))) H1 → va_D P (ws.set q0 (a, .inr (0, fs.set 0 v))) → va_S P H0 H1 locs1 → W p l e RM s m args below meth c H1 locs1 cells slots Q (F0 m (pc + 3) ls rest)) : W p l e RM s m args below meth c H locs cells slots Q (F0 m pc ls (v :: .ref a :: rest)) := va_put (ty := .int) (cx_x X) (cx_b X) (cx_w X) inlX0 tyX0 tyX0_ok nmX0 (cx_o X) (cx_K X).1 hP hD hS q0 he rfl 0 (by decide) (cx_w X _ qw_133) (fun _ h => h) rfl (by decide +kernel) hn hfit hl hdg kk
theorem gfW_X1_9 (X : cx p s m args meth c cc nL ret RX1 D y) (hP : va_P D vwCl ws H) (q0 : Nat) (he : ws[q0]? = some (a, .inr (1, fs))) {v : Value} (hv : fs[3]? = some v) (hdg : decode cc pc = .ok (.getfield 9, 3)) (kk : W p l e RM s m args below meth c H locs cells slots Q (F0 m (pc + 3) ls (v :: rest))) : W p l e RM s m args below meth c H locs cells slots Q (F0 m pc ls (.ref a :: rest)) := va_get (cx_x X) (cx_b X) (cx_w X) inlX1 (cx_o X) (cx_K X).1 hP q0 he rfl 3 (by decide) (cx_w X _ qw_33) (fun _ h => h) hv hdg kk
theorem pfW_X1_9 (X : cx p s m args meth c cc nL ret RX1 D y) (hin : meth.name = "<init>") (hP : va_P D vwCl ws H) (hD : va_D P ws) (hS : va_S P H0 H locs) (q0 : Nat) (he : ws[q0]? = some (a, .inr (1, fs))) {v : Value} (hn : narrow (.array .int) v = v) (hfit : fits (.array .int) v = true) (hl : 3 < fs.length) (hdg : decode cc pc = .ok (.putfield 9, 3)) (kk : ∀ (H1 : Heap) (locs1 : List Loc), va_P D vwCl (ws.set q0 (a, .inr (1, fs.set 3 v))) H1 → va_D P (ws.set q0 (a, .inr (1, fs.set 3 v))) → va_S P H0 H1 locs1 → W p l e RM s m args below meth c H1 locs1 cells slots Q (F0 m (pc + 3) ls rest)) : W p l e RM s m args below meth c H locs cells slots Q (F0 m pc ls (v :: .ref a :: rest)) := va_putF (ty := (.array .int)) (cx_x X) (cx_b X) (cx_w X) inlX1 tyX1 tyX1_ok nmX1 (cx_o X) (cx_K X).1 hP hD hS q0 he rfl 3 (by decide) (cx_w X _ qw_33) (fun _ h => h) rfl hin rfl (by decide +kernel) hn hfit hl hdg kk
theorem gfW_X1_15 (X : cx p s m args meth c cc nL ret RX1 D y) (hP : va_P D vwCl ws H) (q0 : Nat) (he : ws[q0]? = some (a, .inr (1, fs))) {v : Value} (hv : fs[4]? = some v) (hdg : decode cc pc = .ok (.getfield 15, 3)) (kk : W p l e RM s m args below meth c H locs cells slots Q (F0 m (pc + 3) ls (v :: rest))) : W p l e RM s m args below meth c H locs cells slots Q (F0 m pc ls (.ref a :: rest)) := va_get (cx_x X) (cx_b X) (cx_w X) inlX1 (cx_o X) (cx_K X).1 hP q0 he rfl 4 (by decide) (cx_w X _ qw_34) (fun _ h => h) hv hdg kk
theorem pfW_X1_15 (X : cx p s m args meth c cc nL ret RX1 D y) (hin : meth.name = "<init>") (hP : va_P D vwCl ws H) (hD : va_D P ws) (hS : va_S P H0 H locs) (q0 : Nat) (he : ws[q0]? = some (a, .inr (1, fs))) {v : Value} (hn : narrow (.array .int) v = v) (hfit : fits (.array .int) v = true) (hl : 4 < fs.length) (hdg : decode cc pc = .ok (.putfield 15, 3)) (kk : ∀ (H1 : Heap) (locs1 : List Loc), va_P D vwCl (ws.set q0 (a, .inr (1, fs.set 4 v))) H1 → va_D P (ws.set q0 (a, .inr (1, fs.set 4 v))) → va_S P H0 H1 locs1 → W p l e RM s m args below meth c H1 locs1 cells slots Q (F0 m (pc + 3) ls rest)) : W p l e RM s m args below meth c H locs cells slots Q (F0 m pc ls (v :: .ref a :: rest)) := va_putF (ty := (.array .int)) (cx_x X) (cx_b X) (cx_w X) inlX1 tyX1 tyX1_ok nmX1 (cx_o X) (cx_K X).1 hP hD hS q0 he rfl 4 (by decide) (cx_w X _ qw_34) (fun _ h => h) rfl hin rfl (by decide +kernel) hn hfit hl hdg kk
theorem gfW_X1_18 (X : cx p s m args meth c cc nL ret RX1 D y) (hP : va_P D vwCl ws H) (q0 : Nat) (he : ws[q0]? = some (a, .inr (1, fs))) {v : Value} (hv : fs[5]? = some v) (hdg : decode cc pc = .ok (.getfield 18, 3)) (kk : W p l e RM s m args below meth c H locs cells slots Q (F0 m (pc + 3) ls (v :: rest))) : W p l e RM s m args below meth c H locs cells slots Q (F0 m pc ls (.ref a :: rest)) := va_get (cx_x X) (cx_b X) (cx_w X) inlX1 (cx_o X) (cx_K X).1 hP q0 he rfl 5 (by decide) (cx_w X _ qw_35) (fun _ h => h) hv hdg kk
theorem pfW_X1_18 (X : cx p s m args meth c cc nL ret RX1 D y) (hin : meth.name = "<init>") (hP : va_P D vwCl ws H) (hD : va_D P ws) (hS : va_S P H0 H locs) (q0 : Nat) (he : ws[q0]? = some (a, .inr (1, fs))) {v : Value} (hn : narrow (.array .int) v = v) (hfit : fits (.array .int) v = true) (hl : 5 < fs.length) (hdg : decode cc pc = .ok (.putfield 18, 3)) (kk : ∀ (H1 : Heap) (locs1 : List Loc), va_P D vwCl (ws.set q0 (a, .inr (1, fs.set 5 v))) H1 → va_D P (ws.set q0 (a, .inr (1, fs.set 5 v))) → va_S P H0 H1 locs1 → W p l e RM s m args below meth c H1 locs1 cells slots Q (F0 m (pc + 3) ls rest)) : W p l e RM s m args below meth c H locs cells slots Q (F0 m pc ls (v :: .ref a :: rest)) := va_putF (ty := (.array .int)) (cx_x X) (cx_b X) (cx_w X) inlX1 tyX1 tyX1_ok nmX1 (cx_o X) (cx_K X).1 hP hD hS q0 he rfl 5 (by decide) (cx_w X _ qw_35) (fun _ h => h) rfl hin rfl (by decide +kernel) hn hfit hl hdg kk
theorem gfW_X1_21 (X : cx p s m args meth c cc nL ret RX1 D y) (hP : va_P D vwCl ws H) (q0 : Nat) (he : ws[q0]? = some (a, .inr (1, fs))) {v : Value} (hv : fs[6]? = some v) (hdg : decode cc pc = .ok (.getfield 21, 3)) (kk : W p l e RM s m args below meth c H locs cells slots Q (F0 m (pc + 3) ls (v :: rest))) : W p l e RM s m args below meth c H locs cells slots Q (F0 m pc ls (.ref a :: rest)) := va_get (cx_x X) (cx_b X) (cx_w X) inlX1 (cx_o X) (cx_K X).1 hP q0 he rfl 6 (by decide) (cx_w X _ qw_36) (fun _ h => h) hv hdg kk
theorem pfW_X1_21 (X : cx p s m args meth c cc nL ret RX1 D y) (hin : meth.name = "<init>") (hP : va_P D vwCl ws H) (hD : va_D P ws) (hS : va_S P H0 H locs) (q0 : Nat) (he : ws[q0]? = some (a, .inr (1, fs))) {v : Value} (hn : narrow (.array .int) v = v) (hfit : fits (.array .int) v = true) (hl : 6 < fs.length) (hdg : decode cc pc = .ok (.putfield 21, 3)) (kk : ∀ (H1 : Heap) (locs1 : List Loc), va_P D vwCl (ws.set q0 (a, .inr (1, fs.set 6 v))) H1 → va_D P (ws.set q0 (a, .inr (1, fs.set 6 v))) → va_S P H0 H1 locs1 → W p l e RM s m args below meth c H1 locs1 cells slots Q (F0 m (pc + 3) ls rest)) : W p l e RM s m args below meth c H locs cells slots Q (F0 m pc ls (v :: .ref a :: rest)) := va_putF (ty := (.array .int)) (cx_x X) (cx_b X) (cx_w X) inlX1 tyX1 tyX1_ok nmX1 (cx_o X) (cx_K X).1 hP hD hS q0 he rfl 6 (by decide) (cx_w X _ qw_36) (fun _ h => h) rfl hin rfl (by decide +kernel) hn hfit hl hdg kk
theorem gfW_X1_24 (X : cx p s m args meth c cc nL ret RX1 D y) (hP : va_P D vwCl ws H) (q0 : Nat) (he : ws[q0]? = some (a, .inr (1, fs))) {v : Value} (hv : fs[7]? = some v) (hdg : decode cc pc = .ok (.getfield 24, 3)) (kk : W p l e RM s m args below meth c H locs cells slots Q (F0 m (pc + 3) ls (v :: rest))) : W p l e RM s m args below meth c H locs cells slots Q (F0 m pc ls (.ref a :: rest)) := va_get (cx_x X) (cx_b X) (cx_w X) inlX1 (cx_o X) (cx_K X).1 hP q0 he rfl 7 (by decide) (cx_w X _ qw_37) (fun _ h => h) hv hdg kk
theorem pfW_X1_24 (X : cx p s m args meth c cc nL ret RX1 D y) (hin : meth.name = "<init>") (hP : va_P D vwCl ws H) (hD : va_D P ws) (hS : va_S P H0 H locs) (q0 : Nat) (he : ws[q0]? = some (a, .inr (1, fs))) {v : Value} (hn : narrow (.array .int) v = v) (hfit : fits (.array .int) v = true) (hl : 7 < fs.length) (hdg : decode cc pc = .ok (.putfield 24, 3)) (kk : ∀ (H1 : Heap) (locs1 : List Loc), va_P D vwCl (ws.set q0 (a, .inr (1, fs.set 7 v))) H1 → va_D P (ws.set q0 (a, .inr (1, fs.set 7 v))) → va_S P H0 H1 locs1 → W p l e RM s m args below meth c H1 locs1 cells slots Q (F0 m (pc + 3) ls rest)) : W p l e RM s m args below meth c H locs cells slots Q (F0 m pc ls (v :: .ref a :: rest)) := va_putF (ty := (.array .int)) (cx_x X) (cx_b X) (cx_w X) inlX1 tyX1 tyX1_ok nmX1 (cx_o X) (cx_K X).1 hP hD hS q0 he rfl 7 (by decide) (cx_w X _ qw_37) (fun _ h => h) rfl hin rfl (by decide +kernel) hn hfit hl hdg kk
theorem gfW_X1_27 (X : cx p s m args meth c cc nL ret RX1 D y) (hP : va_P D vwCl ws H) (q0 : Nat) (he : ws[q0]? = some (a, .inr (1, fs))) {v : Value} (hv : fs[0]? = some v) (hdg : decode cc pc = .ok (.getfield 27, 3)) (kk : W p l e RM s m args below meth c H locs cells slots Q (F0 m (pc + 3) ls (v :: rest))) : W p l e RM s m args below meth c H locs cells slots Q (F0 m pc ls (.ref a :: rest)) := va_get (cx_x X) (cx_b X) (cx_w X) inlX1 (cx_o X) (cx_K X).1 hP q0 he rfl 0 (by decide) (cx_w X _ qw_38) (fun _ h => h) hv hdg kk
theorem pfW_X1_27 (X : cx p s m args meth c cc nL ret RX1 D y) (hin : meth.name = "<init>") (hP : va_P D vwCl ws H) (hD : va_D P ws) (hS : va_S P H0 H locs) (q0 : Nat) (he : ws[q0]? = some (a, .inr (1, fs))) {v : Value} (hn : narrow .int v = v) (hfit : fits .int v = true) (hl : 0 < fs.length) (hdg : decode cc pc = .ok (.putfield 27, 3)) (kk : ∀ (H1 : Heap) (locs1 : List Loc), va_P D vwCl (ws.set q0 (a, .inr (1, fs.set 0 v))) H1 → va_D P (ws.set q0 (a, .inr (1, fs.set 0 v))) → va_S P H0 H1 locs1 → W p l e RM s m args below meth c H1 locs1 cells slots Q (F0 m (pc + 3) ls rest)) : W p l e RM s m args below meth c H locs cells slots Q (F0 m pc ls (v :: .ref a :: rest)) := va_putF (ty := .int) (cx_x X) (cx_b X) (cx_w X) inlX1 tyX1 tyX1_ok nmX1 (cx_o X) (cx_K X).1 hP hD hS q0 he rfl 0 (by decide) (cx_w X _ qw_38) (fun _ h => h) rfl hin rfl (by decide +kernel) hn hfit hl hdg kk
theorem gfW_X1_31 (X : cx p s m args meth c cc nL ret RX1 D y) (hP : va_P D vwCl ws H) (q0 : Nat) (he : ws[q0]? = some (a, .inr (1, fs))) {v : Value} (hv : fs[1]? = some v) (hdg : decode cc pc = .ok (.getfield 31, 3)) (kk : W p l e RM s m args below meth c H locs cells slots Q (F0 m (pc + 3) ls (v :: rest))) : W p l e RM s m args below meth c H locs cells slots Q (F0 m pc ls (.ref a :: rest)) := va_get (cx_x X) (cx_b X) (cx_w X) inlX1 (cx_o X) (cx_K X).1 hP q0 he rfl 1 (by decide) (cx_w X _ qw_39) (fun _ h => h) hv hdg kk
theorem pfW_X1_31 (X : cx p s m args meth c cc nL ret RX1 D y) (hin : meth.name = "<init>") (hP : va_P D vwCl ws H) (hD : va_D P ws) (hS : va_S P H0 H locs) (q0 : Nat) (he : ws[q0]? = some (a, .inr (1, fs))) {v : Value} (hn : narrow .int v = v) (hfit : fits .int v = true) (hl : 1 < fs.length) (hdg : decode cc pc = .ok (.putfield 31, 3)) (kk : ∀ (H1 : Heap) (locs1 : List Loc), va_P D vwCl (ws.set q0 (a, .inr (1, fs.set 1 v))) H1 → va_D P (ws.set q0 (a, .inr (1, fs.set 1 v))) → va_S P H0 H1 locs1 → W p l e RM s m args below meth c H1 locs1 cells slots Q (F0 m (pc + 3) ls rest)) : W p l e RM s m args below meth c H locs cells slots Q (F0 m pc ls (v :: .ref a :: rest)) := va_putF (ty := .int) (cx_x X) (cx_b X) (cx_w X) inlX1 tyX1 tyX1_ok nmX1 (cx_o X) (cx_K X).1 hP hD hS q0 he rfl 1 (by decide) (cx_w X _ qw_39) (fun _ h => h) rfl hin rfl (by decide +kernel) hn hfit hl hdg kk
theorem gfW_X1_34 (X : cx p s m args meth c cc nL ret RX1 D y) (hP : va_P D vwCl ws H) (q0 : Nat) (he : ws[q0]? = some (a, .inr (1, fs))) {v : Value} (hv : fs[2]? = some v) (hdg : decode cc pc = .ok (.getfield 34, 3)) (kk : W p l e RM s m args below meth c H locs cells slots Q (F0 m (pc + 3) ls (v :: rest))) : W p l e RM s m args below meth c H locs cells slots Q (F0 m pc ls (.ref a :: rest)) := va_get (cx_x X) (cx_b X) (cx_w X) inlX1 (cx_o X) (cx_K X).1 hP q0 he rfl 2 (by decide) (cx_w X _ qw_40) (fun _ h => h) hv hdg kk
theorem pfW_X1_34 (X : cx p s m args meth c cc nL ret RX1 D y) (hin : meth.name = "<init>") (hP : va_P D vwCl ws H) (hD : va_D P ws) (hS : va_S P H0 H locs) (q0 : Nat) (he : ws[q0]? = some (a, .inr (1, fs))) {v : Value} (hn : narrow .int v = v) (hfit : fits .int v = true) (hl : 2 < fs.length) (hdg : decode cc pc = .ok (.putfield 34, 3)) (kk : ∀ (H1 : Heap) (locs1 : List Loc), va_P D vwCl (ws.set q0 (a, .inr (1, fs.set 2 v))) H1 → va_D P (ws.set q0 (a, .inr (1, fs.set 2 v))) → va_S P H0 H1 locs1 → W p l e RM s m args below meth c H1 locs1 cells slots Q (F0 m (pc + 3) ls rest)) : W p l e RM s m args below meth c H locs cells slots Q (F0 m pc ls (v :: .ref a :: rest)) := va_putF (ty := .int) (cx_x X) (cx_b X) (cx_w X) inlX1 tyX1 tyX1_ok nmX1 (cx_o X) (cx_K X).1 hP hD hS q0 he rfl 2 (by decide) (cx_w X _ qw_40) (fun _ h => h) rfl hin rfl (by decide +kernel) hn hfit hl hdg kk
theorem gfW_X2_9 (X : cx p s m args meth c cc nL ret RX2 D y) (hP : va_P D vwCl ws H) (q0 : Nat) (he : ws[q0]? = some (a, .inr (2, fs))) {v : Value} (hv : fs[3]? = some v) (hdg : decode cc pc = .ok (.getfield 9, 3)) (kk : W p l e RM s m args below meth c H locs cells slots Q (F0 m (pc + 3) ls (v :: rest))) : W p l e RM s m args below meth c H locs cells slots Q (F0 m pc ls (.ref a :: rest)) := va_get (cx_x X) (cx_b X) (cx_w X) inlX2 (cx_o X) (cx_K X).1 hP q0 he rfl 3 (by decide) (cx_w X _ qw_72) (fun _ h => h) hv hdg kk
theorem pfW_X2_9 (X : cx p s m args meth c cc nL ret RX2 D y) (hP : va_P D vwCl ws H) (hD : va_D P ws) (hS : va_S P H0 H locs) (q0 : Nat) (he : ws[q0]? = some (a, .inr (2, fs))) {v : Value} (hn : narrow .boolean v = v) (hfit : fits .boolean v = true) (hl : 3 < fs.length) (hdg : decode cc pc = .ok (.putfield 9, 3)) (kk : ∀ (H1 : Heap) (locs1 : List Loc), va_P D vwCl (ws.set q0 (a, .inr (2, fs.set 3 v))) H1 → va_D P (ws.set q0 (a, .inr (2, fs.set 3 v))) → va_S P H0 H1 locs1 → W p l e RM s m args below meth c H1 locs1 cells slots Q (F0 m (pc + 3) ls rest)) : W p l e RM s m args below meth c H locs cells slots Q (F0 m pc ls (v :: .ref a :: rest)) := va_put (ty := .boolean) (cx_x X) (cx_b X) (cx_w X) inlX2 tyX2 tyX2_ok nmX2 (cx_o X) (cx_K X).1 hP hD hS q0 he rfl 3 (by decide) (cx_w X _ qw_72) (fun _ h => h) rfl (by decide +kernel) hn hfit hl hdg kk
theorem gfW_X2_15 (X : cx p s m args meth c cc nL ret RX2 D y) (hP : va_P D vwCl ws H) (q0 : Nat) (he : ws[q0]? = some (a, .inr (2, fs))) {v : Value} (hv : fs[11]? = some v) (hdg : decode cc pc = .ok (.getfield 15, 3)) (kk : W p l e RM s m args below meth c H locs cells slots Q (F0 m (pc + 3) ls (v :: rest))) : W p l e RM s m args below meth c H locs cells slots Q (F0 m pc ls (.ref a :: rest)) := va_get (cx_x X) (cx_b X) (cx_w X) inlX2 (cx_o X) (cx_K X).1 hP q0 he rfl 11 (by decide) (cx_w X _ qw_73) (fun _ h => h) hv hdg kk
theorem pfW_X2_15 (X : cx p s m args meth c cc nL ret RX2 D y) (hin : meth.name = "<init>") (hP : va_P D vwCl ws H) (hD : va_D P ws) (hS : va_S P H0 H locs) (q0 : Nat) (he : ws[q0]? = some (a, .inr (2, fs))) {v : Value} (hn : narrow (.array .int) v = v) (hfit : fits (.array .int) v = true) (hl : 11 < fs.length) (hdg : decode cc pc = .ok (.putfield 15, 3)) (kk : ∀ (H1 : Heap) (locs1 : List Loc), va_P D vwCl (ws.set q0 (a, .inr (2, fs.set 11 v))) H1 → va_D P (ws.set q0 (a, .inr (2, fs.set 11 v))) → va_S P H0 H1 locs1 → W p l e RM s m args below meth c H1 locs1 cells slots Q (F0 m (pc + 3) ls rest)) : W p l e RM s m args below meth c H locs cells slots Q (F0 m pc ls (v :: .ref a :: rest)) := va_putF (ty := (.array .int)) (cx_x X) (cx_b X) (cx_w X) inlX2 tyX2 tyX2_ok nmX2 (cx_o X) (cx_K X).1 hP hD hS q0 he rfl 11 (by decide) (cx_w X _ qw_73) (fun _ h => h) rfl hin rfl (by decide +kernel) hn hfit hl hdg kk
theorem gfW_X2_19 (X : cx p s m args meth c cc nL ret RX2 D y) (hP : va_P D vwCl ws H) (q0 : Nat) (he : ws[q0]? = some (a, .inr (2, fs))) {v : Value} (hv : fs[12]? = some v) (hdg : decode cc pc = .ok (.getfield 19, 3)) (kk : W p l e RM s m args below meth c H locs cells slots Q (F0 m (pc + 3) ls (v :: rest))) : W p l e RM s m args below meth c H locs cells slots Q (F0 m pc ls (.ref a :: rest)) := va_get (cx_x X) (cx_b X) (cx_w X) inlX2 (cx_o X) (cx_K X).1 hP q0 he rfl 12 (by decide) (cx_w X _ qw_74) (fun _ h => h) hv hdg kk
theorem pfW_X2_19 (X : cx p s m args meth c cc nL ret RX2 D y) (hin : meth.name = "<init>") (hP : va_P D vwCl ws H) (hD : va_D P ws) (hS : va_S P H0 H locs) (q0 : Nat) (he : ws[q0]? = some (a, .inr (2, fs))) {v : Value} (hn : narrow (.array .int) v = v) (hfit : fits (.array .int) v = true) (hl : 12 < fs.length) (hdg : decode cc pc = .ok (.putfield 19, 3)) (kk : ∀ (H1 : Heap) (locs1 : List Loc), va_P D vwCl (ws.set q0 (a, .inr (2, fs.set 12 v))) H1 → va_D P (ws.set q0 (a, .inr (2, fs.set 12 v))) → va_S P H0 H1 locs1 → W p l e RM s m args below meth c H1 locs1 cells slots Q (F0 m (pc + 3) ls rest)) : W p l e RM s m args below meth c H locs cells slots Q (F0 m pc ls (v :: .ref a :: rest)) := va_putF (ty := (.array .int)) (cx_x X) (cx_b X) (cx_w X) inlX2 tyX2 tyX2_ok nmX2 (cx_o X) (cx_K X).1 hP hD hS q0 he rfl 12 (by decide) (cx_w X _ qw_74) (fun _ h => h) rfl hin rfl (by decide +kernel) hn hfit hl hdg kk
theorem gfW_X2_22 (X : cx p s m args meth c cc nL ret RX2 D y) (hP : va_P D vwCl ws H) (q0 : Nat) (he : ws[q0]? = some (a, .inr (2, fs))) {v : Value} (hv : fs[13]? = some v) (hdg : decode cc pc = .ok (.getfield 22, 3)) (kk : W p l e RM s m args below meth c H locs cells slots Q (F0 m (pc + 3) ls (v :: rest))) : W p l e RM s m args below meth c H locs cells slots Q (F0 m pc ls (.ref a :: rest)) := va_get (cx_x X) (cx_b X) (cx_w X) inlX2 (cx_o X) (cx_K X).1 hP q0 he rfl 13 (by decide) (cx_w X _ qw_75) (fun _ h => h) hv hdg kk
theorem pfW_X2_22 (X : cx p s m args meth c cc nL ret RX2 D y) (hin : meth.name = "<init>") (hP : va_P D vwCl ws H) (hD : va_D P ws) (hS : va_S P H0 H locs) (q0 : Nat) (he : ws[q0]? = some (a, .inr (2, fs))) {v : Value} (hn : narrow (.array .int) v = v) (hfit : fits (.array .int) v = true) (hl : 13 < fs.length) (hdg : decode cc pc = .ok (.putfield 22, 3)) (kk : ∀ (H1 : Heap) (locs1 : List Loc), va_P D vwCl (ws.set q0 (a, .inr (2, fs.set 13 v))) H1 → va_D P (ws.set q0 (a, .inr (2, fs.set 13 v))) → va_S P H0 H1 locs1 → W p l e RM s m args below meth c H1 locs1 cells slots Q (F0 m (pc + 3) ls rest)) : W p l e RM s m args below meth c H locs cells slots Q (F0 m pc ls (v :: .ref a :: rest)) := va_putF (ty := (.array .int)) (cx_x X) (cx_b X) (cx_w X) inlX2 tyX2 tyX2_ok nmX2 (cx_o X) (cx_K X).1 hP hD hS q0 he rfl 13 (by decide) (cx_w X _ qw_75) (fun _ h => h) rfl hin rfl (by decide +kernel) hn hfit hl hdg kk
theorem gfW_X2_25 (X : cx p s m args meth c cc nL ret RX2 D y) (hP : va_P D vwCl ws H) (q0 : Nat) (he : ws[q0]? = some (a, .inr (2, fs))) {v : Value} (hv : fs[14]? = some v) (hdg : decode cc pc = .ok (.getfield 25, 3)) (kk : W p l e RM s m args below meth c H locs cells slots Q (F0 m (pc + 3) ls (v :: rest))) : W p l e RM s m args below meth c H locs cells slots Q (F0 m pc ls (.ref a :: rest)) := va_get (cx_x X) (cx_b X) (cx_w X) inlX2 (cx_o X) (cx_K X).1 hP q0 he rfl 14 (by decide) (cx_w X _ qw_76) (fun _ h => h) hv hdg kk
theorem pfW_X2_25 (X : cx p s m args meth c cc nL ret RX2 D y) (hin : meth.name = "<init>") (hP : va_P D vwCl ws H) (hD : va_D P ws) (hS : va_S P H0 H locs) (q0 : Nat) (he : ws[q0]? = some (a, .inr (2, fs))) {v : Value} (hn : narrow (.array .int) v = v) (hfit : fits (.array .int) v = true) (hl : 14 < fs.length) (hdg : decode cc pc = .ok (.putfield 25, 3)) (kk : ∀ (H1 : Heap) (locs1 : List Loc), va_P D vwCl (ws.set q0 (a, .inr (2, fs.set 14 v))) H1 → va_D P (ws.set q0 (a, .inr (2, fs.set 14 v))) → va_S P H0 H1 locs1 → W p l e RM s m args below meth c H1 locs1 cells slots Q (F0 m (pc + 3) ls rest)) : W p l e RM s m args below meth c H locs cells slots Q (F0 m pc ls (v :: .ref a :: rest)) := va_putF (ty := (.array .int)) (cx_x X) (cx_b X) (cx_w X) inlX2 tyX2 tyX2_ok nmX2 (cx_o X) (cx_K X).1 hP hD hS q0 he rfl 14 (by decide) (cx_w X _ qw_76) (fun _ h => h) rfl hin rfl (by decide +kernel) hn hfit hl hdg kk
theorem gfW_X2_32 (X : cx p s m args meth c cc nL ret RX2 D y) (hP : va_P D vwCl ws H) (q0 : Nat) (he : ws[q0]? = some (a, .inr (2, fs))) {v : Value} (hv : fs[0]? = some v) (hdg : decode cc pc = .ok (.getfield 32, 3)) (kk : W p l e RM s m args below meth c H locs cells slots Q (F0 m (pc + 3) ls (v :: rest))) : W p l e RM s m args below meth c H locs cells slots Q (F0 m pc ls (.ref a :: rest)) := va_get (cx_x X) (cx_b X) (cx_w X) inlX2 (cx_o X) (cx_K X).1 hP q0 he rfl 0 (by decide) (cx_w X _ qw_81) (fun _ h => h) hv hdg kk
theorem pfW_X2_32 (X : cx p s m args meth c cc nL ret RX2 D y) (hP : va_P D vwCl ws H) (hD : va_D P ws) (hS : va_S P H0 H locs) (q0 : Nat) (he : ws[q0]? = some (a, .inr (2, fs))) {v : Value} (hn : narrow (.object "ChannelBorrower$Layout") v = v) (hfit : fits (.object "ChannelBorrower$Layout") v = true) (hl : 0 < fs.length) (hdg : decode cc pc = .ok (.putfield 32, 3)) (kk : ∀ (H1 : Heap) (locs1 : List Loc), va_P D vwCl (ws.set q0 (a, .inr (2, fs.set 0 v))) H1 → va_D P (ws.set q0 (a, .inr (2, fs.set 0 v))) → va_S P H0 H1 locs1 → W p l e RM s m args below meth c H1 locs1 cells slots Q (F0 m (pc + 3) ls rest)) : W p l e RM s m args below meth c H locs cells slots Q (F0 m pc ls (v :: .ref a :: rest)) := va_put (ty := (.object "ChannelBorrower$Layout")) (cx_x X) (cx_b X) (cx_w X) inlX2 tyX2 tyX2_ok nmX2 (cx_o X) (cx_K X).1 hP hD hS q0 he rfl 0 (by decide) (cx_w X _ qw_81) (fun _ h => h) rfl (by decide +kernel) hn hfit hl hdg kk
theorem gfW_X2_36 (X : cx p s m args meth c cc nL ret RX2 D y) (hP : va_P D vwCl ws H) (q0 : Nat) (he : ws[q0]? = some (a, .inr (2, fs))) {v : Value} (hv : fs[4]? = some v) (hdg : decode cc pc = .ok (.getfield 36, 3)) (kk : W p l e RM s m args below meth c H locs cells slots Q (F0 m (pc + 3) ls (v :: rest))) : W p l e RM s m args below meth c H locs cells slots Q (F0 m pc ls (.ref a :: rest)) := va_get (cx_x X) (cx_b X) (cx_w X) inlX2 (cx_o X) (cx_K X).1 hP q0 he rfl 4 (by decide) (cx_w X _ qw_82) (fun _ h => h) hv hdg kk
theorem pfW_X2_36 (X : cx p s m args meth c cc nL ret RX2 D y) (hP : va_P D vwCl ws H) (hD : va_D P ws) (hS : va_S P H0 H locs) (q0 : Nat) (he : ws[q0]? = some (a, .inr (2, fs))) {v : Value} (hn : narrow .int v = v) (hfit : fits .int v = true) (hl : 4 < fs.length) (hdg : decode cc pc = .ok (.putfield 36, 3)) (kk : ∀ (H1 : Heap) (locs1 : List Loc), va_P D vwCl (ws.set q0 (a, .inr (2, fs.set 4 v))) H1 → va_D P (ws.set q0 (a, .inr (2, fs.set 4 v))) → va_S P H0 H1 locs1 → W p l e RM s m args below meth c H1 locs1 cells slots Q (F0 m (pc + 3) ls rest)) : W p l e RM s m args below meth c H locs cells slots Q (F0 m pc ls (v :: .ref a :: rest)) := va_put (ty := .int) (cx_x X) (cx_b X) (cx_w X) inlX2 tyX2 tyX2_ok nmX2 (cx_o X) (cx_K X).1 hP hD hS q0 he rfl 4 (by decide) (cx_w X _ qw_82) (fun _ h => h) rfl (by decide +kernel) hn hfit hl hdg kk
theorem gfW_X2_40 (X : cx p s m args meth c cc nL ret RX2 D y) (hP : va_P D vwCl ws H) (q0 : Nat) (he : ws[q0]? = some (a, .inr (2, fs))) {v : Value} (hv : fs[5]? = some v) (hdg : decode cc pc = .ok (.getfield 40, 3)) (kk : W p l e RM s m args below meth c H locs cells slots Q (F0 m (pc + 3) ls (v :: rest))) : W p l e RM s m args below meth c H locs cells slots Q (F0 m pc ls (.ref a :: rest)) := va_get (cx_x X) (cx_b X) (cx_w X) inlX2 (cx_o X) (cx_K X).1 hP q0 he rfl 5 (by decide) (cx_w X _ qw_83) (fun _ h => h) hv hdg kk
theorem pfW_X2_40 (X : cx p s m args meth c cc nL ret RX2 D y) (hP : va_P D vwCl ws H) (hD : va_D P ws) (hS : va_S P H0 H locs) (q0 : Nat) (he : ws[q0]? = some (a, .inr (2, fs))) {v : Value} (hn : narrow .int v = v) (hfit : fits .int v = true) (hl : 5 < fs.length) (hdg : decode cc pc = .ok (.putfield 40, 3)) (kk : ∀ (H1 : Heap) (locs1 : List Loc), va_P D vwCl (ws.set q0 (a, .inr (2, fs.set 5 v))) H1 → va_D P (ws.set q0 (a, .inr (2, fs.set 5 v))) → va_S P H0 H1 locs1 → W p l e RM s m args below meth c H1 locs1 cells slots Q (F0 m (pc + 3) ls rest)) : W p l e RM s m args below meth c H locs cells slots Q (F0 m pc ls (v :: .ref a :: rest)) := va_put (ty := .int) (cx_x X) (cx_b X) (cx_w X) inlX2 tyX2 tyX2_ok nmX2 (cx_o X) (cx_K X).1 hP hD hS q0 he rfl 5 (by decide) (cx_w X _ qw_83) (fun _ h => h) rfl (by decide +kernel) hn hfit hl hdg kk
theorem gfW_X2_43 (X : cx p s m args meth c cc nL ret RX2 D y) (hP : va_P D vwCl ws H) (q0 : Nat) (he : ws[q0]? = some (a, .inr (2, fs))) {v : Value} (hv : fs[6]? = some v) (hdg : decode cc pc = .ok (.getfield 43, 3)) (kk : W p l e RM s m args below meth c H locs cells slots Q (F0 m (pc + 3) ls (v :: rest))) : W p l e RM s m args below meth c H locs cells slots Q (F0 m pc ls (.ref a :: rest)) := va_get (cx_x X) (cx_b X) (cx_w X) inlX2 (cx_o X) (cx_K X).1 hP q0 he rfl 6 (by decide) (cx_w X _ qw_84) (fun _ h => h) hv hdg kk
theorem pfW_X2_43 (X : cx p s m args meth c cc nL ret RX2 D y) (hP : va_P D vwCl ws H) (hD : va_D P ws) (hS : va_S P H0 H locs) (q0 : Nat) (he : ws[q0]? = some (a, .inr (2, fs))) {v : Value} (hn : narrow .int v = v) (hfit : fits .int v = true) (hl : 6 < fs.length) (hdg : decode cc pc = .ok (.putfield 43, 3)) (kk : ∀ (H1 : Heap) (locs1 : List Loc), va_P D vwCl (ws.set q0 (a, .inr (2, fs.set 6 v))) H1 → va_D P (ws.set q0 (a, .inr (2, fs.set 6 v))) → va_S P H0 H1 locs1 → W p l e RM s m args below meth c H1 locs1 cells slots Q (F0 m (pc + 3) ls rest)) : W p l e RM s m args below meth c H locs cells slots Q (F0 m pc ls (v :: .ref a :: rest)) := va_put (ty := .int) (cx_x X) (cx_b X) (cx_w X) inlX2 tyX2 tyX2_ok nmX2 (cx_o X) (cx_K X).1 hP hD hS q0 he rfl 6 (by decide) (cx_w X _ qw_84) (fun _ h => h) rfl (by decide +kernel) hn hfit hl hdg kk
theorem gfW_X2_46 (X : cx p s m args meth c cc nL ret RX2 D y) (hP : va_P D vwCl ws H) (q0 : Nat) (he : ws[q0]? = some (a, .inr (2, fs))) {v : Value} (hv : fs[7]? = some v) (hdg : decode cc pc = .ok (.getfield 46, 3)) (kk : W p l e RM s m args below meth c H locs cells slots Q (F0 m (pc + 3) ls (v :: rest))) : W p l e RM s m args below meth c H locs cells slots Q (F0 m pc ls (.ref a :: rest)) := va_get (cx_x X) (cx_b X) (cx_w X) inlX2 (cx_o X) (cx_K X).1 hP q0 he rfl 7 (by decide) (cx_w X _ qw_85) (fun _ h => h) hv hdg kk
theorem pfW_X2_46 (X : cx p s m args meth c cc nL ret RX2 D y) (hP : va_P D vwCl ws H) (hD : va_D P ws) (hS : va_S P H0 H locs) (q0 : Nat) (he : ws[q0]? = some (a, .inr (2, fs))) {v : Value} (hn : narrow .int v = v) (hfit : fits .int v = true) (hl : 7 < fs.length) (hdg : decode cc pc = .ok (.putfield 46, 3)) (kk : ∀ (H1 : Heap) (locs1 : List Loc), va_P D vwCl (ws.set q0 (a, .inr (2, fs.set 7 v))) H1 → va_D P (ws.set q0 (a, .inr (2, fs.set 7 v))) → va_S P H0 H1 locs1 → W p l e RM s m args below meth c H1 locs1 cells slots Q (F0 m (pc + 3) ls rest)) : W p l e RM s m args below meth c H locs cells slots Q (F0 m pc ls (v :: .ref a :: rest)) := va_put (ty := .int) (cx_x X) (cx_b X) (cx_w X) inlX2 tyX2 tyX2_ok nmX2 (cx_o X) (cx_K X).1 hP hD hS q0 he rfl 7 (by decide) (cx_w X _ qw_85) (fun _ h => h) rfl (by decide +kernel) hn hfit hl hdg kk
theorem gfW_X2_49 (X : cx p s m args meth c cc nL ret RX2 D y) (hP : va_P D vwCl ws H) (q0 : Nat) (he : ws[q0]? = some (a, .inr (2, fs))) {v : Value} (hv : fs[8]? = some v) (hdg : decode cc pc = .ok (.getfield 49, 3)) (kk : W p l e RM s m args below meth c H locs cells slots Q (F0 m (pc + 3) ls (v :: rest))) : W p l e RM s m args below meth c H locs cells slots Q (F0 m pc ls (.ref a :: rest)) := va_get (cx_x X) (cx_b X) (cx_w X) inlX2 (cx_o X) (cx_K X).1 hP q0 he rfl 8 (by decide) (cx_w X _ qw_86) (fun _ h => h) hv hdg kk
theorem pfW_X2_49 (X : cx p s m args meth c cc nL ret RX2 D y) (hP : va_P D vwCl ws H) (hD : va_D P ws) (hS : va_S P H0 H locs) (q0 : Nat) (he : ws[q0]? = some (a, .inr (2, fs))) {v : Value} (hn : narrow .int v = v) (hfit : fits .int v = true) (hl : 8 < fs.length) (hdg : decode cc pc = .ok (.putfield 49, 3)) (kk : ∀ (H1 : Heap) (locs1 : List Loc), va_P D vwCl (ws.set q0 (a, .inr (2, fs.set 8 v))) H1 → va_D P (ws.set q0 (a, .inr (2, fs.set 8 v))) → va_S P H0 H1 locs1 → W p l e RM s m args below meth c H1 locs1 cells slots Q (F0 m (pc + 3) ls rest)) : W p l e RM s m args below meth c H locs cells slots Q (F0 m pc ls (v :: .ref a :: rest)) := va_put (ty := .int) (cx_x X) (cx_b X) (cx_w X) inlX2 tyX2 tyX2_ok nmX2 (cx_o X) (cx_K X).1 hP hD hS q0 he rfl 8 (by decide) (cx_w X _ qw_86) (fun _ h => h) rfl (by decide +kernel) hn hfit hl hdg kk
theorem gfW_X2_52 (X : cx p s m args meth c cc nL ret RX2 D y) (hP : va_P D vwCl ws H) (q0 : Nat) (he : ws[q0]? = some (a, .inr (2, fs))) {v : Value} (hv : fs[9]? = some v) (hdg : decode cc pc = .ok (.getfield 52, 3)) (kk : W p l e RM s m args below meth c H locs cells slots Q (F0 m (pc + 3) ls (v :: rest))) : W p l e RM s m args below meth c H locs cells slots Q (F0 m pc ls (.ref a :: rest)) := va_get (cx_x X) (cx_b X) (cx_w X) inlX2 (cx_o X) (cx_K X).1 hP q0 he rfl 9 (by decide) (cx_w X _ qw_87) (fun _ h => h) hv hdg kk
theorem pfW_X2_52 (X : cx p s m args meth c cc nL ret RX2 D y) (hP : va_P D vwCl ws H) (hD : va_D P ws) (hS : va_S P H0 H locs) (q0 : Nat) (he : ws[q0]? = some (a, .inr (2, fs))) {v : Value} (hn : narrow .int v = v) (hfit : fits .int v = true) (hl : 9 < fs.length) (hdg : decode cc pc = .ok (.putfield 52, 3)) (kk : ∀ (H1 : Heap) (locs1 : List Loc), va_P D vwCl (ws.set q0 (a, .inr (2, fs.set 9 v))) H1 → va_D P (ws.set q0 (a, .inr (2, fs.set 9 v))) → va_S P H0 H1 locs1 → W p l e RM s m args below meth c H1 locs1 cells slots Q (F0 m (pc + 3) ls rest)) : W p l e RM s m args below meth c H locs cells slots Q (F0 m pc ls (v :: .ref a :: rest)) := va_put (ty := .int) (cx_x X) (cx_b X) (cx_w X) inlX2 tyX2 tyX2_ok nmX2 (cx_o X) (cx_K X).1 hP hD hS q0 he rfl 9 (by decide) (cx_w X _ qw_87) (fun _ h => h) rfl (by decide +kernel) hn hfit hl hdg kk
theorem gfW_X2_55 (X : cx p s m args meth c cc nL ret RX2 D y) (hP : va_P D vwCl ws H) (q0 : Nat) (he : ws[q0]? = some (a, .inr (2, fs))) {v : Value} (hv : fs[10]? = some v) (hdg : decode cc pc = .ok (.getfield 55, 3)) (kk : W p l e RM s m args below meth c H locs cells slots Q (F0 m (pc + 3) ls (v :: rest))) : W p l e RM s m args below meth c H locs cells slots Q (F0 m pc ls (.ref a :: rest)) := va_get (cx_x X) (cx_b X) (cx_w X) inlX2 (cx_o X) (cx_K X).1 hP q0 he rfl 10 (by decide) (cx_w X _ qw_88) (fun _ h => h) hv hdg kk
theorem pfW_X2_55 (X : cx p s m args meth c cc nL ret RX2 D y) (hP : va_P D vwCl ws H) (hD : va_D P ws) (hS : va_S P H0 H locs) (q0 : Nat) (he : ws[q0]? = some (a, .inr (2, fs))) {v : Value} (hn : narrow .int v = v) (hfit : fits .int v = true) (hl : 10 < fs.length) (hdg : decode cc pc = .ok (.putfield 55, 3)) (kk : ∀ (H1 : Heap) (locs1 : List Loc), va_P D vwCl (ws.set q0 (a, .inr (2, fs.set 10 v))) H1 → va_D P (ws.set q0 (a, .inr (2, fs.set 10 v))) → va_S P H0 H1 locs1 → W p l e RM s m args below meth c H1 locs1 cells slots Q (F0 m (pc + 3) ls rest)) : W p l e RM s m args below meth c H locs cells slots Q (F0 m pc ls (v :: .ref a :: rest)) := va_put (ty := .int) (cx_x X) (cx_b X) (cx_w X) inlX2 tyX2 tyX2_ok nmX2 (cx_o X) (cx_K X).1 hP hD hS q0 he rfl 10 (by decide) (cx_w X _ qw_88) (fun _ h => h) rfl (by decide +kernel) hn hfit hl hdg kk
theorem gfW_X2_64 (X : cx p s m args meth c cc nL ret RX2 D y) (hP : va_P D vwCl ws H) (q0 : Nat) (he : ws[q0]? = some (a, .inr (2, fs))) {v : Value} (hv : fs[1]? = some v) (hdg : decode cc pc = .ok (.getfield 64, 3)) (kk : W p l e RM s m args below meth c H locs cells slots Q (F0 m (pc + 3) ls (v :: rest))) : W p l e RM s m args below meth c H locs cells slots Q (F0 m pc ls (.ref a :: rest)) := va_get (cx_x X) (cx_b X) (cx_w X) inlX2 (cx_o X) (cx_K X).1 hP q0 he rfl 1 (by decide) (cx_w X _ qw_145) (fun _ h => h) hv hdg kk
theorem pfW_X2_64 (X : cx p s m args meth c cc nL ret RX2 D y) (hP : va_P D vwCl ws H) (hD : va_D P ws) (hS : va_S P H0 H locs) (q0 : Nat) (he : ws[q0]? = some (a, .inr (2, fs))) {v : Value} (hn : narrow .int v = v) (hfit : fits .int v = true) (hl : 1 < fs.length) (hdg : decode cc pc = .ok (.putfield 64, 3)) (kk : ∀ (H1 : Heap) (locs1 : List Loc), va_P D vwCl (ws.set q0 (a, .inr (2, fs.set 1 v))) H1 → va_D P (ws.set q0 (a, .inr (2, fs.set 1 v))) → va_S P H0 H1 locs1 → W p l e RM s m args below meth c H1 locs1 cells slots Q (F0 m (pc + 3) ls rest)) : W p l e RM s m args below meth c H locs cells slots Q (F0 m pc ls (v :: .ref a :: rest)) := va_put (ty := .int) (cx_x X) (cx_b X) (cx_w X) inlX2 tyX2 tyX2_ok nmX2 (cx_o X) (cx_K X).1 hP hD hS q0 he rfl 1 (by decide) (cx_w X _ qw_145) (fun _ h => h) rfl (by decide +kernel) hn hfit hl hdg kk
theorem gfW_X2_67 (X : cx p s m args meth c cc nL ret RX2 D y) (hP : va_P D vwCl ws H) (q0 : Nat) (he : ws[q0]? = some (a, .inr (2, fs))) {v : Value} (hv : fs[2]? = some v) (hdg : decode cc pc = .ok (.getfield 67, 3)) (kk : W p l e RM s m args below meth c H locs cells slots Q (F0 m (pc + 3) ls (v :: rest))) : W p l e RM s m args below meth c H locs cells slots Q (F0 m pc ls (.ref a :: rest)) := va_get (cx_x X) (cx_b X) (cx_w X) inlX2 (cx_o X) (cx_K X).1 hP q0 he rfl 2 (by decide) (cx_w X _ qw_146) (fun _ h => h) hv hdg kk
theorem pfW_X2_67 (X : cx p s m args meth c cc nL ret RX2 D y) (hP : va_P D vwCl ws H) (hD : va_D P ws) (hS : va_S P H0 H locs) (q0 : Nat) (he : ws[q0]? = some (a, .inr (2, fs))) {v : Value} (hn : narrow .int v = v) (hfit : fits .int v = true) (hl : 2 < fs.length) (hdg : decode cc pc = .ok (.putfield 67, 3)) (kk : ∀ (H1 : Heap) (locs1 : List Loc), va_P D vwCl (ws.set q0 (a, .inr (2, fs.set 2 v))) H1 → va_D P (ws.set q0 (a, .inr (2, fs.set 2 v))) → va_S P H0 H1 locs1 → W p l e RM s m args below meth c H1 locs1 cells slots Q (F0 m (pc + 3) ls rest)) : W p l e RM s m args below meth c H locs cells slots Q (F0 m pc ls (v :: .ref a :: rest)) := va_put (ty := .int) (cx_x X) (cx_b X) (cx_w X) inlX2 tyX2 tyX2_ok nmX2 (cx_o X) (cx_K X).1 hP hD hS q0 he rfl 2 (by decide) (cx_w X _ qw_146) (fun _ h => h) rfl (by decide +kernel) hn hfit hl hdg kk
theorem gfW_X2_136 (X : cx p s m args meth c cc nL ret RX2 D y) (hP : va_P D vwCl ws H) (q0 : Nat) (he : ws[q0]? = some (a, .inr (1, fs))) {v : Value} (hv : fs[2]? = some v) (hdg : decode cc pc = .ok (.getfield 136, 3)) (kk : W p l e RM s m args below meth c H locs cells slots Q (F0 m (pc + 3) ls (v :: rest))) : W p l e RM s m args below meth c H locs cells slots Q (F0 m pc ls (.ref a :: rest)) := va_get (cx_x X) (cx_b X) (cx_w X) inlX1 (cx_o X) (cx_K X).1 hP q0 he rfl 2 (by decide) (cx_w X _ qw_412) (fun _ h => h) hv hdg kk
theorem gfW_X2_163 (X : cx p s m args meth c cc nL ret RX2 D y) (hP : va_P D vwCl ws H) (q0 : Nat) (he : ws[q0]? = some (a, .inr (1, fs))) {v : Value} (hv : fs[1]? = some v) (hdg : decode cc pc = .ok (.getfield 163, 3)) (kk : W p l e RM s m args below meth c H locs cells slots Q (F0 m (pc + 3) ls (v :: rest))) : W p l e RM s m args below meth c H locs cells slots Q (F0 m pc ls (.ref a :: rest)) := va_get (cx_x X) (cx_b X) (cx_w X) inlX1 (cx_o X) (cx_K X).1 hP q0 he rfl 1 (by decide) (cx_w X _ qw_241) (fun _ h => h) hv hdg kk
theorem gfW_X2_175 (X : cx p s m args meth c cc nL ret RX2 D y) (hP : va_P D vwCl ws H) (q0 : Nat) (he : ws[q0]? = some (a, .inr (1, fs))) {v : Value} (hv : fs[0]? = some v) (hdg : decode cc pc = .ok (.getfield 175, 3)) (kk : W p l e RM s m args below meth c H locs cells slots Q (F0 m (pc + 3) ls (v :: rest))) : W p l e RM s m args below meth c H locs cells slots Q (F0 m pc ls (.ref a :: rest)) := va_get (cx_x X) (cx_b X) (cx_w X) inlX1 (cx_o X) (cx_K X).1 hP q0 he rfl 0 (by decide) (cx_w X _ qw_390) (fun _ h => h) hv hdg kk
theorem gfW_X3_9 (X : cx p s m args meth c cc nL ret RX3 D y) (hP : va_P D vwCl ws H) (q0 : Nat) (he : ws[q0]? = some (a, .inr (3, fs))) {v : Value} (hv : fs[3]? = some v) (hdg : decode cc pc = .ok (.getfield 9, 3)) (kk : W p l e RM s m args below meth c H locs cells slots Q (F0 m (pc + 3) ls (v :: rest))) : W p l e RM s m args below meth c H locs cells slots Q (F0 m pc ls (.ref a :: rest)) := va_get (cx_x X) (cx_b X) (cx_w X) inlX3 (cx_o X) (cx_K X).1 hP q0 he rfl 3 (by decide) (cx_w X _ qw_103) (fun _ h => h) hv hdg kk
theorem pfW_X3_9 (X : cx p s m args meth c cc nL ret RX3 D y) (hin : meth.name = "<init>") (hP : va_P D vwCl ws H) (hD : va_D P ws) (hS : va_S P H0 H locs) (q0 : Nat) (he : ws[q0]? = some (a, .inr (3, fs))) {v : Value} (hn : narrow (.array .int) v = v) (hfit : fits (.array .int) v = true) (hl : 3 < fs.length) (hdg : decode cc pc = .ok (.putfield 9, 3)) (kk : ∀ (H1 : Heap) (locs1 : List Loc), va_P D vwCl (ws.set q0 (a, .inr (3, fs.set 3 v))) H1 → va_D P (ws.set q0 (a, .inr (3, fs.set 3 v))) → va_S P H0 H1 locs1 → W p l e RM s m args below meth c H1 locs1 cells slots Q (F0 m (pc + 3) ls rest)) : W p l e RM s m args below meth c H locs cells slots Q (F0 m pc ls (v :: .ref a :: rest)) := va_putF (ty := (.array .int)) (cx_x X) (cx_b X) (cx_w X) inlX3 tyX3 tyX3_ok nmX3 (cx_o X) (cx_K X).1 hP hD hS q0 he rfl 3 (by decide) (cx_w X _ qw_103) (fun _ h => h) rfl hin rfl (by decide +kernel) hn hfit hl hdg kk
theorem gfW_X3_15 (X : cx p s m args meth c cc nL ret RX3 D y) (hP : va_P D vwCl ws H) (q0 : Nat) (he : ws[q0]? = some (a, .inr (3, fs))) {v : Value} (hv : fs[4]? = some v) (hdg : decode cc pc = .ok (.getfield 15, 3)) (kk : W p l e RM s m args below meth c H locs cells slots Q (F0 m (pc + 3) ls (v :: rest))) : W p l e RM s m args below meth c H locs cells slots Q (F0 m pc ls (.ref a :: rest)) := va_get (cx_x X) (cx_b X) (cx_w X) inlX3 (cx_o X) (cx_K X).1 hP q0 he rfl 4 (by decide) (cx_w X _ qw_104) (fun _ h => h) hv hdg kk
theorem pfW_X3_15 (X : cx p s m args meth c cc nL ret RX3 D y) (hin : meth.name = "<init>") (hP : va_P D vwCl ws H) (hD : va_D P ws) (hS : va_S P H0 H locs) (q0 : Nat) (he : ws[q0]? = some (a, .inr (3, fs))) {v : Value} (hn : narrow (.array .int) v = v) (hfit : fits (.array .int) v = true) (hl : 4 < fs.length) (hdg : decode cc pc = .ok (.putfield 15, 3)) (kk : ∀ (H1 : Heap) (locs1 : List Loc), va_P D vwCl (ws.set q0 (a, .inr (3, fs.set 4 v))) H1 → va_D P (ws.set q0 (a, .inr (3, fs.set 4 v))) → va_S P H0 H1 locs1 → W p l e RM s m args below meth c H1 locs1 cells slots Q (F0 m (pc + 3) ls rest)) : W p l e RM s m args below meth c H locs cells slots Q (F0 m pc ls (v :: .ref a :: rest)) := va_putF (ty := (.array .int)) (cx_x X) (cx_b X) (cx_w X) inlX3 tyX3 tyX3_ok nmX3 (cx_o X) (cx_K X).1 hP hD hS q0 he rfl 4 (by decide) (cx_w X _ qw_104) (fun _ h => h) rfl hin rfl (by decide +kernel) hn hfit hl hdg kk
theorem gfW_X3_18 (X : cx p s m args meth c cc nL ret RX3 D y) (hP : va_P D vwCl ws H) (q0 : Nat) (he : ws[q0]? = some (a, .inr (3, fs))) {v : Value} (hv : fs[5]? = some v) (hdg : decode cc pc = .ok (.getfield 18, 3)) (kk : W p l e RM s m args below meth c H locs cells slots Q (F0 m (pc + 3) ls (v :: rest))) : W p l e RM s m args below meth c H locs cells slots Q (F0 m pc ls (.ref a :: rest)) := va_get (cx_x X) (cx_b X) (cx_w X) inlX3 (cx_o X) (cx_K X).1 hP q0 he rfl 5 (by decide) (cx_w X _ qw_105) (fun _ h => h) hv hdg kk
theorem pfW_X3_18 (X : cx p s m args meth c cc nL ret RX3 D y) (hin : meth.name = "<init>") (hP : va_P D vwCl ws H) (hD : va_D P ws) (hS : va_S P H0 H locs) (q0 : Nat) (he : ws[q0]? = some (a, .inr (3, fs))) {v : Value} (hn : narrow (.array .int) v = v) (hfit : fits (.array .int) v = true) (hl : 5 < fs.length) (hdg : decode cc pc = .ok (.putfield 18, 3)) (kk : ∀ (H1 : Heap) (locs1 : List Loc), va_P D vwCl (ws.set q0 (a, .inr (3, fs.set 5 v))) H1 → va_D P (ws.set q0 (a, .inr (3, fs.set 5 v))) → va_S P H0 H1 locs1 → W p l e RM s m args below meth c H1 locs1 cells slots Q (F0 m (pc + 3) ls rest)) : W p l e RM s m args below meth c H locs cells slots Q (F0 m pc ls (v :: .ref a :: rest)) := va_putF (ty := (.array .int)) (cx_x X) (cx_b X) (cx_w X) inlX3 tyX3 tyX3_ok nmX3 (cx_o X) (cx_K X).1 hP hD hS q0 he rfl 5 (by decide) (cx_w X _ qw_105) (fun _ h => h) rfl hin rfl (by decide +kernel) hn hfit hl hdg kk
theorem gfW_X3_21 (X : cx p s m args meth c cc nL ret RX3 D y) (hP : va_P D vwCl ws H) (q0 : Nat) (he : ws[q0]? = some (a, .inr (3, fs))) {v : Value} (hv : fs[6]? = some v) (hdg : decode cc pc = .ok (.getfield 21, 3)) (kk : W p l e RM s m args below meth c H locs cells slots Q (F0 m (pc + 3) ls (v :: rest))) : W p l e RM s m args below meth c H locs cells slots Q (F0 m pc ls (.ref a :: rest)) := va_get (cx_x X) (cx_b X) (cx_w X) inlX3 (cx_o X) (cx_K X).1 hP q0 he rfl 6 (by decide) (cx_w X _ qw_106) (fun _ h => h) hv hdg kk
theorem pfW_X3_21 (X : cx p s m args meth c cc nL ret RX3 D y) (hin : meth.name = "<init>") (hP : va_P D vwCl ws H) (hD : va_D P ws) (hS : va_S P H0 H locs) (q0 : Nat) (he : ws[q0]? = some (a, .inr (3, fs))) {v : Value} (hn : narrow (.array .int) v = v) (hfit : fits (.array .int) v = true) (hl : 6 < fs.length) (hdg : decode cc pc = .ok (.putfield 21, 3)) (kk : ∀ (H1 : Heap) (locs1 : List Loc), va_P D vwCl (ws.set q0 (a, .inr (3, fs.set 6 v))) H1 → va_D P (ws.set q0 (a, .inr (3, fs.set 6 v))) → va_S P H0 H1 locs1 → W p l e RM s m args below meth c H1 locs1 cells slots Q (F0 m (pc + 3) ls rest)) : W p l e RM s m args below meth c H locs cells slots Q (F0 m pc ls (v :: .ref a :: rest)) := va_putF (ty := (.array .int)) (cx_x X) (cx_b X) (cx_w X) inlX3 tyX3 tyX3_ok nmX3 (cx_o X) (cx_K X).1 hP hD hS q0 he rfl 6 (by decide) (cx_w X _ qw_106) (fun _ h => h) rfl hin rfl (by decide +kernel) hn hfit hl hdg kk
theorem gfW_X3_24 (X : cx p s m args meth c cc nL ret RX3 D y) (hP : va_P D vwCl ws H) (q0 : Nat) (he : ws[q0]? = some (a, .inr (3, fs))) {v : Value} (hv : fs[0]? = some v) (hdg : decode cc pc = .ok (.getfield 24, 3)) (kk : W p l e RM s m args below meth c H locs cells slots Q (F0 m (pc + 3) ls (v :: rest))) : W p l e RM s m args below meth c H locs cells slots Q (F0 m pc ls (.ref a :: rest)) := va_get (cx_x X) (cx_b X) (cx_w X) inlX3 (cx_o X) (cx_K X).1 hP q0 he rfl 0 (by decide) (cx_w X _ qw_726) (fun _ h => h) hv hdg kk
theorem pfW_X3_24 (X : cx p s m args meth c cc nL ret RX3 D y) (hP : va_P D vwCl ws H) (hD : va_D P ws) (hS : va_S P H0 H locs) (q0 : Nat) (he : ws[q0]? = some (a, .inr (3, fs))) {v : Value} (hn : narrow .int v = v) (hfit : fits .int v = true) (hl : 0 < fs.length) (hdg : decode cc pc = .ok (.putfield 24, 3)) (kk : ∀ (H1 : Heap) (locs1 : List Loc), va_P D vwCl (ws.set q0 (a, .inr (3, fs.set 0 v))) H1 → va_D P (ws.set q0 (a, .inr (3, fs.set 0 v))) → va_S P H0 H1 locs1 → W p l e RM s m args below meth c H1 locs1 cells slots Q (F0 m (pc + 3) ls rest)) : W p l e RM s m args below meth c H locs cells slots Q (F0 m pc ls (v :: .ref a :: rest)) := va_put (ty := .int) (cx_x X) (cx_b X) (cx_w X) inlX3 tyX3 tyX3_ok nmX3 (cx_o X) (cx_K X).1 hP hD hS q0 he rfl 0 (by decide) (cx_w X _ qw_726) (fun _ h => h) rfl (by decide +kernel) hn hfit hl hdg kk
theorem gfW_X3_32 (X : cx p s m args meth c cc nL ret RX3 D y) (hP : va_P D vwCl ws H) (q0 : Nat) (he : ws[q0]? = some (a, .inr (3, fs))) {v : Value} (hv : fs[1]? = some v) (hdg : decode cc pc = .ok (.getfield 32, 3)) (kk : W p l e RM s m args below meth c H locs cells slots Q (F0 m (pc + 3) ls (v :: rest))) : W p l e RM s m args below meth c H locs cells slots Q (F0 m pc ls (.ref a :: rest)) := va_get (cx_x X) (cx_b X) (cx_w X) inlX3 (cx_o X) (cx_K X).1 hP q0 he rfl 1 (by decide) (cx_w X _ qw_753) (fun _ h => h) hv hdg kk
theorem pfW_X3_32 (X : cx p s m args meth c cc nL ret RX3 D y) (hP : va_P D vwCl ws H) (hD : va_D P ws) (hS : va_S P H0 H locs) (q0 : Nat) (he : ws[q0]? = some (a, .inr (3, fs))) {v : Value} (hn : narrow .int v = v) (hfit : fits .int v = true) (hl : 1 < fs.length) (hdg : decode cc pc = .ok (.putfield 32, 3)) (kk : ∀ (H1 : Heap) (locs1 : List Loc), va_P D vwCl (ws.set q0 (a, .inr (3, fs.set 1 v))) H1 → va_D P (ws.set q0 (a, .inr (3, fs.set 1 v))) → va_S P H0 H1 locs1 → W p l e RM s m args below meth c H1 locs1 cells slots Q (F0 m (pc + 3) ls rest)) : W p l e RM s m args below meth c H locs cells slots Q (F0 m pc ls (v :: .ref a :: rest)) := va_put (ty := .int) (cx_x X) (cx_b X) (cx_w X) inlX3 tyX3 tyX3_ok nmX3 (cx_o X) (cx_K X).1 hP hD hS q0 he rfl 1 (by decide) (cx_w X _ qw_753) (fun _ h => h) rfl (by decide +kernel) hn hfit hl hdg kk
theorem gfW_X3_35 (X : cx p s m args meth c cc nL ret RX3 D y) (hP : va_P D vwCl ws H) (q0 : Nat) (he : ws[q0]? = some (a, .inr (3, fs))) {v : Value} (hv : fs[2]? = some v) (hdg : decode cc pc = .ok (.getfield 35, 3)) (kk : W p l e RM s m args below meth c H locs cells slots Q (F0 m (pc + 3) ls (v :: rest))) : W p l e RM s m args below meth c H locs cells slots Q (F0 m pc ls (.ref a :: rest)) := va_get (cx_x X) (cx_b X) (cx_w X) inlX3 (cx_o X) (cx_K X).1 hP q0 he rfl 2 (by decide) (cx_w X _ qw_754) (fun _ h => h) hv hdg kk
theorem pfW_X3_35 (X : cx p s m args meth c cc nL ret RX3 D y) (hP : va_P D vwCl ws H) (hD : va_D P ws) (hS : va_S P H0 H locs) (q0 : Nat) (he : ws[q0]? = some (a, .inr (3, fs))) {v : Value} (hn : narrow .int v = v) (hfit : fits .int v = true) (hl : 2 < fs.length) (hdg : decode cc pc = .ok (.putfield 35, 3)) (kk : ∀ (H1 : Heap) (locs1 : List Loc), va_P D vwCl (ws.set q0 (a, .inr (3, fs.set 2 v))) H1 → va_D P (ws.set q0 (a, .inr (3, fs.set 2 v))) → va_S P H0 H1 locs1 → W p l e RM s m args below meth c H1 locs1 cells slots Q (F0 m (pc + 3) ls rest)) : W p l e RM s m args below meth c H locs cells slots Q (F0 m pc ls (v :: .ref a :: rest)) := va_put (ty := .int) (cx_x X) (cx_b X) (cx_w X) inlX3 tyX3 tyX3_ok nmX3 (cx_o X) (cx_K X).1 hP hD hS q0 he rfl 2 (by decide) (cx_w X _ qw_754) (fun _ h => h) rfl (by decide +kernel) hn hfit hl hdg kk
theorem gfW_X4_19 (X : cx p s m args meth c cc nL ret RX4 D y) (hP : va_P D vwCl ws H) (q0 : Nat) (he : ws[q0]? = some (a, .inr (4, fs))) {v : Value} (hv : fs[0]? = some v) (hdg : decode cc pc = .ok (.getfield 19, 3)) (kk : W p l e RM s m args below meth c H locs cells slots Q (F0 m (pc + 3) ls (v :: rest))) : W p l e RM s m args below meth c H locs cells slots Q (F0 m pc ls (.ref a :: rest)) := va_get (cx_x X) (cx_b X) (cx_w X) inlX4 (cx_o X) (cx_K X).1 hP q0 he rfl 0 (by decide) (cx_w X _ qw_18) (fun _ h => h) hv hdg kk
theorem pfW_X4_19 (X : cx p s m args meth c cc nL ret RX4 D y) (hin : meth.name = "<init>") (hP : va_P D vwCl ws H) (hD : va_D P ws) (hS : va_S P H0 H locs) (q0 : Nat) (he : ws[q0]? = some (a, .inr (4, fs))) {v : Value} (hn : narrow (.object "ChannelBorrower$Network") v = v) (hfit : fits (.object "ChannelBorrower$Network") v = true) (hl : 0 < fs.length) (hdg : decode cc pc = .ok (.putfield 19, 3)) (kk : ∀ (H1 : Heap) (locs1 : List Loc), va_P D vwCl (ws.set q0 (a, .inr (4, fs.set 0 v))) H1 → va_D P (ws.set q0 (a, .inr (4, fs.set 0 v))) → va_S P H0 H1 locs1 → W p l e RM s m args below meth c H1 locs1 cells slots Q (F0 m (pc + 3) ls rest)) : W p l e RM s m args below meth c H locs cells slots Q (F0 m pc ls (v :: .ref a :: rest)) := va_putF (ty := (.object "ChannelBorrower$Network")) (cx_x X) (cx_b X) (cx_w X) inlX4 tyX4 tyX4_ok nmX4 (cx_o X) (cx_K X).1 hP hD hS q0 he rfl 0 (by decide) (cx_w X _ qw_18) (fun _ h => h) rfl hin rfl (by decide +kernel) hn hfit hl hdg kk
theorem gfW_X4_26 (X : cx p s m args meth c cc nL ret RX4 D y) (hP : va_P D vwCl ws H) (q0 : Nat) (he : ws[q0]? = some (a, .inr (4, fs))) {v : Value} (hv : fs[1]? = some v) (hdg : decode cc pc = .ok (.getfield 26, 3)) (kk : W p l e RM s m args below meth c H locs cells slots Q (F0 m (pc + 3) ls (v :: rest))) : W p l e RM s m args below meth c H locs cells slots Q (F0 m pc ls (.ref a :: rest)) := va_get (cx_x X) (cx_b X) (cx_w X) inlX4 (cx_o X) (cx_K X).1 hP q0 he rfl 1 (by decide) (cx_w X _ qw_22) (fun _ h => h) hv hdg kk
theorem pfW_X4_26 (X : cx p s m args meth c cc nL ret RX4 D y) (hin : meth.name = "<init>") (hP : va_P D vwCl ws H) (hD : va_D P ws) (hS : va_S P H0 H locs) (q0 : Nat) (he : ws[q0]? = some (a, .inr (4, fs))) {v : Value} (hn : narrow (.object "ChannelBorrower$History") v = v) (hfit : fits (.object "ChannelBorrower$History") v = true) (hl : 1 < fs.length) (hdg : decode cc pc = .ok (.putfield 26, 3)) (kk : ∀ (H1 : Heap) (locs1 : List Loc), va_P D vwCl (ws.set q0 (a, .inr (4, fs.set 1 v))) H1 → va_D P (ws.set q0 (a, .inr (4, fs.set 1 v))) → va_S P H0 H1 locs1 → W p l e RM s m args below meth c H1 locs1 cells slots Q (F0 m (pc + 3) ls rest)) : W p l e RM s m args below meth c H locs cells slots Q (F0 m pc ls (v :: .ref a :: rest)) := va_putF (ty := (.object "ChannelBorrower$History")) (cx_x X) (cx_b X) (cx_w X) inlX4 tyX4 tyX4_ok nmX4 (cx_o X) (cx_K X).1 hP hD hS q0 he rfl 1 (by decide) (cx_w X _ qw_22) (fun _ h => h) rfl hin rfl (by decide +kernel) hn hfit hl hdg kk
theorem gfW_X4_30 (X : cx p s m args meth c cc nL ret RX4 D y) (hP : va_P D vwCl ws H) (q0 : Nat) (he : ws[q0]? = some (a, .inr (4, fs))) {v : Value} (hv : fs[2]? = some v) (hdg : decode cc pc = .ok (.getfield 30, 3)) (kk : W p l e RM s m args below meth c H locs cells slots Q (F0 m (pc + 3) ls (v :: rest))) : W p l e RM s m args below meth c H locs cells slots Q (F0 m pc ls (.ref a :: rest)) := va_get (cx_x X) (cx_b X) (cx_w X) inlX4 (cx_o X) (cx_K X).1 hP q0 he rfl 2 (by decide) (cx_w X _ qw_23) (fun _ h => h) hv hdg kk
theorem pfW_X4_30 (X : cx p s m args meth c cc nL ret RX4 D y) (hin : meth.name = "<init>") (hP : va_P D vwCl ws H) (hD : va_D P ws) (hS : va_S P H0 H locs) (q0 : Nat) (he : ws[q0]? = some (a, .inr (4, fs))) {v : Value} (hn : narrow (.array (.object "ChannelBorrower$Network")) v = v) (hfit : fits (.array (.object "ChannelBorrower$Network")) v = true) (hl : 2 < fs.length) (hdg : decode cc pc = .ok (.putfield 30, 3)) (kk : ∀ (H1 : Heap) (locs1 : List Loc), va_P D vwCl (ws.set q0 (a, .inr (4, fs.set 2 v))) H1 → va_D P (ws.set q0 (a, .inr (4, fs.set 2 v))) → va_S P H0 H1 locs1 → W p l e RM s m args below meth c H1 locs1 cells slots Q (F0 m (pc + 3) ls rest)) : W p l e RM s m args below meth c H locs cells slots Q (F0 m pc ls (v :: .ref a :: rest)) := va_putF (ty := (.array (.object "ChannelBorrower$Network"))) (cx_x X) (cx_b X) (cx_w X) inlX4 tyX4 tyX4_ok nmX4 (cx_o X) (cx_K X).1 hP hD hS q0 he rfl 2 (by decide) (cx_w X _ qw_23) (fun _ h => h) rfl hin rfl (by decide +kernel) hn hfit hl hdg kk
theorem gfW_X4_37 (X : cx p s m args meth c cc nL ret RX4 D y) (hP : va_P D vwCl ws H) (q0 : Nat) (he : ws[q0]? = some (a, .inr (4, fs))) {v : Value} (hv : fs[3]? = some v) (hdg : decode cc pc = .ok (.getfield 37, 3)) (kk : W p l e RM s m args below meth c H locs cells slots Q (F0 m (pc + 3) ls (v :: rest))) : W p l e RM s m args below meth c H locs cells slots Q (F0 m pc ls (.ref a :: rest)) := va_get (cx_x X) (cx_b X) (cx_w X) inlX4 (cx_o X) (cx_K X).1 hP q0 he rfl 3 (by decide) (cx_w X _ qw_27) (fun _ h => h) hv hdg kk
theorem pfW_X4_37 (X : cx p s m args meth c cc nL ret RX4 D y) (hin : meth.name = "<init>") (hP : va_P D vwCl ws H) (hD : va_D P ws) (hS : va_S P H0 H locs) (q0 : Nat) (he : ws[q0]? = some (a, .inr (4, fs))) {v : Value} (hn : narrow (.object "ChannelBorrower$Script") v = v) (hfit : fits (.object "ChannelBorrower$Script") v = true) (hl : 3 < fs.length) (hdg : decode cc pc = .ok (.putfield 37, 3)) (kk : ∀ (H1 : Heap) (locs1 : List Loc), va_P D vwCl (ws.set q0 (a, .inr (4, fs.set 3 v))) H1 → va_D P (ws.set q0 (a, .inr (4, fs.set 3 v))) → va_S P H0 H1 locs1 → W p l e RM s m args below meth c H1 locs1 cells slots Q (F0 m (pc + 3) ls rest)) : W p l e RM s m args below meth c H locs cells slots Q (F0 m pc ls (v :: .ref a :: rest)) := va_putF (ty := (.object "ChannelBorrower$Script")) (cx_x X) (cx_b X) (cx_w X) inlX4 tyX4 tyX4_ok nmX4 (cx_o X) (cx_K X).1 hP hD hS q0 he rfl 3 (by decide) (cx_w X _ qw_27) (fun _ h => h) rfl hin rfl (by decide +kernel) hn hfit hl hdg kk
theorem gfW_X4_52 (X : cx p s m args meth c cc nL ret RX4 D y) (hP : va_P D vwCl ws H) (q0 : Nat) (he : ws[q0]? = some (a, .inr (2, fs))) {v : Value} (hv : fs[0]? = some v) (hdg : decode cc pc = .ok (.getfield 52, 3)) (kk : W p l e RM s m args below meth c H locs cells slots Q (F0 m (pc + 3) ls (v :: rest))) : W p l e RM s m args below meth c H locs cells slots Q (F0 m pc ls (.ref a :: rest)) := va_get (cx_x X) (cx_b X) (cx_w X) inlX2 (cx_o X) (cx_K X).1 hP q0 he rfl 0 (by decide) (cx_w X _ qw_123) (fun _ h => h) hv hdg kk
theorem pfW_X4_52 (X : cx p s m args meth c cc nL ret RX4 D y) (hP : va_P D vwCl ws H) (hD : va_D P ws) (hS : va_S P H0 H locs) (q0 : Nat) (he : ws[q0]? = some (a, .inr (2, fs))) {v : Value} (hn : narrow (.object "ChannelBorrower$Layout") v = v) (hfit : fits (.object "ChannelBorrower$Layout") v = true) (hl : 0 < fs.length) (hdg : decode cc pc = .ok (.putfield 52, 3)) (kk : ∀ (H1 : Heap) (locs1 : List Loc), va_P D vwCl (ws.set q0 (a, .inr (2, fs.set 0 v))) H1 → va_D P (ws.set q0 (a, .inr (2, fs.set 0 v))) → va_S P H0 H1 locs1 → W p l e RM s m args below meth c H1 locs1 cells slots Q (F0 m (pc + 3) ls rest)) : W p l e RM s m args below meth c H locs cells slots Q (F0 m pc ls (v :: .ref a :: rest)) := va_put (ty := (.object "ChannelBorrower$Layout")) (cx_x X) (cx_b X) (cx_w X) inlX2 tyX2 tyX2_ok nmX2 (cx_o X) (cx_K X).1 hP hD hS q0 he rfl 0 (by decide) (cx_w X _ qw_123) (fun _ h => h) rfl (by decide +kernel) hn hfit hl hdg kk
theorem gfW_X4_56 (X : cx p s m args meth c cc nL ret RX4 D y) (hP : va_P D vwCl ws H) (q0 : Nat) (he : ws[q0]? = some (a, .inr (1, fs))) {v : Value} (hv : fs[1]? = some v) (hdg : decode cc pc = .ok (.getfield 56, 3)) (kk : W p l e RM s m args below meth c H locs cells slots Q (F0 m (pc + 3) ls (v :: rest))) : W p l e RM s m args below meth c H locs cells slots Q (F0 m pc ls (.ref a :: rest)) := va_get (cx_x X) (cx_b X) (cx_w X) inlX1 (cx_o X) (cx_K X).1 hP q0 he rfl 1 (by decide) (cx_w X _ qw_124) (fun _ h => h) hv hdg kk
theorem gfW_X4_60 (X : cx p s m args meth c cc nL ret RX4 D y) (hP : va_P D vwCl ws H) (q0 : Nat) (he : ws[q0]? = some (a, .inr (2, fs))) {v : Value} (hv : fs[1]? = some v) (hdg : decode cc pc = .ok (.getfield 60, 3)) (kk : W p l e RM s m args below meth c H locs cells slots Q (F0 m (pc + 3) ls (v :: rest))) : W p l e RM s m args below meth c H locs cells slots Q (F0 m pc ls (.ref a :: rest)) := va_get (cx_x X) (cx_b X) (cx_w X) inlX2 (cx_o X) (cx_K X).1 hP q0 he rfl 1 (by decide) (cx_w X _ qw_176) (fun _ h => h) hv hdg kk
theorem pfW_X4_60 (X : cx p s m args meth c cc nL ret RX4 D y) (hP : va_P D vwCl ws H) (hD : va_D P ws) (hS : va_S P H0 H locs) (q0 : Nat) (he : ws[q0]? = some (a, .inr (2, fs))) {v : Value} (hn : narrow .int v = v) (hfit : fits .int v = true) (hl : 1 < fs.length) (hdg : decode cc pc = .ok (.putfield 60, 3)) (kk : ∀ (H1 : Heap) (locs1 : List Loc), va_P D vwCl (ws.set q0 (a, .inr (2, fs.set 1 v))) H1 → va_D P (ws.set q0 (a, .inr (2, fs.set 1 v))) → va_S P H0 H1 locs1 → W p l e RM s m args below meth c H1 locs1 cells slots Q (F0 m (pc + 3) ls rest)) : W p l e RM s m args below meth c H locs cells slots Q (F0 m pc ls (v :: .ref a :: rest)) := va_put (ty := .int) (cx_x X) (cx_b X) (cx_w X) inlX2 tyX2 tyX2_ok nmX2 (cx_o X) (cx_K X).1 hP hD hS q0 he rfl 1 (by decide) (cx_w X _ qw_176) (fun _ h => h) rfl (by decide +kernel) hn hfit hl hdg kk
theorem gfW_X4_63 (X : cx p s m args meth c cc nL ret RX4 D y) (hP : va_P D vwCl ws H) (q0 : Nat) (he : ws[q0]? = some (a, .inr (2, fs))) {v : Value} (hv : fs[2]? = some v) (hdg : decode cc pc = .ok (.getfield 63, 3)) (kk : W p l e RM s m args below meth c H locs cells slots Q (F0 m (pc + 3) ls (v :: rest))) : W p l e RM s m args below meth c H locs cells slots Q (F0 m pc ls (.ref a :: rest)) := va_get (cx_x X) (cx_b X) (cx_w X) inlX2 (cx_o X) (cx_K X).1 hP q0 he rfl 2 (by decide) (cx_w X _ qw_189) (fun _ h => h) hv hdg kk
theorem pfW_X4_63 (X : cx p s m args meth c cc nL ret RX4 D y) (hP : va_P D vwCl ws H) (hD : va_D P ws) (hS : va_S P H0 H locs) (q0 : Nat) (he : ws[q0]? = some (a, .inr (2, fs))) {v : Value} (hn : narrow .int v = v) (hfit : fits .int v = true) (hl : 2 < fs.length) (hdg : decode cc pc = .ok (.putfield 63, 3)) (kk : ∀ (H1 : Heap) (locs1 : List Loc), va_P D vwCl (ws.set q0 (a, .inr (2, fs.set 2 v))) H1 → va_D P (ws.set q0 (a, .inr (2, fs.set 2 v))) → va_S P H0 H1 locs1 → W p l e RM s m args below meth c H1 locs1 cells slots Q (F0 m (pc + 3) ls rest)) : W p l e RM s m args below meth c H locs cells slots Q (F0 m pc ls (v :: .ref a :: rest)) := va_put (ty := .int) (cx_x X) (cx_b X) (cx_w X) inlX2 tyX2 tyX2_ok nmX2 (cx_o X) (cx_K X).1 hP hD hS q0 he rfl 2 (by decide) (cx_w X _ qw_189) (fun _ h => h) rfl (by decide +kernel) hn hfit hl hdg kk
theorem gfW_X4_66 (X : cx p s m args meth c cc nL ret RX4 D y) (hP : va_P D vwCl ws H) (q0 : Nat) (he : ws[q0]? = some (a, .inr (2, fs))) {v : Value} (hv : fs[3]? = some v) (hdg : decode cc pc = .ok (.getfield 66, 3)) (kk : W p l e RM s m args below meth c H locs cells slots Q (F0 m (pc + 3) ls (v :: rest))) : W p l e RM s m args below meth c H locs cells slots Q (F0 m pc ls (.ref a :: rest)) := va_get (cx_x X) (cx_b X) (cx_w X) inlX2 (cx_o X) (cx_K X).1 hP q0 he rfl 3 (by decide) (cx_w X _ qw_198) (fun _ h => h) hv hdg kk
theorem pfW_X4_66 (X : cx p s m args meth c cc nL ret RX4 D y) (hP : va_P D vwCl ws H) (hD : va_D P ws) (hS : va_S P H0 H locs) (q0 : Nat) (he : ws[q0]? = some (a, .inr (2, fs))) {v : Value} (hn : narrow .boolean v = v) (hfit : fits .boolean v = true) (hl : 3 < fs.length) (hdg : decode cc pc = .ok (.putfield 66, 3)) (kk : ∀ (H1 : Heap) (locs1 : List Loc), va_P D vwCl (ws.set q0 (a, .inr (2, fs.set 3 v))) H1 → va_D P (ws.set q0 (a, .inr (2, fs.set 3 v))) → va_S P H0 H1 locs1 → W p l e RM s m args below meth c H1 locs1 cells slots Q (F0 m (pc + 3) ls rest)) : W p l e RM s m args below meth c H locs cells slots Q (F0 m pc ls (v :: .ref a :: rest)) := va_put (ty := .boolean) (cx_x X) (cx_b X) (cx_w X) inlX2 tyX2 tyX2_ok nmX2 (cx_o X) (cx_K X).1 hP hD hS q0 he rfl 3 (by decide) (cx_w X _ qw_198) (fun _ h => h) rfl (by decide +kernel) hn hfit hl hdg kk
theorem gfW_X4_74 (X : cx p s m args meth c cc nL ret RX4 D y) (hP : va_P D vwCl ws H) (q0 : Nat) (he : ws[q0]? = some (a, .inr (1, fs))) {v : Value} (hv : fs[0]? = some v) (hdg : decode cc pc = .ok (.getfield 74, 3)) (kk : W p l e RM s m args below meth c H locs cells slots Q (F0 m (pc + 3) ls (v :: rest))) : W p l e RM s m args below meth c H locs cells slots Q (F0 m pc ls (.ref a :: rest)) := va_get (cx_x X) (cx_b X) (cx_w X) inlX1 (cx_o X) (cx_K X).1 hP q0 he rfl 0 (by decide) (cx_w X _ qw_323) (fun _ h => h) hv hdg kk
theorem gfW_X4_162 (X : cx p s m args meth c cc nL ret RX4 D y) (hP : va_P D vwCl ws H) (q0 : Nat) (he : ws[q0]? = some (a, .inr (2, fs))) {v : Value} (hv : fs[4]? = some v) (hdg : decode cc pc = .ok (.getfield 162, 3)) (kk : W p l e RM s m args below meth c H locs cells slots Q (F0 m (pc + 3) ls (v :: rest))) : W p l e RM s m args below meth c H locs cells slots Q (F0 m pc ls (.ref a :: rest)) := va_get (cx_x X) (cx_b X) (cx_w X) inlX2 (cx_o X) (cx_K X).1 hP q0 he rfl 4 (by decide) (cx_w X _ qw_658) (fun _ h => h) hv hdg kk
theorem pfW_X4_162 (X : cx p s m args meth c cc nL ret RX4 D y) (hP : va_P D vwCl ws H) (hD : va_D P ws) (hS : va_S P H0 H locs) (q0 : Nat) (he : ws[q0]? = some (a, .inr (2, fs))) {v : Value} (hn : narrow .int v = v) (hfit : fits .int v = true) (hl : 4 < fs.length) (hdg : decode cc pc = .ok (.putfield 162, 3)) (kk : ∀ (H1 : Heap) (locs1 : List Loc), va_P D vwCl (ws.set q0 (a, .inr (2, fs.set 4 v))) H1 → va_D P (ws.set q0 (a, .inr (2, fs.set 4 v))) → va_S P H0 H1 locs1 → W p l e RM s m args below meth c H1 locs1 cells slots Q (F0 m (pc + 3) ls rest)) : W p l e RM s m args below meth c H locs cells slots Q (F0 m pc ls (v :: .ref a :: rest)) := va_put (ty := .int) (cx_x X) (cx_b X) (cx_w X) inlX2 tyX2 tyX2_ok nmX2 (cx_o X) (cx_K X).1 hP hD hS q0 he rfl 4 (by decide) (cx_w X _ qw_658) (fun _ h => h) rfl (by decide +kernel) hn hfit hl hdg kk
theorem gfW_X4_165 (X : cx p s m args meth c cc nL ret RX4 D y) (hP : va_P D vwCl ws H) (q0 : Nat) (he : ws[q0]? = some (a, .inr (2, fs))) {v : Value} (hv : fs[5]? = some v) (hdg : decode cc pc = .ok (.getfield 165, 3)) (kk : W p l e RM s m args below meth c H locs cells slots Q (F0 m (pc + 3) ls (v :: rest))) : W p l e RM s m args below meth c H locs cells slots Q (F0 m pc ls (.ref a :: rest)) := va_get (cx_x X) (cx_b X) (cx_w X) inlX2 (cx_o X) (cx_K X).1 hP q0 he rfl 5 (by decide) (cx_w X _ qw_667) (fun _ h => h) hv hdg kk
theorem pfW_X4_165 (X : cx p s m args meth c cc nL ret RX4 D y) (hP : va_P D vwCl ws H) (hD : va_D P ws) (hS : va_S P H0 H locs) (q0 : Nat) (he : ws[q0]? = some (a, .inr (2, fs))) {v : Value} (hn : narrow .int v = v) (hfit : fits .int v = true) (hl : 5 < fs.length) (hdg : decode cc pc = .ok (.putfield 165, 3)) (kk : ∀ (H1 : Heap) (locs1 : List Loc), va_P D vwCl (ws.set q0 (a, .inr (2, fs.set 5 v))) H1 → va_D P (ws.set q0 (a, .inr (2, fs.set 5 v))) → va_S P H0 H1 locs1 → W p l e RM s m args below meth c H1 locs1 cells slots Q (F0 m (pc + 3) ls rest)) : W p l e RM s m args below meth c H locs cells slots Q (F0 m pc ls (v :: .ref a :: rest)) := va_put (ty := .int) (cx_x X) (cx_b X) (cx_w X) inlX2 tyX2 tyX2_ok nmX2 (cx_o X) (cx_K X).1 hP hD hS q0 he rfl 5 (by decide) (cx_w X _ qw_667) (fun _ h => h) rfl (by decide +kernel) hn hfit hl hdg kk
theorem gfW_X4_168 (X : cx p s m args meth c cc nL ret RX4 D y) (hP : va_P D vwCl ws H) (q0 : Nat) (he : ws[q0]? = some (a, .inr (2, fs))) {v : Value} (hv : fs[6]? = some v) (hdg : decode cc pc = .ok (.getfield 168, 3)) (kk : W p l e RM s m args below meth c H locs cells slots Q (F0 m (pc + 3) ls (v :: rest))) : W p l e RM s m args below meth c H locs cells slots Q (F0 m pc ls (.ref a :: rest)) := va_get (cx_x X) (cx_b X) (cx_w X) inlX2 (cx_o X) (cx_K X).1 hP q0 he rfl 6 (by decide) (cx_w X _ qw_676) (fun _ h => h) hv hdg kk
theorem pfW_X4_168 (X : cx p s m args meth c cc nL ret RX4 D y) (hP : va_P D vwCl ws H) (hD : va_D P ws) (hS : va_S P H0 H locs) (q0 : Nat) (he : ws[q0]? = some (a, .inr (2, fs))) {v : Value} (hn : narrow .int v = v) (hfit : fits .int v = true) (hl : 6 < fs.length) (hdg : decode cc pc = .ok (.putfield 168, 3)) (kk : ∀ (H1 : Heap) (locs1 : List Loc), va_P D vwCl (ws.set q0 (a, .inr (2, fs.set 6 v))) H1 → va_D P (ws.set q0 (a, .inr (2, fs.set 6 v))) → va_S P H0 H1 locs1 → W p l e RM s m args below meth c H1 locs1 cells slots Q (F0 m (pc + 3) ls rest)) : W p l e RM s m args below meth c H locs cells slots Q (F0 m pc ls (v :: .ref a :: rest)) := va_put (ty := .int) (cx_x X) (cx_b X) (cx_w X) inlX2 tyX2 tyX2_ok nmX2 (cx_o X) (cx_K X).1 hP hD hS q0 he rfl 6 (by decide) (cx_w X _ qw_676) (fun _ h => h) rfl (by decide +kernel) hn hfit hl hdg kk
theorem gfW_X4_171 (X : cx p s m args meth c cc nL ret RX4 D y) (hP : va_P D vwCl ws H) (q0 : Nat) (he : ws[q0]? = some (a, .inr (2, fs))) {v : Value} (hv : fs[7]? = some v) (hdg : decode cc pc = .ok (.getfield 171, 3)) (kk : W p l e RM s m args below meth c H locs cells slots Q (F0 m (pc + 3) ls (v :: rest))) : W p l e RM s m args below meth c H locs cells slots Q (F0 m pc ls (.ref a :: rest)) := va_get (cx_x X) (cx_b X) (cx_w X) inlX2 (cx_o X) (cx_K X).1 hP q0 he rfl 7 (by decide) (cx_w X _ qw_685) (fun _ h => h) hv hdg kk
theorem pfW_X4_171 (X : cx p s m args meth c cc nL ret RX4 D y) (hP : va_P D vwCl ws H) (hD : va_D P ws) (hS : va_S P H0 H locs) (q0 : Nat) (he : ws[q0]? = some (a, .inr (2, fs))) {v : Value} (hn : narrow .int v = v) (hfit : fits .int v = true) (hl : 7 < fs.length) (hdg : decode cc pc = .ok (.putfield 171, 3)) (kk : ∀ (H1 : Heap) (locs1 : List Loc), va_P D vwCl (ws.set q0 (a, .inr (2, fs.set 7 v))) H1 → va_D P (ws.set q0 (a, .inr (2, fs.set 7 v))) → va_S P H0 H1 locs1 → W p l e RM s m args below meth c H1 locs1 cells slots Q (F0 m (pc + 3) ls rest)) : W p l e RM s m args below meth c H locs cells slots Q (F0 m pc ls (v :: .ref a :: rest)) := va_put (ty := .int) (cx_x X) (cx_b X) (cx_w X) inlX2 tyX2 tyX2_ok nmX2 (cx_o X) (cx_K X).1 hP hD hS q0 he rfl 7 (by decide) (cx_w X _ qw_685) (fun _ h => h) rfl (by decide +kernel) hn hfit hl hdg kk
theorem gfW_X4_174 (X : cx p s m args meth c cc nL ret RX4 D y) (hP : va_P D vwCl ws H) (q0 : Nat) (he : ws[q0]? = some (a, .inr (2, fs))) {v : Value} (hv : fs[8]? = some v) (hdg : decode cc pc = .ok (.getfield 174, 3)) (kk : W p l e RM s m args below meth c H locs cells slots Q (F0 m (pc + 3) ls (v :: rest))) : W p l e RM s m args below meth c H locs cells slots Q (F0 m pc ls (.ref a :: rest)) := va_get (cx_x X) (cx_b X) (cx_w X) inlX2 (cx_o X) (cx_K X).1 hP q0 he rfl 8 (by decide) (cx_w X _ qw_694) (fun _ h => h) hv hdg kk
theorem pfW_X4_174 (X : cx p s m args meth c cc nL ret RX4 D y) (hP : va_P D vwCl ws H) (hD : va_D P ws) (hS : va_S P H0 H locs) (q0 : Nat) (he : ws[q0]? = some (a, .inr (2, fs))) {v : Value} (hn : narrow .int v = v) (hfit : fits .int v = true) (hl : 8 < fs.length) (hdg : decode cc pc = .ok (.putfield 174, 3)) (kk : ∀ (H1 : Heap) (locs1 : List Loc), va_P D vwCl (ws.set q0 (a, .inr (2, fs.set 8 v))) H1 → va_D P (ws.set q0 (a, .inr (2, fs.set 8 v))) → va_S P H0 H1 locs1 → W p l e RM s m args below meth c H1 locs1 cells slots Q (F0 m (pc + 3) ls rest)) : W p l e RM s m args below meth c H locs cells slots Q (F0 m pc ls (v :: .ref a :: rest)) := va_put (ty := .int) (cx_x X) (cx_b X) (cx_w X) inlX2 tyX2 tyX2_ok nmX2 (cx_o X) (cx_K X).1 hP hD hS q0 he rfl 8 (by decide) (cx_w X _ qw_694) (fun _ h => h) rfl (by decide +kernel) hn hfit hl hdg kk
theorem gfW_X4_177 (X : cx p s m args meth c cc nL ret RX4 D y) (hP : va_P D vwCl ws H) (q0 : Nat) (he : ws[q0]? = some (a, .inr (2, fs))) {v : Value} (hv : fs[9]? = some v) (hdg : decode cc pc = .ok (.getfield 177, 3)) (kk : W p l e RM s m args below meth c H locs cells slots Q (F0 m (pc + 3) ls (v :: rest))) : W p l e RM s m args below meth c H locs cells slots Q (F0 m pc ls (.ref a :: rest)) := va_get (cx_x X) (cx_b X) (cx_w X) inlX2 (cx_o X) (cx_K X).1 hP q0 he rfl 9 (by decide) (cx_w X _ qw_703) (fun _ h => h) hv hdg kk
theorem pfW_X4_177 (X : cx p s m args meth c cc nL ret RX4 D y) (hP : va_P D vwCl ws H) (hD : va_D P ws) (hS : va_S P H0 H locs) (q0 : Nat) (he : ws[q0]? = some (a, .inr (2, fs))) {v : Value} (hn : narrow .int v = v) (hfit : fits .int v = true) (hl : 9 < fs.length) (hdg : decode cc pc = .ok (.putfield 177, 3)) (kk : ∀ (H1 : Heap) (locs1 : List Loc), va_P D vwCl (ws.set q0 (a, .inr (2, fs.set 9 v))) H1 → va_D P (ws.set q0 (a, .inr (2, fs.set 9 v))) → va_S P H0 H1 locs1 → W p l e RM s m args below meth c H1 locs1 cells slots Q (F0 m (pc + 3) ls rest)) : W p l e RM s m args below meth c H locs cells slots Q (F0 m pc ls (v :: .ref a :: rest)) := va_put (ty := .int) (cx_x X) (cx_b X) (cx_w X) inlX2 tyX2 tyX2_ok nmX2 (cx_o X) (cx_K X).1 hP hD hS q0 he rfl 9 (by decide) (cx_w X _ qw_703) (fun _ h => h) rfl (by decide +kernel) hn hfit hl hdg kk
theorem gfW_X4_180 (X : cx p s m args meth c cc nL ret RX4 D y) (hP : va_P D vwCl ws H) (q0 : Nat) (he : ws[q0]? = some (a, .inr (2, fs))) {v : Value} (hv : fs[10]? = some v) (hdg : decode cc pc = .ok (.getfield 180, 3)) (kk : W p l e RM s m args below meth c H locs cells slots Q (F0 m (pc + 3) ls (v :: rest))) : W p l e RM s m args below meth c H locs cells slots Q (F0 m pc ls (.ref a :: rest)) := va_get (cx_x X) (cx_b X) (cx_w X) inlX2 (cx_o X) (cx_K X).1 hP q0 he rfl 10 (by decide) (cx_w X _ qw_712) (fun _ h => h) hv hdg kk
theorem pfW_X4_180 (X : cx p s m args meth c cc nL ret RX4 D y) (hP : va_P D vwCl ws H) (hD : va_D P ws) (hS : va_S P H0 H locs) (q0 : Nat) (he : ws[q0]? = some (a, .inr (2, fs))) {v : Value} (hn : narrow .int v = v) (hfit : fits .int v = true) (hl : 10 < fs.length) (hdg : decode cc pc = .ok (.putfield 180, 3)) (kk : ∀ (H1 : Heap) (locs1 : List Loc), va_P D vwCl (ws.set q0 (a, .inr (2, fs.set 10 v))) H1 → va_D P (ws.set q0 (a, .inr (2, fs.set 10 v))) → va_S P H0 H1 locs1 → W p l e RM s m args below meth c H1 locs1 cells slots Q (F0 m (pc + 3) ls rest)) : W p l e RM s m args below meth c H locs cells slots Q (F0 m pc ls (v :: .ref a :: rest)) := va_put (ty := .int) (cx_x X) (cx_b X) (cx_w X) inlX2 tyX2 tyX2_ok nmX2 (cx_o X) (cx_K X).1 hP hD hS q0 he rfl 10 (by decide) (cx_w X _ qw_712) (fun _ h => h) rfl (by decide +kernel) hn hfit hl hdg kk
theorem gfW_X4_186 (X : cx p s m args meth c cc nL ret RX4 D y) (hP : va_P D vwCl ws H) (q0 : Nat) (he : ws[q0]? = some (a, .inr (3, fs))) {v : Value} (hv : fs[0]? = some v) (hdg : decode cc pc = .ok (.getfield 186, 3)) (kk : W p l e RM s m args below meth c H locs cells slots Q (F0 m (pc + 3) ls (v :: rest))) : W p l e RM s m args below meth c H locs cells slots Q (F0 m pc ls (.ref a :: rest)) := va_get (cx_x X) (cx_b X) (cx_w X) inlX3 (cx_o X) (cx_K X).1 hP q0 he rfl 0 (by decide) (cx_w X _ qw_721) (fun _ h => h) hv hdg kk
theorem pfW_X4_186 (X : cx p s m args meth c cc nL ret RX4 D y) (hP : va_P D vwCl ws H) (hD : va_D P ws) (hS : va_S P H0 H locs) (q0 : Nat) (he : ws[q0]? = some (a, .inr (3, fs))) {v : Value} (hn : narrow .int v = v) (hfit : fits .int v = true) (hl : 0 < fs.length) (hdg : decode cc pc = .ok (.putfield 186, 3)) (kk : ∀ (H1 : Heap) (locs1 : List Loc), va_P D vwCl (ws.set q0 (a, .inr (3, fs.set 0 v))) H1 → va_D P (ws.set q0 (a, .inr (3, fs.set 0 v))) → va_S P H0 H1 locs1 → W p l e RM s m args below meth c H1 locs1 cells slots Q (F0 m (pc + 3) ls rest)) : W p l e RM s m args below meth c H locs cells slots Q (F0 m pc ls (v :: .ref a :: rest)) := va_put (ty := .int) (cx_x X) (cx_b X) (cx_w X) inlX3 tyX3 tyX3_ok nmX3 (cx_o X) (cx_K X).1 hP hD hS q0 he rfl 0 (by decide) (cx_w X _ qw_721) (fun _ h => h) rfl (by decide +kernel) hn hfit hl hdg kk
theorem gfW_X4_193 (X : cx p s m args meth c cc nL ret RX4 D y) (hP : va_P D vwCl ws H) (q0 : Nat) (he : ws[q0]? = some (a, .inr (3, fs))) {v : Value} (hv : fs[1]? = some v) (hdg : decode cc pc = .ok (.getfield 193, 3)) (kk : W p l e RM s m args below meth c H locs cells slots Q (F0 m (pc + 3) ls (v :: rest))) : W p l e RM s m args below meth c H locs cells slots Q (F0 m pc ls (.ref a :: rest)) := va_get (cx_x X) (cx_b X) (cx_w X) inlX3 (cx_o X) (cx_K X).1 hP q0 he rfl 1 (by decide) (cx_w X _ qw_744) (fun _ h => h) hv hdg kk
theorem pfW_X4_193 (X : cx p s m args meth c cc nL ret RX4 D y) (hP : va_P D vwCl ws H) (hD : va_D P ws) (hS : va_S P H0 H locs) (q0 : Nat) (he : ws[q0]? = some (a, .inr (3, fs))) {v : Value} (hn : narrow .int v = v) (hfit : fits .int v = true) (hl : 1 < fs.length) (hdg : decode cc pc = .ok (.putfield 193, 3)) (kk : ∀ (H1 : Heap) (locs1 : List Loc), va_P D vwCl (ws.set q0 (a, .inr (3, fs.set 1 v))) H1 → va_D P (ws.set q0 (a, .inr (3, fs.set 1 v))) → va_S P H0 H1 locs1 → W p l e RM s m args below meth c H1 locs1 cells slots Q (F0 m (pc + 3) ls rest)) : W p l e RM s m args below meth c H locs cells slots Q (F0 m pc ls (v :: .ref a :: rest)) := va_put (ty := .int) (cx_x X) (cx_b X) (cx_w X) inlX3 tyX3 tyX3_ok nmX3 (cx_o X) (cx_K X).1 hP hD hS q0 he rfl 1 (by decide) (cx_w X _ qw_744) (fun _ h => h) rfl (by decide +kernel) hn hfit hl hdg kk
theorem gfW_X4_196 (X : cx p s m args meth c cc nL ret RX4 D y) (hP : va_P D vwCl ws H) (q0 : Nat) (he : ws[q0]? = some (a, .inr (3, fs))) {v : Value} (hv : fs[2]? = some v) (hdg : decode cc pc = .ok (.getfield 196, 3)) (kk : W p l e RM s m args below meth c H locs cells slots Q (F0 m (pc + 3) ls (v :: rest))) : W p l e RM s m args below meth c H locs cells slots Q (F0 m pc ls (.ref a :: rest)) := va_get (cx_x X) (cx_b X) (cx_w X) inlX3 (cx_o X) (cx_K X).1 hP q0 he rfl 2 (by decide) (cx_w X _ qw_745) (fun _ h => h) hv hdg kk
theorem pfW_X4_196 (X : cx p s m args meth c cc nL ret RX4 D y) (hP : va_P D vwCl ws H) (hD : va_D P ws) (hS : va_S P H0 H locs) (q0 : Nat) (he : ws[q0]? = some (a, .inr (3, fs))) {v : Value} (hn : narrow .int v = v) (hfit : fits .int v = true) (hl : 2 < fs.length) (hdg : decode cc pc = .ok (.putfield 196, 3)) (kk : ∀ (H1 : Heap) (locs1 : List Loc), va_P D vwCl (ws.set q0 (a, .inr (3, fs.set 2 v))) H1 → va_D P (ws.set q0 (a, .inr (3, fs.set 2 v))) → va_S P H0 H1 locs1 → W p l e RM s m args below meth c H1 locs1 cells slots Q (F0 m (pc + 3) ls rest)) : W p l e RM s m args below meth c H locs cells slots Q (F0 m pc ls (v :: .ref a :: rest)) := va_put (ty := .int) (cx_x X) (cx_b X) (cx_w X) inlX3 tyX3 tyX3_ok nmX3 (cx_o X) (cx_K X).1 hP hD hS q0 he rfl 2 (by decide) (cx_w X _ qw_745) (fun _ h => h) rfl (by decide +kernel) hn hfit hl hdg kk
theorem gfW_X4_199 (X : cx p s m args meth c cc nL ret RX4 D y) (hP : va_P D vwCl ws H) (q0 : Nat) (he : ws[q0]? = some (a, .inr (3, fs))) {v : Value} (hv : fs[3]? = some v) (hdg : decode cc pc = .ok (.getfield 199, 3)) (kk : W p l e RM s m args below meth c H locs cells slots Q (F0 m (pc + 3) ls (v :: rest))) : W p l e RM s m args below meth c H locs cells slots Q (F0 m pc ls (.ref a :: rest)) := va_get (cx_x X) (cx_b X) (cx_w X) inlX3 (cx_o X) (cx_K X).1 hP q0 he rfl 3 (by decide) (cx_w X _ qw_746) (fun _ h => h) hv hdg kk
theorem gfW_X4_203 (X : cx p s m args meth c cc nL ret RX4 D y) (hP : va_P D vwCl ws H) (q0 : Nat) (he : ws[q0]? = some (a, .inr (3, fs))) {v : Value} (hv : fs[4]? = some v) (hdg : decode cc pc = .ok (.getfield 203, 3)) (kk : W p l e RM s m args below meth c H locs cells slots Q (F0 m (pc + 3) ls (v :: rest))) : W p l e RM s m args below meth c H locs cells slots Q (F0 m pc ls (.ref a :: rest)) := va_get (cx_x X) (cx_b X) (cx_w X) inlX3 (cx_o X) (cx_K X).1 hP q0 he rfl 4 (by decide) (cx_w X _ qw_747) (fun _ h => h) hv hdg kk
theorem gfW_X4_206 (X : cx p s m args meth c cc nL ret RX4 D y) (hP : va_P D vwCl ws H) (q0 : Nat) (he : ws[q0]? = some (a, .inr (3, fs))) {v : Value} (hv : fs[5]? = some v) (hdg : decode cc pc = .ok (.getfield 206, 3)) (kk : W p l e RM s m args below meth c H locs cells slots Q (F0 m (pc + 3) ls (v :: rest))) : W p l e RM s m args below meth c H locs cells slots Q (F0 m pc ls (.ref a :: rest)) := va_get (cx_x X) (cx_b X) (cx_w X) inlX3 (cx_o X) (cx_K X).1 hP q0 he rfl 5 (by decide) (cx_w X _ qw_748) (fun _ h => h) hv hdg kk
theorem gfW_X4_217 (X : cx p s m args meth c cc nL ret RX4 D y) (hP : va_P D vwCl ws H) (q0 : Nat) (he : ws[q0]? = some (a, .inr (0, fs))) {v : Value} (hv : fs[0]? = some v) (hdg : decode cc pc = .ok (.getfield 217, 3)) (kk : W p l e RM s m args below meth c H locs cells slots Q (F0 m (pc + 3) ls (v :: rest))) : W p l e RM s m args below meth c H locs cells slots Q (F0 m pc ls (.ref a :: rest)) := va_get (cx_x X) (cx_b X) (cx_w X) inlX0 (cx_o X) (cx_K X).1 hP q0 he rfl 0 (by decide) (cx_w X _ qw_817) (fun _ h => h) hv hdg kk
theorem pfW_X4_217 (X : cx p s m args meth c cc nL ret RX4 D y) (hP : va_P D vwCl ws H) (hD : va_D P ws) (hS : va_S P H0 H locs) (q0 : Nat) (he : ws[q0]? = some (a, .inr (0, fs))) {v : Value} (hn : narrow .int v = v) (hfit : fits .int v = true) (hl : 0 < fs.length) (hdg : decode cc pc = .ok (.putfield 217, 3)) (kk : ∀ (H1 : Heap) (locs1 : List Loc), va_P D vwCl (ws.set q0 (a, .inr (0, fs.set 0 v))) H1 → va_D P (ws.set q0 (a, .inr (0, fs.set 0 v))) → va_S P H0 H1 locs1 → W p l e RM s m args below meth c H1 locs1 cells slots Q (F0 m (pc + 3) ls rest)) : W p l e RM s m args below meth c H locs cells slots Q (F0 m pc ls (v :: .ref a :: rest)) := va_put (ty := .int) (cx_x X) (cx_b X) (cx_w X) inlX0 tyX0 tyX0_ok nmX0 (cx_o X) (cx_K X).1 hP hD hS q0 he rfl 0 (by decide) (cx_w X _ qw_817) (fun _ h => h) rfl (by decide +kernel) hn hfit hl hdg kk
theorem gfW_X5_7 (X : cx p s m args meth c cc nL ret RX5 D y) (hP : va_P D vwCl ws H) (q0 : Nat) (he : ws[q0]? = some (a, .inr (5, fs))) {v : Value} (hv : fs[0]? = some v) (hdg : decode cc pc = .ok (.getfield 7, 3)) (kk : W p l e RM s m args below meth c H locs cells slots Q (F0 m (pc + 3) ls (v :: rest))) : W p l e RM s m args below meth c H locs cells slots Q (F0 m pc ls (.ref a :: rest)) := va_get (cx_x X) (cx_b X) (cx_w X) inlX5 (cx_o X) (cx_K X).1 hP q0 he rfl 0 (by decide) (cx_w X _ qw_111) (fun _ h => h) hv hdg kk
theorem pfW_X5_7 (X : cx p s m args meth c cc nL ret RX5 D y) (hin : meth.name = "<init>") (hP : va_P D vwCl ws H) (hD : va_D P ws) (hS : va_S P H0 H locs) (q0 : Nat) (he : ws[q0]? = some (a, .inr (5, fs))) {v : Value} (hn : narrow (.array .int) v = v) (hfit : fits (.array .int) v = true) (hl : 0 < fs.length) (hdg : decode cc pc = .ok (.putfield 7, 3)) (kk : ∀ (H1 : Heap) (locs1 : List Loc), va_P D vwCl (ws.set q0 (a, .inr (5, fs.set 0 v))) H1 → va_D P (ws.set q0 (a, .inr (5, fs.set 0 v))) → va_S P H0 H1 locs1 → W p l e RM s m args below meth c H1 locs1 cells slots Q (F0 m (pc + 3) ls rest)) : W p l e RM s m args below meth c H locs cells slots Q (F0 m pc ls (v :: .ref a :: rest)) := va_putF (ty := (.array .int)) (cx_x X) (cx_b X) (cx_w X) inlX5 tyX5 tyX5_ok nmX5 (cx_o X) (cx_K X).1 hP hD hS q0 he rfl 0 (by decide) (cx_w X _ qw_111) (fun _ h => h) rfl hin rfl (by decide +kernel) hn hfit hl hdg kk
theorem gfW_X5_13 (X : cx p s m args meth c cc nL ret RX5 D y) (hP : va_P D vwCl ws H) (q0 : Nat) (he : ws[q0]? = some (a, .inr (5, fs))) {v : Value} (hv : fs[1]? = some v) (hdg : decode cc pc = .ok (.getfield 13, 3)) (kk : W p l e RM s m args below meth c H locs cells slots Q (F0 m (pc + 3) ls (v :: rest))) : W p l e RM s m args below meth c H locs cells slots Q (F0 m pc ls (.ref a :: rest)) := va_get (cx_x X) (cx_b X) (cx_w X) inlX5 (cx_o X) (cx_K X).1 hP q0 he rfl 1 (by decide) (cx_w X _ qw_112) (fun _ h => h) hv hdg kk
theorem pfW_X5_13 (X : cx p s m args meth c cc nL ret RX5 D y) (hin : meth.name = "<init>") (hP : va_P D vwCl ws H) (hD : va_D P ws) (hS : va_S P H0 H locs) (q0 : Nat) (he : ws[q0]? = some (a, .inr (5, fs))) {v : Value} (hn : narrow (.array .int) v = v) (hfit : fits (.array .int) v = true) (hl : 1 < fs.length) (hdg : decode cc pc = .ok (.putfield 13, 3)) (kk : ∀ (H1 : Heap) (locs1 : List Loc), va_P D vwCl (ws.set q0 (a, .inr (5, fs.set 1 v))) H1 → va_D P (ws.set q0 (a, .inr (5, fs.set 1 v))) → va_S P H0 H1 locs1 → W p l e RM s m args below meth c H1 locs1 cells slots Q (F0 m (pc + 3) ls rest)) : W p l e RM s m args below meth c H locs cells slots Q (F0 m pc ls (v :: .ref a :: rest)) := va_putF (ty := (.array .int)) (cx_x X) (cx_b X) (cx_w X) inlX5 tyX5 tyX5_ok nmX5 (cx_o X) (cx_K X).1 hP hD hS q0 he rfl 1 (by decide) (cx_w X _ qw_112) (fun _ h => h) rfl hin rfl (by decide +kernel) hn hfit hl hdg kk
theorem gfW_X5_16 (X : cx p s m args meth c cc nL ret RX5 D y) (hP : va_P D vwCl ws H) (q0 : Nat) (he : ws[q0]? = some (a, .inr (5, fs))) {v : Value} (hv : fs[3]? = some v) (hdg : decode cc pc = .ok (.getfield 16, 3)) (kk : W p l e RM s m args below meth c H locs cells slots Q (F0 m (pc + 3) ls (v :: rest))) : W p l e RM s m args below meth c H locs cells slots Q (F0 m pc ls (.ref a :: rest)) := va_get (cx_x X) (cx_b X) (cx_w X) inlX5 (cx_o X) (cx_K X).1 hP q0 he rfl 3 (by decide) (cx_w X _ qw_113) (fun _ h => h) hv hdg kk
theorem pfW_X5_16 (X : cx p s m args meth c cc nL ret RX5 D y) (hin : meth.name = "<init>") (hP : va_P D vwCl ws H) (hD : va_D P ws) (hS : va_S P H0 H locs) (q0 : Nat) (he : ws[q0]? = some (a, .inr (5, fs))) {v : Value} (hn : narrow (.array .int) v = v) (hfit : fits (.array .int) v = true) (hl : 3 < fs.length) (hdg : decode cc pc = .ok (.putfield 16, 3)) (kk : ∀ (H1 : Heap) (locs1 : List Loc), va_P D vwCl (ws.set q0 (a, .inr (5, fs.set 3 v))) H1 → va_D P (ws.set q0 (a, .inr (5, fs.set 3 v))) → va_S P H0 H1 locs1 → W p l e RM s m args below meth c H1 locs1 cells slots Q (F0 m (pc + 3) ls rest)) : W p l e RM s m args below meth c H locs cells slots Q (F0 m pc ls (v :: .ref a :: rest)) := va_putF (ty := (.array .int)) (cx_x X) (cx_b X) (cx_w X) inlX5 tyX5 tyX5_ok nmX5 (cx_o X) (cx_K X).1 hP hD hS q0 he rfl 3 (by decide) (cx_w X _ qw_113) (fun _ h => h) rfl hin rfl (by decide +kernel) hn hfit hl hdg kk
theorem gfW_X5_19 (X : cx p s m args meth c cc nL ret RX5 D y) (hP : va_P D vwCl ws H) (q0 : Nat) (he : ws[q0]? = some (a, .inr (5, fs))) {v : Value} (hv : fs[4]? = some v) (hdg : decode cc pc = .ok (.getfield 19, 3)) (kk : W p l e RM s m args below meth c H locs cells slots Q (F0 m (pc + 3) ls (v :: rest))) : W p l e RM s m args below meth c H locs cells slots Q (F0 m pc ls (.ref a :: rest)) := va_get (cx_x X) (cx_b X) (cx_w X) inlX5 (cx_o X) (cx_K X).1 hP q0 he rfl 4 (by decide) (cx_w X _ qw_115) (fun _ h => h) hv hdg kk
theorem pfW_X5_19 (X : cx p s m args meth c cc nL ret RX5 D y) (hin : meth.name = "<init>") (hP : va_P D vwCl ws H) (hD : va_D P ws) (hS : va_S P H0 H locs) (q0 : Nat) (he : ws[q0]? = some (a, .inr (5, fs))) {v : Value} (hn : narrow (.array .boolean) v = v) (hfit : fits (.array .boolean) v = true) (hl : 4 < fs.length) (hdg : decode cc pc = .ok (.putfield 19, 3)) (kk : ∀ (H1 : Heap) (locs1 : List Loc), va_P D vwCl (ws.set q0 (a, .inr (5, fs.set 4 v))) H1 → va_D P (ws.set q0 (a, .inr (5, fs.set 4 v))) → va_S P H0 H1 locs1 → W p l e RM s m args below meth c H1 locs1 cells slots Q (F0 m (pc + 3) ls rest)) : W p l e RM s m args below meth c H locs cells slots Q (F0 m pc ls (v :: .ref a :: rest)) := va_putF (ty := (.array .boolean)) (cx_x X) (cx_b X) (cx_w X) inlX5 tyX5 tyX5_ok nmX5 (cx_o X) (cx_K X).1 hP hD hS q0 he rfl 4 (by decide) (cx_w X _ qw_115) (fun _ h => h) rfl hin rfl (by decide +kernel) hn hfit hl hdg kk
theorem gfW_X5_23 (X : cx p s m args meth c cc nL ret RX5 D y) (hP : va_P D vwCl ws H) (q0 : Nat) (he : ws[q0]? = some (a, .inr (5, fs))) {v : Value} (hv : fs[5]? = some v) (hdg : decode cc pc = .ok (.getfield 23, 3)) (kk : W p l e RM s m args below meth c H locs cells slots Q (F0 m (pc + 3) ls (v :: rest))) : W p l e RM s m args below meth c H locs cells slots Q (F0 m pc ls (.ref a :: rest)) := va_get (cx_x X) (cx_b X) (cx_w X) inlX5 (cx_o X) (cx_K X).1 hP q0 he rfl 5 (by decide) (cx_w X _ qw_117) (fun _ h => h) hv hdg kk
theorem pfW_X5_23 (X : cx p s m args meth c cc nL ret RX5 D y) (hin : meth.name = "<init>") (hP : va_P D vwCl ws H) (hD : va_D P ws) (hS : va_S P H0 H locs) (q0 : Nat) (he : ws[q0]? = some (a, .inr (5, fs))) {v : Value} (hn : narrow (.array .byte) v = v) (hfit : fits (.array .byte) v = true) (hl : 5 < fs.length) (hdg : decode cc pc = .ok (.putfield 23, 3)) (kk : ∀ (H1 : Heap) (locs1 : List Loc), va_P D vwCl (ws.set q0 (a, .inr (5, fs.set 5 v))) H1 → va_D P (ws.set q0 (a, .inr (5, fs.set 5 v))) → va_S P H0 H1 locs1 → W p l e RM s m args below meth c H1 locs1 cells slots Q (F0 m (pc + 3) ls rest)) : W p l e RM s m args below meth c H locs cells slots Q (F0 m pc ls (v :: .ref a :: rest)) := va_putF (ty := (.array .byte)) (cx_x X) (cx_b X) (cx_w X) inlX5 tyX5 tyX5_ok nmX5 (cx_o X) (cx_K X).1 hP hD hS q0 he rfl 5 (by decide) (cx_w X _ qw_117) (fun _ h => h) rfl hin rfl (by decide +kernel) hn hfit hl hdg kk
theorem gfW_X5_27 (X : cx p s m args meth c cc nL ret RX5 D y) (hP : va_P D vwCl ws H) (q0 : Nat) (he : ws[q0]? = some (a, .inr (5, fs))) {v : Value} (hv : fs[8]? = some v) (hdg : decode cc pc = .ok (.getfield 27, 3)) (kk : W p l e RM s m args below meth c H locs cells slots Q (F0 m (pc + 3) ls (v :: rest))) : W p l e RM s m args below meth c H locs cells slots Q (F0 m pc ls (.ref a :: rest)) := va_get (cx_x X) (cx_b X) (cx_w X) inlX5 (cx_o X) (cx_K X).1 hP q0 he rfl 8 (by decide) (cx_w X _ qw_118) (fun _ h => h) hv hdg kk
theorem pfW_X5_27 (X : cx p s m args meth c cc nL ret RX5 D y) (hin : meth.name = "<init>") (hP : va_P D vwCl ws H) (hD : va_D P ws) (hS : va_S P H0 H locs) (q0 : Nat) (he : ws[q0]? = some (a, .inr (5, fs))) {v : Value} (hn : narrow (.array .boolean) v = v) (hfit : fits (.array .boolean) v = true) (hl : 8 < fs.length) (hdg : decode cc pc = .ok (.putfield 27, 3)) (kk : ∀ (H1 : Heap) (locs1 : List Loc), va_P D vwCl (ws.set q0 (a, .inr (5, fs.set 8 v))) H1 → va_D P (ws.set q0 (a, .inr (5, fs.set 8 v))) → va_S P H0 H1 locs1 → W p l e RM s m args below meth c H1 locs1 cells slots Q (F0 m (pc + 3) ls rest)) : W p l e RM s m args below meth c H locs cells slots Q (F0 m pc ls (v :: .ref a :: rest)) := va_putF (ty := (.array .boolean)) (cx_x X) (cx_b X) (cx_w X) inlX5 tyX5 tyX5_ok nmX5 (cx_o X) (cx_K X).1 hP hD hS q0 he rfl 8 (by decide) (cx_w X _ qw_118) (fun _ h => h) rfl hin rfl (by decide +kernel) hn hfit hl hdg kk
theorem gfW_X5_30 (X : cx p s m args meth c cc nL ret RX5 D y) (hP : va_P D vwCl ws H) (q0 : Nat) (he : ws[q0]? = some (a, .inr (5, fs))) {v : Value} (hv : fs[2]? = some v) (hdg : decode cc pc = .ok (.getfield 30, 3)) (kk : W p l e RM s m args below meth c H locs cells slots Q (F0 m (pc + 3) ls (v :: rest))) : W p l e RM s m args below meth c H locs cells slots Q (F0 m pc ls (.ref a :: rest)) := va_get (cx_x X) (cx_b X) (cx_w X) inlX5 (cx_o X) (cx_K X).1 hP q0 he rfl 2 (by decide) (cx_w X _ qw_163) (fun _ h => h) hv hdg kk
theorem pfW_X5_30 (X : cx p s m args meth c cc nL ret RX5 D y) (hP : va_P D vwCl ws H) (hD : va_D P ws) (hS : va_S P H0 H locs) (q0 : Nat) (he : ws[q0]? = some (a, .inr (5, fs))) {v : Value} (hn : narrow .int v = v) (hfit : fits .int v = true) (hl : 2 < fs.length) (hdg : decode cc pc = .ok (.putfield 30, 3)) (kk : ∀ (H1 : Heap) (locs1 : List Loc), va_P D vwCl (ws.set q0 (a, .inr (5, fs.set 2 v))) H1 → va_D P (ws.set q0 (a, .inr (5, fs.set 2 v))) → va_S P H0 H1 locs1 → W p l e RM s m args below meth c H1 locs1 cells slots Q (F0 m (pc + 3) ls rest)) : W p l e RM s m args below meth c H locs cells slots Q (F0 m pc ls (v :: .ref a :: rest)) := va_put (ty := .int) (cx_x X) (cx_b X) (cx_w X) inlX5 tyX5 tyX5_ok nmX5 (cx_o X) (cx_K X).1 hP hD hS q0 he rfl 2 (by decide) (cx_w X _ qw_163) (fun _ h => h) rfl (by decide +kernel) hn hfit hl hdg kk
theorem gfW_X5_75 (X : cx p s m args meth c cc nL ret RX5 D y) (hP : va_P D vwCl ws H) (q0 : Nat) (he : ws[q0]? = some (a, .inr (5, fs))) {v : Value} (hv : fs[7]? = some v) (hdg : decode cc pc = .ok (.getfield 75, 3)) (kk : W p l e RM s m args below meth c H locs cells slots Q (F0 m (pc + 3) ls (v :: rest))) : W p l e RM s m args below meth c H locs cells slots Q (F0 m pc ls (.ref a :: rest)) := va_get (cx_x X) (cx_b X) (cx_w X) inlX5 (cx_o X) (cx_K X).1 hP q0 he rfl 7 (by decide) (cx_w X _ qw_451) (fun _ h => h) hv hdg kk
theorem pfW_X5_75 (X : cx p s m args meth c cc nL ret RX5 D y) (hP : va_P D vwCl ws H) (hD : va_D P ws) (hS : va_S P H0 H locs) (q0 : Nat) (he : ws[q0]? = some (a, .inr (5, fs))) {v : Value} (hn : narrow .int v = v) (hfit : fits .int v = true) (hl : 7 < fs.length) (hdg : decode cc pc = .ok (.putfield 75, 3)) (kk : ∀ (H1 : Heap) (locs1 : List Loc), va_P D vwCl (ws.set q0 (a, .inr (5, fs.set 7 v))) H1 → va_D P (ws.set q0 (a, .inr (5, fs.set 7 v))) → va_S P H0 H1 locs1 → W p l e RM s m args below meth c H1 locs1 cells slots Q (F0 m (pc + 3) ls rest)) : W p l e RM s m args below meth c H locs cells slots Q (F0 m pc ls (v :: .ref a :: rest)) := va_put (ty := .int) (cx_x X) (cx_b X) (cx_w X) inlX5 tyX5 tyX5_ok nmX5 (cx_o X) (cx_K X).1 hP hD hS q0 he rfl 7 (by decide) (cx_w X _ qw_451) (fun _ h => h) rfl (by decide +kernel) hn hfit hl hdg kk
theorem gfW_X5_141 (X : cx p s m args meth c cc nL ret RX5 D y) (hP : va_P D vwCl ws H) (q0 : Nat) (he : ws[q0]? = some (a, .inr (5, fs))) {v : Value} (hv : fs[6]? = some v) (hdg : decode cc pc = .ok (.getfield 141, 3)) (kk : W p l e RM s m args below meth c H locs cells slots Q (F0 m (pc + 3) ls (v :: rest))) : W p l e RM s m args below meth c H locs cells slots Q (F0 m pc ls (.ref a :: rest)) := va_get (cx_x X) (cx_b X) (cx_w X) inlX5 (cx_o X) (cx_K X).1 hP q0 he rfl 6 (by decide) (cx_w X _ qw_731) (fun _ h => h) hv hdg kk
theorem pfW_X5_141 (X : cx p s m args meth c cc nL ret RX5 D y) (hP : va_P D vwCl ws H) (hD : va_D P ws) (hS : va_S P H0 H locs) (q0 : Nat) (he : ws[q0]? = some (a, .inr (5, fs))) {v : Value} (hn : narrow .int v = v) (hfit : fits .int v = true) (hl : 6 < fs.length) (hdg : decode cc pc = .ok (.putfield 141, 3)) (kk : ∀ (H1 : Heap) (locs1 : List Loc), va_P D vwCl (ws.set q0 (a, .inr (5, fs.set 6 v))) H1 → va_D P (ws.set q0 (a, .inr (5, fs.set 6 v))) → va_S P H0 H1 locs1 → W p l e RM s m args below meth c H1 locs1 cells slots Q (F0 m (pc + 3) ls rest)) : W p l e RM s m args below meth c H locs cells slots Q (F0 m pc ls (v :: .ref a :: rest)) := va_put (ty := .int) (cx_x X) (cx_b X) (cx_w X) inlX5 tyX5 tyX5_ok nmX5 (cx_o X) (cx_K X).1 hP hD hS q0 he rfl 6 (by decide) (cx_w X _ qw_731) (fun _ h => h) rfl (by decide +kernel) hn hfit hl hdg kk
theorem gfW_X5_144 (X : cx p s m args meth c cc nL ret RX5 D y) (hP : va_P D vwCl ws H) (q0 : Nat) (he : ws[q0]? = some (a, .inr (5, fs))) {v : Value} (hv : fs[9]? = some v) (hdg : decode cc pc = .ok (.getfield 144, 3)) (kk : W p l e RM s m args below meth c H locs cells slots Q (F0 m (pc + 3) ls (v :: rest))) : W p l e RM s m args below meth c H locs cells slots Q (F0 m pc ls (.ref a :: rest)) := va_get (cx_x X) (cx_b X) (cx_w X) inlX5 (cx_o X) (cx_K X).1 hP q0 he rfl 9 (by decide) (cx_w X _ qw_792) (fun _ h => h) hv hdg kk
theorem pfW_X5_144 (X : cx p s m args meth c cc nL ret RX5 D y) (hP : va_P D vwCl ws H) (hD : va_D P ws) (hS : va_S P H0 H locs) (q0 : Nat) (he : ws[q0]? = some (a, .inr (5, fs))) {v : Value} (hn : narrow .int v = v) (hfit : fits .int v = true) (hl : 9 < fs.length) (hdg : decode cc pc = .ok (.putfield 144, 3)) (kk : ∀ (H1 : Heap) (locs1 : List Loc), va_P D vwCl (ws.set q0 (a, .inr (5, fs.set 9 v))) H1 → va_D P (ws.set q0 (a, .inr (5, fs.set 9 v))) → va_S P H0 H1 locs1 → W p l e RM s m args below meth c H1 locs1 cells slots Q (F0 m (pc + 3) ls rest)) : W p l e RM s m args below meth c H locs cells slots Q (F0 m pc ls (v :: .ref a :: rest)) := va_put (ty := .int) (cx_x X) (cx_b X) (cx_w X) inlX5 tyX5 tyX5_ok nmX5 (cx_o X) (cx_K X).1 hP hD hS q0 he rfl 9 (by decide) (cx_w X _ qw_792) (fun _ h => h) rfl (by decide +kernel) hn hfit hl hdg kk
theorem gfW_X5_153 (X : cx p s m args meth c cc nL ret RX5 D y) (hP : va_P D vwCl ws H) (q0 : Nat) (he : ws[q0]? = some (a, .inr (5, fs))) {v : Value} (hv : fs[10]? = some v) (hdg : decode cc pc = .ok (.getfield 153, 3)) (kk : W p l e RM s m args below meth c H locs cells slots Q (F0 m (pc + 3) ls (v :: rest))) : W p l e RM s m args below meth c H locs cells slots Q (F0 m pc ls (.ref a :: rest)) := va_get (cx_x X) (cx_b X) (cx_w X) inlX5 (cx_o X) (cx_K X).1 hP q0 he rfl 10 (by decide) (cx_w X _ qw_791) (fun _ h => h) hv hdg kk
theorem pfW_X5_153 (X : cx p s m args meth c cc nL ret RX5 D y) (hP : va_P D vwCl ws H) (hD : va_D P ws) (hS : va_S P H0 H locs) (q0 : Nat) (he : ws[q0]? = some (a, .inr (5, fs))) {v : Value} (hn : narrow .boolean v = v) (hfit : fits .boolean v = true) (hl : 10 < fs.length) (hdg : decode cc pc = .ok (.putfield 153, 3)) (kk : ∀ (H1 : Heap) (locs1 : List Loc), va_P D vwCl (ws.set q0 (a, .inr (5, fs.set 10 v))) H1 → va_D P (ws.set q0 (a, .inr (5, fs.set 10 v))) → va_S P H0 H1 locs1 → W p l e RM s m args below meth c H1 locs1 cells slots Q (F0 m (pc + 3) ls rest)) : W p l e RM s m args below meth c H locs cells slots Q (F0 m pc ls (v :: .ref a :: rest)) := va_put (ty := .boolean) (cx_x X) (cx_b X) (cx_w X) inlX5 tyX5 tyX5_ok nmX5 (cx_o X) (cx_K X).1 hP hD hS q0 he rfl 10 (by decide) (cx_w X _ qw_791) (fun _ h => h) rfl (by decide +kernel) hn hfit hl hdg kk
end ROWSW
end
section
def ad_s (l : List Nat) : Nat → Nat := fun k => l.getD k 0
theorem ws_get {ws : va_W} {n : Nat} {A : Nat → Nat} (hw : ws.map (fun q => q.1) = (List.range n).map A) {i : Nat} (hi : i < n) : ∃ q, ws[i]? = some q ∧ q.1 = A i := by
  have h1 : (ws.map (fun q => q.1))[i]? = some (A i) := by rw [hw, List.getElem?_map, List.getElem?_range hi]; rfl
  rw [List.getElem?_map] at h1
  cases hq : ws[i]? with
  | none => rw [hq] at h1; cases h1
  | some q =>
    rw [hq] at h1
    exact ⟨q, rfl, Option.some.inj h1⟩
theorem ap_ofD {ws : va_W} {n : Nat} {P : Nat → Prop} {A : Nat → Nat} (h : va_D P ws) (hw : ws.map (fun q => q.1) = (List.range n).map A) : ap_s n P A := by
  refine ⟨fun i j hi hj he => ?_, fun i hi => ?_⟩
  · obtain ⟨p, h1, e1⟩ := ws_get hw hi
    obtain ⟨q, h2, e2⟩ := ws_get hw hj
    exact h.1 i j p q h1 h2 (by rw [e1, e2]; exact he)
  · obtain ⟨p, h1, e1⟩ := ws_get hw hi
    rw [← e1]; exact h.2 i p h1
theorem set_1 {D : va_G} {cl : List vw_C} {P : Nat → Prop} {ws : va_W} {j a : Nat} {e0 e : va_E} {H H1 : Heap} (h : va_P D cl ws H) (hD : va_D P ws) (hp : ws[j]? = some (a, e0)) (hP1 : va_P D cl [(a, e)] H1) (hk : ∀ q : Nat, q < H.size → q ≠ a → H1[q]? = H[q]?) : va_P D cl (ws.set j (a, e)) H1 := by
  have hl := (List.getElem?_eq_some_iff.mp hp).1
  intro k q hq
  by_cases hkp : k = j
  · subst hkp
    rw [List.getElem?_set_self hl] at hq
    cases hq
    exact hP1 0 _ rfl
  · rw [List.getElem?_set_ne (Ne.symm hkp)] at hq
    exact (h k q hq).kept (hk q.1 (h k q hq).lt (fun z => hkp (hD.1 k j q (a, e0) hq hp z)))
theorem cell_i {cA : ClassId} {n : Nat} {f g : Nat → Int32} (h : ∀ j, j < n → f j = g j) : vp_cell cA (n, .inl f) = vp_cell cA (n, .inl g) := by
  rw [vp_cell_i, vp_cell_i]
  unfold arrV
  congr 1
  apply Array.ext
  · simp
  · intro i h1 h2
    have hi : i < n := by simpa using h1
    simp [h i hi]
theorem va_P_eqi {D : va_G} {cl : List vw_C} {ws : va_W} {j a n : Nat} {cA : ClassId} {f g : Nat → Int32} {H : Heap} (h : va_P D cl ws H) (hp : ws[j]? = some (a, .inl (cA, n, .inl f))) (hfg : ∀ j, j < n → f j = g j) : va_P D cl (ws.set j (a, .inl (cA, n, .inl g))) H := by
  have hl := (List.getElem?_eq_some_iff.mp hp).1
  intro k q hq
  by_cases hkp : k = j
  · subst hkp
    rw [List.getElem?_set_self hl] at hq
    cases hq
    have h1 := h k _ hp
    show H[a]? = some (vp_cell cA (n, .inl g))
    rw [← cell_i hfg]; exact h1
  · rw [List.getElem?_set_ne (Ne.symm hkp)] at hq
    exact h k q hq
theorem ra_I {D : va_G} {y : Nat → ClassId} {s : State} (hK : kk_K D y s) {cA : ClassId} (h : va_K D vwCl (kk_t y ++ [(cA, .int)]) s) : cA = y 0 := by
  have h1 : s.vm.findClass _ = some (y 0) := (hK.1.2 0 (y 0, .int) rfl).2
  have h2 : s.vm.findClass _ = some cA := (h.2 4 (cA, .int) rfl).2
  exact Option.some.inj (h2.symm.trans h1)
theorem ra_B {D : va_G} {y : Nat → ClassId} {s : State} (hK : kk_K D y s) {cA : ClassId} (h : va_K D vwCl (kk_t y ++ [(cA, .byte)]) s) : cA = y 1 := by
  have h1 : s.vm.findClass _ = some (y 1) := (hK.1.2 1 (y 1, .byte) rfl).2
  have h2 : s.vm.findClass _ = some cA := (h.2 4 (cA, .byte) rfl).2
  exact Option.some.inj (h2.symm.trans h1)
theorem ra_Z {D : va_G} {y : Nat → ClassId} {s : State} (hK : kk_K D y s) {cA : ClassId} (h : va_K D vwCl (kk_t y ++ [(cA, .boolean)]) s) : cA = y 2 := by
  have h1 : s.vm.findClass _ = some (y 2) := (hK.1.2 2 (y 2, .boolean) rfl).2
  have h2 : s.vm.findClass _ = some cA := (h.2 4 (cA, .boolean) rfl).2
  exact Option.some.inj (h2.symm.trans h1)
theorem ra_N {D : va_G} {y : Nat → ClassId} {s : State} (hK : kk_K D y s) {cA : ClassId} (h : va_K D vwCl (kk_t y ++ [(cA, .object "ChannelBorrower$Network")]) s) : cA = y 3 := by
  obtain ⟨_, _, -, -, -, h1⟩ : ∃ (kA : Class) (comp : ClassId), s.vm.classes[y 3]? = some kA ∧ kA.kind = .array comp (.object "ChannelBorrower$Network") ∧ s.vm.findClass "ChannelBorrower$Network" = some comp ∧ s.vm.findClass ("[" ++ (FieldType.object "ChannelBorrower$Network").toString) = some (y 3) := (hK.1.2 3 (y 3, .object "ChannelBorrower$Network") rfl).2
  obtain ⟨_, _, -, -, -, h2⟩ : ∃ (kA : Class) (comp : ClassId), s.vm.classes[cA]? = some kA ∧ kA.kind = .array comp (.object "ChannelBorrower$Network") ∧ s.vm.findClass "ChannelBorrower$Network" = some comp ∧ s.vm.findClass ("[" ++ (FieldType.object "ChannelBorrower$Network").toString) = some cA := (h.2 4 (cA, .object "ChannelBorrower$Network") rfl).2
  exact Option.some.inj (h2.symm.trans h1)
section NEWS
variable {p : Program} {l : Launch} {e : Env} {RM : Room} {s : State} {m : MethodId} {args : Array Value} {below : List Frame} {meth : Method} {c : Code} {H H0 : Heap} {locs : List Loc} {cells slots : Nat} {Q : State → Prop}
variable {cc : ByteArray} {nL pc : Nat} {ret : Option FieldType} {own : String} {D : va_G} {y : Nat → ClassId} {ls : Array Slot} {rest st0 : List Value} {P : Nat → Prop} {ws : va_W} {a : Nat} {fs : List Value}
theorem na_I (X : cx p s m args meth c cc nL ret own D y) (hP : va_P D vwCl ws H) (hD : va_D P ws) (hS : va_S P H0 H locs) (hA : ∀ q, H0.size ≤ q → P q) {n : Int32} {N' : Nat} (hn : ¬ n < 0) (hN : n.toNatClampNeg = N') (hb : N' * componentBytes .int ≤ 536870912) (hc : cells + 1 ≤ RM.cells) (hs : slots + N' ≤ RM.slots) (hdg : decode cc pc = .ok (.newarray .int, 2))
    (kk : ∀ (q : Nat) (H1 : Heap), va_P D vwCl (ws ++ [(q, .inl (y 0, N', .inl (fun _ => 0)))]) H1 → va_D P (ws ++ [(q, .inl (y 0, N', .inl (fun _ => 0)))]) → va_S P H0 H1 locs → W p l e RM s m args below meth c H1 locs (cells + 1) (slots + N') Q (F0 m (pc + 2) ls (.ref q :: rest))) : W p l e RM s m args below meth c H locs cells slots Q (F0 m pc ls (.int n :: rest)) := by
  refine va_newa (atype := .int) (ty := .int) (a0 := (N', .inl (fun _ => 0))) (cx_x X) (cx_b X) (cx_w X _ qw_32) rfl (cx_K X).1 hP hD hS hA (fun _ => rfl) hn hN hb hc hs hdg (fun q cA H1 hK h1 h2 h3 => ?_)
  have e := ra_I (cx_K X) hK
  subst e
  exact kk q H1 h1 h2 h3
theorem na_B (X : cx p s m args meth c cc nL ret own D y) (hP : va_P D vwCl ws H) (hD : va_D P ws) (hS : va_S P H0 H locs) (hA : ∀ q, H0.size ≤ q → P q) {n : Int32} {N' : Nat} (hn : ¬ n < 0) (hN : n.toNatClampNeg = N') (hb : N' * componentBytes .byte ≤ 536870912) (hc : cells + 1 ≤ RM.cells) (hs : slots + N' ≤ RM.slots) (hdg : decode cc pc = .ok (.newarray .byte, 2))
    (kk : ∀ (q : Nat) (H1 : Heap), va_P D vwCl (ws ++ [(q, .inl (y 1, N', .inl (fun _ => 0)))]) H1 → va_D P (ws ++ [(q, .inl (y 1, N', .inl (fun _ => 0)))]) → va_S P H0 H1 locs → W p l e RM s m args below meth c H1 locs (cells + 1) (slots + N') Q (F0 m (pc + 2) ls (.ref q :: rest))) : W p l e RM s m args below meth c H locs cells slots Q (F0 m pc ls (.int n :: rest)) := by
  refine va_newa (atype := .byte) (ty := .byte) (a0 := (N', .inl (fun _ => 0))) (cx_x X) (cx_b X) (cx_w X _ qw_116) rfl (cx_K X).1 hP hD hS hA (fun _ => rfl) hn hN hb hc hs hdg (fun q cA H1 hK h1 h2 h3 => ?_)
  have e := ra_B (cx_K X) hK
  subst e
  exact kk q H1 h1 h2 h3
theorem na_Z (X : cx p s m args meth c cc nL ret own D y) (hP : va_P D vwCl ws H) (hD : va_D P ws) (hS : va_S P H0 H locs) (hA : ∀ q, H0.size ≤ q → P q) {n : Int32} {N' : Nat} (hn : ¬ n < 0) (hN : n.toNatClampNeg = N') (hb : N' * componentBytes .boolean ≤ 536870912) (hc : cells + 1 ≤ RM.cells) (hs : slots + N' ≤ RM.slots) (hdg : decode cc pc = .ok (.newarray .boolean, 2))
    (kk : ∀ (q : Nat) (H1 : Heap), va_P D vwCl (ws ++ [(q, .inl (y 2, N', .inl (fun _ => 0)))]) H1 → va_D P (ws ++ [(q, .inl (y 2, N', .inl (fun _ => 0)))]) → va_S P H0 H1 locs → W p l e RM s m args below meth c H1 locs (cells + 1) (slots + N') Q (F0 m (pc + 2) ls (.ref q :: rest))) : W p l e RM s m args below meth c H locs cells slots Q (F0 m pc ls (.int n :: rest)) := by
  refine va_newa (atype := .boolean) (ty := .boolean) (a0 := (N', .inl (fun _ => 0))) (cx_x X) (cx_b X) (cx_w X _ qw_114) rfl (cx_K X).1 hP hD hS hA (fun _ => rfl) hn hN hb hc hs hdg (fun q cA H1 hK h1 h2 h3 => ?_)
  have e := ra_Z (cx_K X) hK
  subst e
  exact kk q H1 h1 h2 h3
theorem na_N (X : cx p s m args meth c cc nL ret own D y) {index : Nat} (hcl : Cond.classLink own index "ChannelBorrower$Network" ∈ wsL_law) (hP : va_P D vwCl ws H) (hD : va_D P ws) (hS : va_S P H0 H locs) (hA : ∀ q, H0.size ≤ q → P q) {n : Int32} {N' : Nat} (hn : ¬ n < 0) (hN : n.toNatClampNeg = N') (hb : N' * 4 ≤ 536870912) (hc : cells + 1 ≤ RM.cells) (hs : slots + N' ≤ RM.slots) (hdg : decode cc pc = .ok (.anewarray index, 3))
    (kk : ∀ (q : Nat) (H1 : Heap), va_P D vwCl (ws ++ [(q, .inl (y 3, N', .inr (.inr (.inr (.inr (fun _ => none))))))]) H1 → va_D P (ws ++ [(q, .inl (y 3, N', .inr (.inr (.inr (.inr (fun _ => none))))))]) → va_S P H0 H1 locs → W p l e RM s m args below meth c H1 locs (cells + 1) (slots + N') Q (F0 m (pc + 3) ls (.ref q :: rest))) : W p l e RM s m args below meth c H locs cells slots Q (F0 m pc ls (.int n :: rest)) := by
  refine va_newq (cx_x X) (cx_b X) (cx_o X) (cx_w X _ hcl) (cx_K X).2.2 (cx_K X).1 hP hD hS hA hn hN hb hc hs hdg (fun q cA H1 hK h1 h2 h3 => ?_)
  have e := ra_N (cx_K X) hK
  subst e
  exact kk q H1 h1 h2 h3
theorem ob_0 (X : cx p s m args meth c cc nL ret own D y) {idx : Nat} (hl : ls.size = nL) (q1 : Cond.methodLink own idx objectInit ∈ wsL_law) (q2 : Cond.instanceMethod objectInit ∈ wsL_law) (q3 : Cond.code objectInit ⟨#[0xb1]⟩ 1 none ∈ wsL_law) (hW : (rest.map fun v => v.category).sum ≤ 8) (hdg : decode cc pc = .ok (.invokespecial idx, 3)) (h1 : 1 ≤ RM.frames) (h2 : 20 ≤ RM.locals)
    (kk : W p l e RM s m args below meth c H locs cells slots Q (F0 m (pc + 3) ls rest)) : W p l e RM s m args below meth c H locs cells slots Q (F0 m pc ls (.ref a :: rest)) := by
  refine W.objInit (cx_x X) (cx_b X) (cx_o X) (cx_w X _ q1) (cx_w X _ q2) (cx_w X _ q3) rfl (by rw [cx_m X]; exact hl) rfl hdg h1 ?_ ?_
  · have := lv_room (m := m) (pc := pc) (ls := ls) (rest := .ref a :: rest) hW
    omega
  · exact W.eq (g2 := F0 m (pc + 3) ls rest) rfl kk
end NEWS
/-- Arrays.fill -/
def fl_s (n : Nat) (v : Int32) (f : Nat → Int32) : Nat → Int32 := fun j => if j < n then v else f j
theorem fl_up {i : Nat} {v : Int32} {f : Nat → Int32} (hi : i < 2 ^ 31) : upd (fl_s i v f) (nI i).toNatClampNeg v = fl_s (i + 1) v f := by
  rw [nI_clamp hi]
  funext j
  unfold upd fl_s
  by_cases h : j = i
  · subst h; rw [if_pos rfl, if_pos (Nat.lt_succ_self _)]
  · rw [if_neg h]
    by_cases h2 : j < i
    · rw [if_pos h2, if_pos (by omega)]
    · rw [if_neg h2, if_neg (by omega)]
abbrev rm_J7_fill_53178 : Room := { frames := 0, cells := 0, slots := 0, locals := 0 }
set_option maxHeartbeats 4000000 in
theorem c_J7_fill (l : Launch) (D : va_G) (y : Nat → ClassId) (q sz n : Nat) (f : Nat → Int32) (v : Int32) (hn : n < 2 ^ 31) : Met l yJ7_fill_53178 (wy_s yJ7_fill_53178 cJ7_fill_53178 4 none) rm_J7_fill_53178 (pc_R D y [.ref q, .int v] (fun H => H.size = sz ∧ va_P D vwCl [(q, .inl (y 0, n, .inl f))] H)) (qc_W none (fun H => va_P D vwCl [(q, .inl (y 0, n, .inl (fl_s n v f)))] H) (rg_s 1 (fun _ => q) sz)) 0 0 (rg_s 1 (fun _ => q) sz) := by
  refine met_W (by decide) (Nat.le_of_ble_eq_true rfl) ?_
  intro p e s m args below meth c X hnm h0 ls hl
  obtain ⟨hsz, hP⟩ := h0
  subst hsz
  have hA : ap_s 1 (rg_s 1 (fun _ => q) s.heap.size) (fun _ => q) := ap_of (fun i j hi hj _ => by omega)
  have hD : ∀ g : Nat → Int32, va_D (rg_s 1 (fun _ => q) s.heap.size) [(q, .inl (y 0, n, .inl g))] := fun g => ap_D hA rfl
  have hS : va_S (rg_s 1 (fun _ => q) s.heap.size) s.heap s.heap [] := va_S.rf
  replace hl : lv_has ls 4 [(0, .ref q), (1, .int v)] := hl
  replace X : cx p s m args meth c cJ7_fill_53178 4 none RJ7 D y := X
  have L : ∀ (k i : Nat), i + k = n → ∀ (H : Heap) (locs : List Loc), va_P D vwCl [(q, .inl (y 0, n, .inl (fl_s i v f)))] H → va_S (rg_s 1 (fun _ => q) s.heap.size) s.heap H locs → ∀ ls, lv_has ls 4 [(0, .ref q), (1, .int v), (2, .int (nI i)), (3, .int (nI n))] → gw p l e rm_J7_fill_53178 s m args below meth c none (fun H => va_P D vwCl [(q, .inl (y 0, n, .inl (fl_s n v f)))] H) (rg_s 1 (fun _ => q) s.heap.size) 0 0 H locs (F0 m 5 ls []) := by
    intro k
    induction k with
    | zero =>
      intro i hi H locs hP hS ls hl
      have e : i = n := by omega
      subst e
      refine lv_iload_n (cx_x X) (cx_b X) dJ7_fill_53178_5 rfl (lv_at hl 2 rfl) ?_
      refine lv_iload_n (cx_x X) (cx_b X) dJ7_fill_53178_6 rfl (lv_at hl 3 rfl) ?_
      refine lv_icmp_ge (tgt := 20) (cx_x X) (cx_b X) dJ7_fill_53178_7 (by decide) (fun _ => ?_) (fun h => absurd (nI_le (Nat.le_refl i) hn) h)
      exact gw_v X hS hP dJ7_fill_53178_20
    | succ k ih =>
      intro i hi H locs hP hS ls hl
      refine lv_iload_n (cx_x X) (cx_b X) dJ7_fill_53178_5 rfl (lv_at hl 2 rfl) ?_
      refine lv_iload_n (cx_x X) (cx_b X) dJ7_fill_53178_6 rfl (lv_at hl 3 rfl) ?_
      refine lv_icmp_ge (tgt := 20) (cx_x X) (cx_b X) dJ7_fill_53178_7 (by decide) (fun h => absurd h (nI_ge (by omega) hn)) (fun _ => ?_)
      refine lv_aload_n (cx_x X) (cx_b X) dJ7_fill_53178_10 rfl (lv_at hl 0 rfl) ?_
      refine lv_iload_n (cx_x X) (cx_b X) dJ7_fill_53178_11 rfl (lv_at hl 2 rfl) ?_
      refine lv_iload_n (cx_x X) (cx_b X) dJ7_fill_53178_12 rfl (lv_at hl 1 rfl) ?_
      refine va_iast (cx_x X) (cx_b X) (cx_K X).1 hP (hD _) hS 0 0 rfl rfl (vp_in_nI (show i < n by omega) hn) dJ7_fill_53178_13 (fun H locs hP _ hS => ?_)
      refine lv_iinc (v := nI (i + 1)) (lv' := [(2, .int (nI (i + 1))), (0, .ref q), (1, .int v), (3, .int (nI n))]) (cx_x X) (cx_b X) dJ7_fill_53178_14 hl (k := 2) rfl (nI_1 i) (by decide) rfl (fun ls hl => ?_)
      refine lv_goto (tgt := 5) (cx_x X) (cx_b X) dJ7_fill_53178_17 (by decide) ?_
      refine ih (i + 1) (by omega) H locs ?_ hS _ (lv_sub hl [1, 2, 0, 3] rfl)
      rw [← fl_up (show i < 2 ^ 31 by omega)]
      exact hP
  refine lv_iconst (v := (0 : Int32)) (cx_x X) (cx_b X) dJ7_fill_53178_0 (by decide) ?_
  refine lv_istore_n (lv' := [(2, .int (0 : Int32)), (0, .ref q), (1, .int v)]) (cx_x X) (cx_b X) dJ7_fill_53178_1 rfl hl (by decide) rfl (fun ls hl => ?_)
  refine lv_aload_n (cx_x X) (cx_b X) dJ7_fill_53178_2 rfl (lv_at hl 1 rfl) ?_
  refine va_alen (cx_x X) (cx_b X) (cx_K X).1 hP 0 0 rfl rfl (v := nI n) rfl dJ7_fill_53178_3 ?_
  refine lv_istore_n (lv' := [(3, .int (nI n)), (2, .int (0 : Int32)), (0, .ref q), (1, .int v)]) (cx_x X) (cx_b X) dJ7_fill_53178_4 rfl hl (by decide) rfl (fun ls hl => ?_)
  refine L n 0 (by omega) s.heap [] ?_ hS _ (lv_sub hl [2, 3, 1, 0] rfl)
  have e : fl_s 0 v f = f := by funext j; unfold fl_s; rw [if_neg (Nat.not_lt_zero _)]
  rw [e]; exact hP
end
