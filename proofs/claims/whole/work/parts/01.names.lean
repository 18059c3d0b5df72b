-- ===== PART A: goes FIRST, ahead of the names: the tables' words, and 'selects' of the private methods out of them =====
/-- a private method of a class that the tables say can be made, by its rows of tables_1 -/
def lw_okq (q : MethodName × Nat) : Prop := (q.1.cls ≠ "java/lang/invoke/MethodHandle" ∧ q.1.cls ≠ "java/lang/invoke/VarHandle") ∧ Cond.instantiable q.1.cls q.2 ∈ tables_1 ∧ Cond.privateMethod q.1 ∈ tables_1 ∧ Cond.instanceMethod q.1 ∈ tables_1
theorem lw_p0 : lw_okq (⟨"DanceWine", "takeSigns", "(J)V"⟩, 18) := ⟨⟨by decide +kernel, by decide +kernel⟩, List.mem_of_getElem? (i := 27) (by decide +kernel), List.mem_of_getElem? (i := 503) (by decide +kernel), List.mem_of_getElem? (i := 504) (by decide +kernel)⟩
theorem lw_p1 : lw_okq (⟨"DanceWine$Tokens", "putWord", "([CII)I"⟩, 4) := ⟨⟨by decide +kernel, by decide +kernel⟩, List.mem_of_getElem? (i := 177) (by decide +kernel), List.mem_of_getElem? (i := 522) (by decide +kernel), List.mem_of_getElem? (i := 523) (by decide +kernel)⟩
theorem lw_p2 : lw_okq (⟨"DanceWine$Tokens", "put", "(IIJ)V"⟩, 4) := ⟨⟨by decide +kernel, by decide +kernel⟩, List.mem_of_getElem? (i := 177) (by decide +kernel), List.mem_of_getElem? (i := 573) (by decide +kernel), List.mem_of_getElem? (i := 574) (by decide +kernel)⟩
theorem lw_p3 : lw_okq (⟨"DanceWine$Tokens", "putNumber", "([CII)I"⟩, 4) := ⟨⟨by decide +kernel, by decide +kernel⟩, List.mem_of_getElem? (i := 177) (by decide +kernel), List.mem_of_getElem? (i := 580) (by decide +kernel), List.mem_of_getElem? (i := 581) (by decide +kernel)⟩
theorem lw_p4 : lw_okq (⟨"DanceWine$Reader", "hallLine", "()Z"⟩, 12) := ⟨⟨by decide +kernel, by decide +kernel⟩, List.mem_of_getElem? (i := 171) (by decide +kernel), List.mem_of_getElem? (i := 595) (by decide +kernel), List.mem_of_getElem? (i := 596) (by decide +kernel)⟩
theorem lw_p5 : lw_okq (⟨"DanceWine$Reader", "word", "(I)Z"⟩, 12) := ⟨⟨by decide +kernel, by decide +kernel⟩, List.mem_of_getElem? (i := 171) (by decide +kernel), List.mem_of_getElem? (i := 599) (by decide +kernel), List.mem_of_getElem? (i := 600) (by decide +kernel)⟩
theorem lw_p6 : lw_okq (⟨"DanceWine$Reader", "sort", "()I"⟩, 12) := ⟨⟨by decide +kernel, by decide +kernel⟩, List.mem_of_getElem? (i := 171) (by decide +kernel), List.mem_of_getElem? (i := 603) (by decide +kernel), List.mem_of_getElem? (i := 604) (by decide +kernel)⟩
theorem lw_p7 : lw_okq (⟨"DanceWine$Reader", "wrong", "(I)Z"⟩, 12) := ⟨⟨by decide +kernel, by decide +kernel⟩, List.mem_of_getElem? (i := 171) (by decide +kernel), List.mem_of_getElem? (i := 607) (by decide +kernel), List.mem_of_getElem? (i := 608) (by decide +kernel)⟩
theorem lw_p8 : lw_okq (⟨"DanceWine$Reader", "number", "(II)Z"⟩, 12) := ⟨⟨by decide +kernel, by decide +kernel⟩, List.mem_of_getElem? (i := 171) (by decide +kernel), List.mem_of_getElem? (i := 614) (by decide +kernel), List.mem_of_getElem? (i := 615) (by decide +kernel)⟩
theorem lw_p9 : lw_okq (⟨"DanceWine$Reader", "line", "()Z"⟩, 12) := ⟨⟨by decide +kernel, by decide +kernel⟩, List.mem_of_getElem? (i := 171) (by decide +kernel), List.mem_of_getElem? (i := 618) (by decide +kernel), List.mem_of_getElem? (i := 619) (by decide +kernel)⟩
theorem lw_p10 : lw_okq (⟨"DanceWine$Reader", "pillarLine", "()Z"⟩, 12) := ⟨⟨by decide +kernel, by decide +kernel⟩, List.mem_of_getElem? (i := 171) (by decide +kernel), List.mem_of_getElem? (i := 622) (by decide +kernel), List.mem_of_getElem? (i := 623) (by decide +kernel)⟩
theorem lw_p11 : lw_okq (⟨"DanceWine$Reader", "place", "(J)Z"⟩, 12) := ⟨⟨by decide +kernel, by decide +kernel⟩, List.mem_of_getElem? (i := 171) (by decide +kernel), List.mem_of_getElem? (i := 626) (by decide +kernel), List.mem_of_getElem? (i := 627) (by decide +kernel)⟩
theorem lw_p12 : lw_okq (⟨"DanceWine$Reader", "carriageLine", "()Z"⟩, 12) := ⟨⟨by decide +kernel, by decide +kernel⟩, List.mem_of_getElem? (i := 171) (by decide +kernel), List.mem_of_getElem? (i := 630) (by decide +kernel), List.mem_of_getElem? (i := 631) (by decide +kernel)⟩
theorem lw_p13 : lw_okq (⟨"DanceWine$Reader", "danceLine", "()Z"⟩, 12) := ⟨⟨by decide +kernel, by decide +kernel⟩, List.mem_of_getElem? (i := 171) (by decide +kernel), List.mem_of_getElem? (i := 634) (by decide +kernel), List.mem_of_getElem? (i := 635) (by decide +kernel)⟩
theorem lw_p14 : lw_okq (⟨"DanceWine$Reader", "newName", "()Z"⟩, 12) := ⟨⟨by decide +kernel, by decide +kernel⟩, List.mem_of_getElem? (i := 171) (by decide +kernel), List.mem_of_getElem? (i := 638) (by decide +kernel), List.mem_of_getElem? (i := 639) (by decide +kernel)⟩
theorem lw_p15 : lw_okq (⟨"DanceWine$Reader", "wineLine", "()Z"⟩, 12) := ⟨⟨by decide +kernel, by decide +kernel⟩, List.mem_of_getElem? (i := 171) (by decide +kernel), List.mem_of_getElem? (i := 648) (by decide +kernel), List.mem_of_getElem? (i := 649) (by decide +kernel)⟩
def lw_privs_1 : List (MethodName × Nat) := [(⟨"DanceWine", "takeSigns", "(J)V"⟩, 18), (⟨"DanceWine$Tokens", "putWord", "([CII)I"⟩, 4), (⟨"DanceWine$Tokens", "put", "(IIJ)V"⟩, 4), (⟨"DanceWine$Tokens", "putNumber", "([CII)I"⟩, 4), (⟨"DanceWine$Reader", "hallLine", "()Z"⟩, 12), (⟨"DanceWine$Reader", "word", "(I)Z"⟩, 12), (⟨"DanceWine$Reader", "sort", "()I"⟩, 12), (⟨"DanceWine$Reader", "wrong", "(I)Z"⟩, 12), (⟨"DanceWine$Reader", "number", "(II)Z"⟩, 12), (⟨"DanceWine$Reader", "line", "()Z"⟩, 12), (⟨"DanceWine$Reader", "pillarLine", "()Z"⟩, 12), (⟨"DanceWine$Reader", "place", "(J)Z"⟩, 12), (⟨"DanceWine$Reader", "carriageLine", "()Z"⟩, 12), (⟨"DanceWine$Reader", "danceLine", "()Z"⟩, 12), (⟨"DanceWine$Reader", "newName", "()Z"⟩, 12), (⟨"DanceWine$Reader", "wineLine", "()Z"⟩, 12)]
theorem lw_r1 : ∀ q ∈ lw_privs_1, lw_okq q := List.forall_mem_cons.mpr ⟨lw_p0, List.forall_mem_cons.mpr ⟨lw_p1, List.forall_mem_cons.mpr ⟨lw_p2, List.forall_mem_cons.mpr ⟨lw_p3, List.forall_mem_cons.mpr ⟨lw_p4, List.forall_mem_cons.mpr ⟨lw_p5, List.forall_mem_cons.mpr ⟨lw_p6, List.forall_mem_cons.mpr ⟨lw_p7, List.forall_mem_cons.mpr ⟨lw_p8, List.forall_mem_cons.mpr ⟨lw_p9, List.forall_mem_cons.mpr ⟨lw_p10, List.forall_mem_cons.mpr ⟨lw_p11, List.forall_mem_cons.mpr ⟨lw_p12, List.forall_mem_cons.mpr ⟨lw_p13, List.forall_mem_cons.mpr ⟨lw_p14, List.forall_mem_cons.mpr ⟨lw_p15, fun _ h => absurd h List.not_mem_nil⟩⟩⟩⟩⟩⟩⟩⟩⟩⟩⟩⟩⟩⟩⟩⟩
theorem lw_p16 : lw_okq (⟨"DanceWine$Reader", "partName", "(II)I"⟩, 12) := ⟨⟨by decide +kernel, by decide +kernel⟩, List.mem_of_getElem? (i := 171) (by decide +kernel), List.mem_of_getElem? (i := 652) (by decide +kernel), List.mem_of_getElem? (i := 653) (by decide +kernel)⟩
theorem lw_p17 : lw_okq (⟨"DanceWine$Reader", "danceNamed", "(J)I"⟩, 12) := ⟨⟨by decide +kernel, by decide +kernel⟩, List.mem_of_getElem? (i := 171) (by decide +kernel), List.mem_of_getElem? (i := 656) (by decide +kernel), List.mem_of_getElem? (i := 657) (by decide +kernel)⟩
theorem lw_p18 : lw_okq (⟨"DanceWine$Reader", "blend", "(III)V"⟩, 12) := ⟨⟨by decide +kernel, by decide +kernel⟩, List.mem_of_getElem? (i := 171) (by decide +kernel), List.mem_of_getElem? (i := 660) (by decide +kernel), List.mem_of_getElem? (i := 661) (by decide +kernel)⟩
theorem lw_p19 : lw_okq (⟨"DanceWine$Reader", "guestLine", "()Z"⟩, 12) := ⟨⟨by decide +kernel, by decide +kernel⟩, List.mem_of_getElem? (i := 171) (by decide +kernel), List.mem_of_getElem? (i := 667) (by decide +kernel), List.mem_of_getElem? (i := 668) (by decide +kernel)⟩
theorem lw_p20 : lw_okq (⟨"DanceWine$Reader", "lawLine", "()Z"⟩, 12) := ⟨⟨by decide +kernel, by decide +kernel⟩, List.mem_of_getElem? (i := 171) (by decide +kernel), List.mem_of_getElem? (i := 674) (by decide +kernel), List.mem_of_getElem? (i := 675) (by decide +kernel)⟩
theorem lw_p21 : lw_okq (⟨"DanceWine$Law", "faultOfPart", "(I)I"⟩, 6) := ⟨⟨by decide +kernel, by decide +kernel⟩, List.mem_of_getElem? (i := 41) (by decide +kernel), List.mem_of_getElem? (i := 682) (by decide +kernel), List.mem_of_getElem? (i := 683) (by decide +kernel)⟩
theorem lw_p22 : lw_okq (⟨"DanceWine$Law", "faultBehindPart", "(I)I"⟩, 6) := ⟨⟨by decide +kernel, by decide +kernel⟩, List.mem_of_getElem? (i := 41) (by decide +kernel), List.mem_of_getElem? (i := 689) (by decide +kernel), List.mem_of_getElem? (i := 690) (by decide +kernel)⟩
theorem lw_p23 : lw_okq (⟨"DanceWine$Law", "comparesAlready", "()Z"⟩, 6) := ⟨⟨by decide +kernel, by decide +kernel⟩, List.mem_of_getElem? (i := 41) (by decide +kernel), List.mem_of_getElem? (i := 696) (by decide +kernel), List.mem_of_getElem? (i := 697) (by decide +kernel)⟩
theorem lw_p24 : lw_okq (⟨"DanceWine$Law", "takePart", "(II)Z"⟩, 6) := ⟨⟨by decide +kernel, by decide +kernel⟩, List.mem_of_getElem? (i := 41) (by decide +kernel), List.mem_of_getElem? (i := 700) (by decide +kernel), List.mem_of_getElem? (i := 701) (by decide +kernel)⟩
theorem lw_p25 : lw_okq (⟨"DanceWine$Law", "push", "(I)V"⟩, 6) := ⟨⟨by decide +kernel, by decide +kernel⟩, List.mem_of_getElem? (i := 41) (by decide +kernel), List.mem_of_getElem? (i := 704) (by decide +kernel), List.mem_of_getElem? (i := 705) (by decide +kernel)⟩
theorem lw_p26 : lw_okq (⟨"DanceWine$Law", "put", "(I)V"⟩, 6) := ⟨⟨by decide +kernel, by decide +kernel⟩, List.mem_of_getElem? (i := 41) (by decide +kernel), List.mem_of_getElem? (i := 708) (by decide +kernel), List.mem_of_getElem? (i := 709) (by decide +kernel)⟩
theorem lw_p27 : lw_okq (⟨"DanceWine$Law", "endPart", "()V"⟩, 6) := ⟨⟨by decide +kernel, by decide +kernel⟩, List.mem_of_getElem? (i := 41) (by decide +kernel), List.mem_of_getElem? (i := 712) (by decide +kernel), List.mem_of_getElem? (i := 713) (by decide +kernel)⟩
theorem lw_p28 : lw_okq (⟨"DanceWine$Law", "takeBehindPart", "(I)V"⟩, 6) := ⟨⟨by decide +kernel, by decide +kernel⟩, List.mem_of_getElem? (i := 41) (by decide +kernel), List.mem_of_getElem? (i := 716) (by decide +kernel), List.mem_of_getElem? (i := 717) (by decide +kernel)⟩
theorem lw_p29 : lw_okq (⟨"DanceWine$Law", "settle", "(I)V"⟩, 6) := ⟨⟨by decide +kernel, by decide +kernel⟩, List.mem_of_getElem? (i := 41) (by decide +kernel), List.mem_of_getElem? (i := 720) (by decide +kernel), List.mem_of_getElem? (i := 721) (by decide +kernel)⟩
theorem lw_p30 : lw_okq (⟨"DanceWine", "allChanged", "()V"⟩, 18) := ⟨⟨by decide +kernel, by decide +kernel⟩, List.mem_of_getElem? (i := 27) (by decide +kernel), List.mem_of_getElem? (i := 736) (by decide +kernel), List.mem_of_getElem? (i := 737) (by decide +kernel)⟩
theorem lw_p31 : lw_okq (⟨"DanceWine", "changed", "(I)V"⟩, 18) := ⟨⟨by decide +kernel, by decide +kernel⟩, List.mem_of_getElem? (i := 27) (by decide +kernel), List.mem_of_getElem? (i := 740) (by decide +kernel), List.mem_of_getElem? (i := 741) (by decide +kernel)⟩
def lw_privs_2 : List (MethodName × Nat) := [(⟨"DanceWine$Reader", "partName", "(II)I"⟩, 12), (⟨"DanceWine$Reader", "danceNamed", "(J)I"⟩, 12), (⟨"DanceWine$Reader", "blend", "(III)V"⟩, 12), (⟨"DanceWine$Reader", "guestLine", "()Z"⟩, 12), (⟨"DanceWine$Reader", "lawLine", "()Z"⟩, 12), (⟨"DanceWine$Law", "faultOfPart", "(I)I"⟩, 6), (⟨"DanceWine$Law", "faultBehindPart", "(I)I"⟩, 6), (⟨"DanceWine$Law", "comparesAlready", "()Z"⟩, 6), (⟨"DanceWine$Law", "takePart", "(II)Z"⟩, 6), (⟨"DanceWine$Law", "push", "(I)V"⟩, 6), (⟨"DanceWine$Law", "put", "(I)V"⟩, 6), (⟨"DanceWine$Law", "endPart", "()V"⟩, 6), (⟨"DanceWine$Law", "takeBehindPart", "(I)V"⟩, 6), (⟨"DanceWine$Law", "settle", "(I)V"⟩, 6), (⟨"DanceWine", "allChanged", "()V"⟩, 18), (⟨"DanceWine", "changed", "(I)V"⟩, 18)]
theorem lw_r2 : ∀ q ∈ lw_privs_2, lw_okq q := List.forall_mem_cons.mpr ⟨lw_p16, List.forall_mem_cons.mpr ⟨lw_p17, List.forall_mem_cons.mpr ⟨lw_p18, List.forall_mem_cons.mpr ⟨lw_p19, List.forall_mem_cons.mpr ⟨lw_p20, List.forall_mem_cons.mpr ⟨lw_p21, List.forall_mem_cons.mpr ⟨lw_p22, List.forall_mem_cons.mpr ⟨lw_p23, List.forall_mem_cons.mpr ⟨lw_p24, List.forall_mem_cons.mpr ⟨lw_p25, List.forall_mem_cons.mpr ⟨lw_p26, List.forall_mem_cons.mpr ⟨lw_p27, List.forall_mem_cons.mpr ⟨lw_p28, List.forall_mem_cons.mpr ⟨lw_p29, List.forall_mem_cons.mpr ⟨lw_p30, List.forall_mem_cons.mpr ⟨lw_p31, fun _ h => absurd h List.not_mem_nil⟩⟩⟩⟩⟩⟩⟩⟩⟩⟩⟩⟩⟩⟩⟩⟩
theorem lw_p32 : lw_okq (⟨"DanceWine", "routineOf", "(I)LDanceWine$Routine;"⟩, 18) := ⟨⟨by decide +kernel, by decide +kernel⟩, List.mem_of_getElem? (i := 27) (by decide +kernel), List.mem_of_getElem? (i := 765) (by decide +kernel), List.mem_of_getElem? (i := 766) (by decide +kernel)⟩
theorem lw_p33 : lw_okq (⟨"DanceWine$Routine", "drink", "(LDanceWine$Cellar;IIII)V"⟩, 7) := ⟨⟨by decide +kernel, by decide +kernel⟩, List.mem_of_getElem? (i := 283) (by decide +kernel), List.mem_of_getElem? (i := 773) (by decide +kernel), List.mem_of_getElem? (i := 774) (by decide +kernel)⟩
theorem lw_p34 : lw_okq (⟨"DanceWine$Routine", "walkAlone", "(LDanceWine$Cellar;)V"⟩, 7) := ⟨⟨by decide +kernel, by decide +kernel⟩, List.mem_of_getElem? (i := 283) (by decide +kernel), List.mem_of_getElem? (i := 792) (by decide +kernel), List.mem_of_getElem? (i := 793) (by decide +kernel)⟩
theorem lw_p35 : lw_okq (⟨"DanceWine$Past", "last", "()I"⟩, 2) := ⟨⟨by decide +kernel, by decide +kernel⟩, List.mem_of_getElem? (i := 267) (by decide +kernel), List.mem_of_getElem? (i := 837) (by decide +kernel), List.mem_of_getElem? (i := 838) (by decide +kernel)⟩
theorem lw_p36 : lw_okq (⟨"DanceWine", "readyRoutines", "()V"⟩, 18) := ⟨⟨by decide +kernel, by decide +kernel⟩, List.mem_of_getElem? (i := 27) (by decide +kernel), List.mem_of_getElem? (i := 861) (by decide +kernel), List.mem_of_getElem? (i := 862) (by decide +kernel)⟩
theorem lw_p37 : lw_okq (⟨"DanceWine$Floor", "draw", "()I"⟩, 3) := ⟨⟨by decide +kernel, by decide +kernel⟩, List.mem_of_getElem? (i := 365) (by decide +kernel), List.mem_of_getElem? (i := 870) (by decide +kernel), List.mem_of_getElem? (i := 871) (by decide +kernel)⟩
theorem lw_p38 : lw_okq (⟨"DanceWine$Floor", "others", "(II)J"⟩, 3) := ⟨⟨by decide +kernel, by decide +kernel⟩, List.mem_of_getElem? (i := 365) (by decide +kernel), List.mem_of_getElem? (i := 879) (by decide +kernel), List.mem_of_getElem? (i := 880) (by decide +kernel)⟩
theorem lw_p39 : lw_okq (⟨"DanceWine$Rows", "ready", "(LDanceWine$Cellar;II)V"⟩, 12) := ⟨⟨by decide +kernel, by decide +kernel⟩, List.mem_of_getElem? (i := 317) (by decide +kernel), List.mem_of_getElem? (i := 894) (by decide +kernel), List.mem_of_getElem? (i := 895) (by decide +kernel)⟩
theorem lw_p40 : lw_okq (⟨"DanceWine$Rows", "mayReach", "()Z"⟩, 12) := ⟨⟨by decide +kernel, by decide +kernel⟩, List.mem_of_getElem? (i := 317) (by decide +kernel), List.mem_of_getElem? (i := 906) (by decide +kernel), List.mem_of_getElem? (i := 907) (by decide +kernel)⟩
theorem lw_p41 : lw_okq (⟨"DanceWine$Rows", "reachBehind", "(II)V"⟩, 12) := ⟨⟨by decide +kernel, by decide +kernel⟩, List.mem_of_getElem? (i := 317) (by decide +kernel), List.mem_of_getElem? (i := 911) (by decide +kernel), List.mem_of_getElem? (i := 912) (by decide +kernel)⟩
theorem lw_p42 : lw_okq (⟨"DanceWine$Rows", "danced", "(I)I"⟩, 12) := ⟨⟨by decide +kernel, by decide +kernel⟩, List.mem_of_getElem? (i := 317) (by decide +kernel), List.mem_of_getElem? (i := 915) (by decide +kernel), List.mem_of_getElem? (i := 916) (by decide +kernel)⟩
theorem lw_p43 : lw_okq (⟨"DanceWine$Rows", "behindGlass", "(III)I"⟩, 12) := ⟨⟨by decide +kernel, by decide +kernel⟩, List.mem_of_getElem? (i := 317) (by decide +kernel), List.mem_of_getElem? (i := 919) (by decide +kernel), List.mem_of_getElem? (i := 920) (by decide +kernel)⟩
theorem lw_p44 : lw_okq (⟨"DanceWine$Rows", "choose", "(I)Z"⟩, 12) := ⟨⟨by decide +kernel, by decide +kernel⟩, List.mem_of_getElem? (i := 317) (by decide +kernel), List.mem_of_getElem? (i := 924) (by decide +kernel), List.mem_of_getElem? (i := 925) (by decide +kernel)⟩
theorem lw_p45 : lw_okq (⟨"DanceWine$Rows", "end", "()I"⟩, 12) := ⟨⟨by decide +kernel, by decide +kernel⟩, List.mem_of_getElem? (i := 317) (by decide +kernel), List.mem_of_getElem? (i := 928) (by decide +kernel), List.mem_of_getElem? (i := 929) (by decide +kernel)⟩
theorem lw_p46 : lw_okq (⟨"DanceWine$Sending", "begin", "(LDanceWine$Cellar;[LDanceWine$Routine;)V"⟩, 7) := ⟨⟨by decide +kernel, by decide +kernel⟩, List.mem_of_getElem? (i := 383) (by decide +kernel), List.mem_of_getElem? (i := 940) (by decide +kernel), List.mem_of_getElem? (i := 941) (by decide +kernel)⟩
theorem lw_p47 : lw_okq (⟨"DanceWine$Sending", "tryAll", "(III)V"⟩, 7) := ⟨⟨by decide +kernel, by decide +kernel⟩, List.mem_of_getElem? (i := 383) (by decide +kernel), List.mem_of_getElem? (i := 944) (by decide +kernel), List.mem_of_getElem? (i := 945) (by decide +kernel)⟩
def lw_privs_3 : List (MethodName × Nat) := [(⟨"DanceWine", "routineOf", "(I)LDanceWine$Routine;"⟩, 18), (⟨"DanceWine$Routine", "drink", "(LDanceWine$Cellar;IIII)V"⟩, 7), (⟨"DanceWine$Routine", "walkAlone", "(LDanceWine$Cellar;)V"⟩, 7), (⟨"DanceWine$Past", "last", "()I"⟩, 2), (⟨"DanceWine", "readyRoutines", "()V"⟩, 18), (⟨"DanceWine$Floor", "draw", "()I"⟩, 3), (⟨"DanceWine$Floor", "others", "(II)J"⟩, 3), (⟨"DanceWine$Rows", "ready", "(LDanceWine$Cellar;II)V"⟩, 12), (⟨"DanceWine$Rows", "mayReach", "()Z"⟩, 12), (⟨"DanceWine$Rows", "reachBehind", "(II)V"⟩, 12), (⟨"DanceWine$Rows", "danced", "(I)I"⟩, 12), (⟨"DanceWine$Rows", "behindGlass", "(III)I"⟩, 12), (⟨"DanceWine$Rows", "choose", "(I)Z"⟩, 12), (⟨"DanceWine$Rows", "end", "()I"⟩, 12), (⟨"DanceWine$Sending", "begin", "(LDanceWine$Cellar;[LDanceWine$Routine;)V"⟩, 7), (⟨"DanceWine$Sending", "tryAll", "(III)V"⟩, 7)]
theorem lw_r3 : ∀ q ∈ lw_privs_3, lw_okq q := List.forall_mem_cons.mpr ⟨lw_p32, List.forall_mem_cons.mpr ⟨lw_p33, List.forall_mem_cons.mpr ⟨lw_p34, List.forall_mem_cons.mpr ⟨lw_p35, List.forall_mem_cons.mpr ⟨lw_p36, List.forall_mem_cons.mpr ⟨lw_p37, List.forall_mem_cons.mpr ⟨lw_p38, List.forall_mem_cons.mpr ⟨lw_p39, List.forall_mem_cons.mpr ⟨lw_p40, List.forall_mem_cons.mpr ⟨lw_p41, List.forall_mem_cons.mpr ⟨lw_p42, List.forall_mem_cons.mpr ⟨lw_p43, List.forall_mem_cons.mpr ⟨lw_p44, List.forall_mem_cons.mpr ⟨lw_p45, List.forall_mem_cons.mpr ⟨lw_p46, List.forall_mem_cons.mpr ⟨lw_p47, fun _ h => absurd h List.not_mem_nil⟩⟩⟩⟩⟩⟩⟩⟩⟩⟩⟩⟩⟩⟩⟩⟩
theorem lw_p48 : lw_okq (⟨"DanceWine$Sending", "go", "(I)V"⟩, 7) := ⟨⟨by decide +kernel, by decide +kernel⟩, List.mem_of_getElem? (i := 383) (by decide +kernel), List.mem_of_getElem? (i := 954) (by decide +kernel), List.mem_of_getElem? (i := 955) (by decide +kernel)⟩
theorem lw_p49 : lw_okq (⟨"DanceWine", "isPose", "(IIII)Z"⟩, 18) := ⟨⟨by decide +kernel, by decide +kernel⟩, List.mem_of_getElem? (i := 27) (by decide +kernel), List.mem_of_getElem? (i := 966) (by decide +kernel), List.mem_of_getElem? (i := 967) (by decide +kernel)⟩
theorem lw_p50 : lw_okq (⟨"DanceWine$Rows", "setRow", "(I)V"⟩, 12) := ⟨⟨by decide +kernel, by decide +kernel⟩, List.mem_of_getElem? (i := 317) (by decide +kernel), List.mem_of_getElem? (i := 974) (by decide +kernel), List.mem_of_getElem? (i := 975) (by decide +kernel)⟩
theorem lw_p51 : lw_okq (⟨"DanceWine$Reading", "tryFrom", "(II)V"⟩, 7) := ⟨⟨by decide +kernel, by decide +kernel⟩, List.mem_of_getElem? (i := 414) (by decide +kernel), List.mem_of_getElem? (i := 1027) (by decide +kernel), List.mem_of_getElem? (i := 1028) (by decide +kernel)⟩
theorem lw_p52 : lw_okq (⟨"DanceWine$Reading", "allThere", "()Z"⟩, 7) := ⟨⟨by decide +kernel, by decide +kernel⟩, List.mem_of_getElem? (i := 414) (by decide +kernel), List.mem_of_getElem? (i := 1031) (by decide +kernel), List.mem_of_getElem? (i := 1032) (by decide +kernel)⟩
theorem lw_p53 : lw_okq (⟨"java/lang/Throwable", "fillInStackTrace", "(I)Ljava/lang/Throwable;"⟩, 6) := ⟨⟨by decide +kernel, by decide +kernel⟩, List.mem_of_getElem? (i := 1103) (by decide +kernel), List.mem_of_getElem? (i := 1101) (by decide +kernel), List.mem_of_getElem? (i := 1102) (by decide +kernel)⟩
theorem lw_p54 : lw_okq (⟨"DanceWineModel", "lay", "(J)V"⟩, 43) := ⟨⟨by decide +kernel, by decide +kernel⟩, List.mem_of_getElem? (i := 1146) (by decide +kernel), List.mem_of_getElem? (i := 1144) (by decide +kernel), List.mem_of_getElem? (i := 1145) (by decide +kernel)⟩
theorem lw_p55 : lw_okq (⟨"DanceWineModel", "cutAll", "()V"⟩, 43) := ⟨⟨by decide +kernel, by decide +kernel⟩, List.mem_of_getElem? (i := 1146) (by decide +kernel), List.mem_of_getElem? (i := 1316) (by decide +kernel), List.mem_of_getElem? (i := 1317) (by decide +kernel)⟩
theorem lw_p56 : lw_okq (⟨"DanceWineModel", "takeWord", "(I)V"⟩, 43) := ⟨⟨by decide +kernel, by decide +kernel⟩, List.mem_of_getElem? (i := 1146) (by decide +kernel), List.mem_of_getElem? (i := 1335) (by decide +kernel), List.mem_of_getElem? (i := 1336) (by decide +kernel)⟩
theorem lw_p57 : lw_okq (⟨"DanceWineModel", "hasWord", "(I)Z"⟩, 43) := ⟨⟨by decide +kernel, by decide +kernel⟩, List.mem_of_getElem? (i := 1146) (by decide +kernel), List.mem_of_getElem? (i := 1339) (by decide +kernel), List.mem_of_getElem? (i := 1340) (by decide +kernel)⟩
theorem lw_p58 : lw_okq (⟨"DanceWineModel", "isWord", "(I)Z"⟩, 43) := ⟨⟨by decide +kernel, by decide +kernel⟩, List.mem_of_getElem? (i := 1146) (by decide +kernel), List.mem_of_getElem? (i := 1343) (by decide +kernel), List.mem_of_getElem? (i := 1344) (by decide +kernel)⟩
theorem lw_p59 : lw_okq (⟨"DanceWineModel", "wrong", "(I)V"⟩, 43) := ⟨⟨by decide +kernel, by decide +kernel⟩, List.mem_of_getElem? (i := 1146) (by decide +kernel), List.mem_of_getElem? (i := 1347) (by decide +kernel), List.mem_of_getElem? (i := 1348) (by decide +kernel)⟩
theorem lw_p60 : lw_okq (⟨"DanceWineModel", "takeNumber", "(II)I"⟩, 43) := ⟨⟨by decide +kernel, by decide +kernel⟩, List.mem_of_getElem? (i := 1146) (by decide +kernel), List.mem_of_getElem? (i := 1351) (by decide +kernel), List.mem_of_getElem? (i := 1352) (by decide +kernel)⟩
theorem lw_p61 : lw_okq (⟨"DanceWineModel", "takeSign", "(I)V"⟩, 43) := ⟨⟨by decide +kernel, by decide +kernel⟩, List.mem_of_getElem? (i := 1146) (by decide +kernel), List.mem_of_getElem? (i := 1355) (by decide +kernel), List.mem_of_getElem? (i := 1356) (by decide +kernel)⟩
theorem lw_p62 : lw_okq (⟨"DanceWineModel", "isSign", "(I)Z"⟩, 43) := ⟨⟨by decide +kernel, by decide +kernel⟩, List.mem_of_getElem? (i := 1146) (by decide +kernel), List.mem_of_getElem? (i := 1359) (by decide +kernel), List.mem_of_getElem? (i := 1360) (by decide +kernel)⟩
theorem lw_p63 : lw_okq (⟨"DanceWineModel", "readLine", "()V"⟩, 43) := ⟨⟨by decide +kernel, by decide +kernel⟩, List.mem_of_getElem? (i := 1146) (by decide +kernel), List.mem_of_getElem? (i := 1363) (by decide +kernel), List.mem_of_getElem? (i := 1364) (by decide +kernel)⟩
def lw_privs_4 : List (MethodName × Nat) := [(⟨"DanceWine$Sending", "go", "(I)V"⟩, 7), (⟨"DanceWine", "isPose", "(IIII)Z"⟩, 18), (⟨"DanceWine$Rows", "setRow", "(I)V"⟩, 12), (⟨"DanceWine$Reading", "tryFrom", "(II)V"⟩, 7), (⟨"DanceWine$Reading", "allThere", "()Z"⟩, 7), (⟨"java/lang/Throwable", "fillInStackTrace", "(I)Ljava/lang/Throwable;"⟩, 6), (⟨"DanceWineModel", "lay", "(J)V"⟩, 43), (⟨"DanceWineModel", "cutAll", "()V"⟩, 43), (⟨"DanceWineModel", "takeWord", "(I)V"⟩, 43), (⟨"DanceWineModel", "hasWord", "(I)Z"⟩, 43), (⟨"DanceWineModel", "isWord", "(I)Z"⟩, 43), (⟨"DanceWineModel", "wrong", "(I)V"⟩, 43), (⟨"DanceWineModel", "takeNumber", "(II)I"⟩, 43), (⟨"DanceWineModel", "takeSign", "(I)V"⟩, 43), (⟨"DanceWineModel", "isSign", "(I)Z"⟩, 43), (⟨"DanceWineModel", "readLine", "()V"⟩, 43)]
theorem lw_r4 : ∀ q ∈ lw_privs_4, lw_okq q := List.forall_mem_cons.mpr ⟨lw_p48, List.forall_mem_cons.mpr ⟨lw_p49, List.forall_mem_cons.mpr ⟨lw_p50, List.forall_mem_cons.mpr ⟨lw_p51, List.forall_mem_cons.mpr ⟨lw_p52, List.forall_mem_cons.mpr ⟨lw_p53, List.forall_mem_cons.mpr ⟨lw_p54, List.forall_mem_cons.mpr ⟨lw_p55, List.forall_mem_cons.mpr ⟨lw_p56, List.forall_mem_cons.mpr ⟨lw_p57, List.forall_mem_cons.mpr ⟨lw_p58, List.forall_mem_cons.mpr ⟨lw_p59, List.forall_mem_cons.mpr ⟨lw_p60, List.forall_mem_cons.mpr ⟨lw_p61, List.forall_mem_cons.mpr ⟨lw_p62, List.forall_mem_cons.mpr ⟨lw_p63, fun _ h => absurd h List.not_mem_nil⟩⟩⟩⟩⟩⟩⟩⟩⟩⟩⟩⟩⟩⟩⟩⟩
theorem lw_p64 : lw_okq (⟨"DanceWineModel", "readPillar", "()V"⟩, 43) := ⟨⟨by decide +kernel, by decide +kernel⟩, List.mem_of_getElem? (i := 1146) (by decide +kernel), List.mem_of_getElem? (i := 1367) (by decide +kernel), List.mem_of_getElem? (i := 1368) (by decide +kernel)⟩
theorem lw_p65 : lw_okq (⟨"DanceWineModel", "takeCell", "(I)I"⟩, 43) := ⟨⟨by decide +kernel, by decide +kernel⟩, List.mem_of_getElem? (i := 1146) (by decide +kernel), List.mem_of_getElem? (i := 1371) (by decide +kernel), List.mem_of_getElem? (i := 1372) (by decide +kernel)⟩
theorem lw_p66 : lw_okq (⟨"DanceWineModel", "readCarriage", "()V"⟩, 43) := ⟨⟨by decide +kernel, by decide +kernel⟩, List.mem_of_getElem? (i := 1146) (by decide +kernel), List.mem_of_getElem? (i := 1375) (by decide +kernel), List.mem_of_getElem? (i := 1376) (by decide +kernel)⟩
theorem lw_p67 : lw_okq (⟨"DanceWineModel", "readDance", "()V"⟩, 43) := ⟨⟨by decide +kernel, by decide +kernel⟩, List.mem_of_getElem? (i := 1146) (by decide +kernel), List.mem_of_getElem? (i := 1379) (by decide +kernel), List.mem_of_getElem? (i := 1380) (by decide +kernel)⟩
theorem lw_p68 : lw_okq (⟨"DanceWineModel", "readName", "(I)V"⟩, 43) := ⟨⟨by decide +kernel, by decide +kernel⟩, List.mem_of_getElem? (i := 1146) (by decide +kernel), List.mem_of_getElem? (i := 1383) (by decide +kernel), List.mem_of_getElem? (i := 1384) (by decide +kernel)⟩
theorem lw_p69 : lw_okq (⟨"DanceWineModel", "isName", "()Z"⟩, 43) := ⟨⟨by decide +kernel, by decide +kernel⟩, List.mem_of_getElem? (i := 1146) (by decide +kernel), List.mem_of_getElem? (i := 1387) (by decide +kernel), List.mem_of_getElem? (i := 1388) (by decide +kernel)⟩
theorem lw_p70 : lw_okq (⟨"DanceWineModel", "find", "()I"⟩, 43) := ⟨⟨by decide +kernel, by decide +kernel⟩, List.mem_of_getElem? (i := 1146) (by decide +kernel), List.mem_of_getElem? (i := 1391) (by decide +kernel), List.mem_of_getElem? (i := 1392) (by decide +kernel)⟩
theorem lw_p71 : lw_okq (⟨"DanceWineModel", "stepHere", "()I"⟩, 43) := ⟨⟨by decide +kernel, by decide +kernel⟩, List.mem_of_getElem? (i := 1146) (by decide +kernel), List.mem_of_getElem? (i := 1395) (by decide +kernel), List.mem_of_getElem? (i := 1396) (by decide +kernel)⟩
theorem lw_p72 : lw_okq (⟨"DanceWineModel", "readWine", "()V"⟩, 43) := ⟨⟨by decide +kernel, by decide +kernel⟩, List.mem_of_getElem? (i := 1146) (by decide +kernel), List.mem_of_getElem? (i := 1399) (by decide +kernel), List.mem_of_getElem? (i := 1400) (by decide +kernel)⟩
theorem lw_p73 : lw_okq (⟨"DanceWineModel", "takeAfter", "(III)I"⟩, 43) := ⟨⟨by decide +kernel, by decide +kernel⟩, List.mem_of_getElem? (i := 1146) (by decide +kernel), List.mem_of_getElem? (i := 1403) (by decide +kernel), List.mem_of_getElem? (i := 1404) (by decide +kernel)⟩
theorem lw_p74 : lw_okq (⟨"DanceWineModel", "readPart", "(I)V"⟩, 43) := ⟨⟨by decide +kernel, by decide +kernel⟩, List.mem_of_getElem? (i := 1146) (by decide +kernel), List.mem_of_getElem? (i := 1407) (by decide +kernel), List.mem_of_getElem? (i := 1408) (by decide +kernel)⟩
theorem lw_p75 : lw_okq (⟨"DanceWineModel", "readGuest", "()V"⟩, 43) := ⟨⟨by decide +kernel, by decide +kernel⟩, List.mem_of_getElem? (i := 1146) (by decide +kernel), List.mem_of_getElem? (i := 1411) (by decide +kernel), List.mem_of_getElem? (i := 1412) (by decide +kernel)⟩
theorem lw_p76 : lw_okq (⟨"DanceWineModel", "readLaw", "()V"⟩, 43) := ⟨⟨by decide +kernel, by decide +kernel⟩, List.mem_of_getElem? (i := 1146) (by decide +kernel), List.mem_of_getElem? (i := 1415) (by decide +kernel), List.mem_of_getElem? (i := 1416) (by decide +kernel)⟩
theorem lw_p77 : lw_okq (⟨"DanceWineModel", "all", "(I)V"⟩, 43) := ⟨⟨by decide +kernel, by decide +kernel⟩, List.mem_of_getElem? (i := 1146) (by decide +kernel), List.mem_of_getElem? (i := 1419) (by decide +kernel), List.mem_of_getElem? (i := 1420) (by decide +kernel)⟩
theorem lw_p78 : lw_okq (⟨"DanceWineModel", "test", "(I)V"⟩, 43) := ⟨⟨by decide +kernel, by decide +kernel⟩, List.mem_of_getElem? (i := 1146) (by decide +kernel), List.mem_of_getElem? (i := 1423) (by decide +kernel), List.mem_of_getElem? (i := 1424) (by decide +kernel)⟩
theorem lw_p79 : lw_okq (⟨"DanceWineModel", "sums", "(I)V"⟩, 43) := ⟨⟨by decide +kernel, by decide +kernel⟩, List.mem_of_getElem? (i := 1146) (by decide +kernel), List.mem_of_getElem? (i := 1427) (by decide +kernel), List.mem_of_getElem? (i := 1428) (by decide +kernel)⟩
def lw_privs_5 : List (MethodName × Nat) := [(⟨"DanceWineModel", "readPillar", "()V"⟩, 43), (⟨"DanceWineModel", "takeCell", "(I)I"⟩, 43), (⟨"DanceWineModel", "readCarriage", "()V"⟩, 43), (⟨"DanceWineModel", "readDance", "()V"⟩, 43), (⟨"DanceWineModel", "readName", "(I)V"⟩, 43), (⟨"DanceWineModel", "isName", "()Z"⟩, 43), (⟨"DanceWineModel", "find", "()I"⟩, 43), (⟨"DanceWineModel", "stepHere", "()I"⟩, 43), (⟨"DanceWineModel", "readWine", "()V"⟩, 43), (⟨"DanceWineModel", "takeAfter", "(III)I"⟩, 43), (⟨"DanceWineModel", "readPart", "(I)V"⟩, 43), (⟨"DanceWineModel", "readGuest", "()V"⟩, 43), (⟨"DanceWineModel", "readLaw", "()V"⟩, 43), (⟨"DanceWineModel", "all", "(I)V"⟩, 43), (⟨"DanceWineModel", "test", "(I)V"⟩, 43), (⟨"DanceWineModel", "sums", "(I)V"⟩, 43)]
theorem lw_r5 : ∀ q ∈ lw_privs_5, lw_okq q := List.forall_mem_cons.mpr ⟨lw_p64, List.forall_mem_cons.mpr ⟨lw_p65, List.forall_mem_cons.mpr ⟨lw_p66, List.forall_mem_cons.mpr ⟨lw_p67, List.forall_mem_cons.mpr ⟨lw_p68, List.forall_mem_cons.mpr ⟨lw_p69, List.forall_mem_cons.mpr ⟨lw_p70, List.forall_mem_cons.mpr ⟨lw_p71, List.forall_mem_cons.mpr ⟨lw_p72, List.forall_mem_cons.mpr ⟨lw_p73, List.forall_mem_cons.mpr ⟨lw_p74, List.forall_mem_cons.mpr ⟨lw_p75, List.forall_mem_cons.mpr ⟨lw_p76, List.forall_mem_cons.mpr ⟨lw_p77, List.forall_mem_cons.mpr ⟨lw_p78, List.forall_mem_cons.mpr ⟨lw_p79, fun _ h => absurd h List.not_mem_nil⟩⟩⟩⟩⟩⟩⟩⟩⟩⟩⟩⟩⟩⟩⟩⟩
theorem lw_p80 : lw_okq (⟨"DanceWineModel", "products", "(I)V"⟩, 43) := ⟨⟨by decide +kernel, by decide +kernel⟩, List.mem_of_getElem? (i := 1146) (by decide +kernel), List.mem_of_getElem? (i := 1431) (by decide +kernel), List.mem_of_getElem? (i := 1432) (by decide +kernel)⟩
theorem lw_p81 : lw_okq (⟨"DanceWineModel", "takePart", "(I)V"⟩, 43) := ⟨⟨by decide +kernel, by decide +kernel⟩, List.mem_of_getElem? (i := 1146) (by decide +kernel), List.mem_of_getElem? (i := 1435) (by decide +kernel), List.mem_of_getElem? (i := 1436) (by decide +kernel)⟩
theorem lw_p82 : lw_okq (⟨"DanceWineModel", "emit", "(II)V"⟩, 43) := ⟨⟨by decide +kernel, by decide +kernel⟩, List.mem_of_getElem? (i := 1146) (by decide +kernel), List.mem_of_getElem? (i := 1439) (by decide +kernel), List.mem_of_getElem? (i := 1440) (by decide +kernel)⟩
theorem lw_p83 : lw_okq (⟨"DanceWineModel", "hasSign", "(I)Z"⟩, 43) := ⟨⟨by decide +kernel, by decide +kernel⟩, List.mem_of_getElem? (i := 1146) (by decide +kernel), List.mem_of_getElem? (i := 1443) (by decide +kernel), List.mem_of_getElem? (i := 1444) (by decide +kernel)⟩
theorem lw_p84 : lw_okq (⟨"DanceWineModel", "isWine", "(I)Z"⟩, 43) := ⟨⟨by decide +kernel, by decide +kernel⟩, List.mem_of_getElem? (i := 1146) (by decide +kernel), List.mem_of_getElem? (i := 1451) (by decide +kernel), List.mem_of_getElem? (i := 1452) (by decide +kernel)⟩
theorem lw_p85 : lw_okq (⟨"DanceWineModel", "wines", "()I"⟩, 43) := ⟨⟨by decide +kernel, by decide +kernel⟩, List.mem_of_getElem? (i := 1146) (by decide +kernel), List.mem_of_getElem? (i := 1455) (by decide +kernel), List.mem_of_getElem? (i := 1456) (by decide +kernel)⟩
theorem lw_p86 : lw_okq (⟨"DanceWineModel", "lengthOf", "(I)I"⟩, 43) := ⟨⟨by decide +kernel, by decide +kernel⟩, List.mem_of_getElem? (i := 1146) (by decide +kernel), List.mem_of_getElem? (i := 1459) (by decide +kernel), List.mem_of_getElem? (i := 1460) (by decide +kernel)⟩
theorem lw_p87 : lw_okq (⟨"DanceWineModel", "stepOf", "(II)I"⟩, 43) := ⟨⟨by decide +kernel, by decide +kernel⟩, List.mem_of_getElem? (i := 1146) (by decide +kernel), List.mem_of_getElem? (i := 1463) (by decide +kernel), List.mem_of_getElem? (i := 1464) (by decide +kernel)⟩
theorem lw_p88 : lw_okq (⟨"DanceWineModel", "isGuest", "(I)Z"⟩, 43) := ⟨⟨by decide +kernel, by decide +kernel⟩, List.mem_of_getElem? (i := 1146) (by decide +kernel), List.mem_of_getElem? (i := 1478) (by decide +kernel), List.mem_of_getElem? (i := 1479) (by decide +kernel)⟩
theorem lw_p89 : lw_okq (⟨"DanceWineModel", "guests", "()I"⟩, 43) := ⟨⟨by decide +kernel, by decide +kernel⟩, List.mem_of_getElem? (i := 1146) (by decide +kernel), List.mem_of_getElem? (i := 1482) (by decide +kernel), List.mem_of_getElem? (i := 1483) (by decide +kernel)⟩
theorem lw_p90 : lw_okq (⟨"DanceWineModel", "laysOwn", "(I)V"⟩, 43) := ⟨⟨by decide +kernel, by decide +kernel⟩, List.mem_of_getElem? (i := 1146) (by decide +kernel), List.mem_of_getElem? (i := 1486) (by decide +kernel), List.mem_of_getElem? (i := 1487) (by decide +kernel)⟩
theorem lw_p91 : lw_okq (⟨"DanceWineModel", "drunkBy", "(I)I"⟩, 43) := ⟨⟨by decide +kernel, by decide +kernel⟩, List.mem_of_getElem? (i := 1146) (by decide +kernel), List.mem_of_getElem? (i := 1490) (by decide +kernel), List.mem_of_getElem? (i := 1491) (by decide +kernel)⟩
theorem lw_p92 : lw_okq (⟨"DanceWineModel", "laysSteps", "(II)V"⟩, 43) := ⟨⟨by decide +kernel, by decide +kernel⟩, List.mem_of_getElem? (i := 1146) (by decide +kernel), List.mem_of_getElem? (i := 1494) (by decide +kernel), List.mem_of_getElem? (i := 1495) (by decide +kernel)⟩
theorem lw_p93 : lw_okq (⟨"DanceWineModel", "guestOf", "(II)I"⟩, 43) := ⟨⟨by decide +kernel, by decide +kernel⟩, List.mem_of_getElem? (i := 1146) (by decide +kernel), List.mem_of_getElem? (i := 1498) (by decide +kernel), List.mem_of_getElem? (i := 1499) (by decide +kernel)⟩
theorem lw_p94 : lw_okq (⟨"DanceWineModel", "isLost", "(IIII)Z"⟩, 43) := ⟨⟨by decide +kernel, by decide +kernel⟩, List.mem_of_getElem? (i := 1146) (by decide +kernel), List.mem_of_getElem? (i := 1502) (by decide +kernel), List.mem_of_getElem? (i := 1503) (by decide +kernel)⟩
theorem lw_p95 : lw_okq (⟨"DanceWineModel", "worthAt", "(I)I"⟩, 43) := ⟨⟨by decide +kernel, by decide +kernel⟩, List.mem_of_getElem? (i := 1146) (by decide +kernel), List.mem_of_getElem? (i := 1506) (by decide +kernel), List.mem_of_getElem? (i := 1507) (by decide +kernel)⟩
def lw_privs_6 : List (MethodName × Nat) := [(⟨"DanceWineModel", "products", "(I)V"⟩, 43), (⟨"DanceWineModel", "takePart", "(I)V"⟩, 43), (⟨"DanceWineModel", "emit", "(II)V"⟩, 43), (⟨"DanceWineModel", "hasSign", "(I)Z"⟩, 43), (⟨"DanceWineModel", "isWine", "(I)Z"⟩, 43), (⟨"DanceWineModel", "wines", "()I"⟩, 43), (⟨"DanceWineModel", "lengthOf", "(I)I"⟩, 43), (⟨"DanceWineModel", "stepOf", "(II)I"⟩, 43), (⟨"DanceWineModel", "isGuest", "(I)Z"⟩, 43), (⟨"DanceWineModel", "guests", "()I"⟩, 43), (⟨"DanceWineModel", "laysOwn", "(I)V"⟩, 43), (⟨"DanceWineModel", "drunkBy", "(I)I"⟩, 43), (⟨"DanceWineModel", "laysSteps", "(II)V"⟩, 43), (⟨"DanceWineModel", "guestOf", "(II)I"⟩, 43), (⟨"DanceWineModel", "isLost", "(IIII)Z"⟩, 43), (⟨"DanceWineModel", "worthAt", "(I)I"⟩, 43)]
theorem lw_r6 : ∀ q ∈ lw_privs_6, lw_okq q := List.forall_mem_cons.mpr ⟨lw_p80, List.forall_mem_cons.mpr ⟨lw_p81, List.forall_mem_cons.mpr ⟨lw_p82, List.forall_mem_cons.mpr ⟨lw_p83, List.forall_mem_cons.mpr ⟨lw_p84, List.forall_mem_cons.mpr ⟨lw_p85, List.forall_mem_cons.mpr ⟨lw_p86, List.forall_mem_cons.mpr ⟨lw_p87, List.forall_mem_cons.mpr ⟨lw_p88, List.forall_mem_cons.mpr ⟨lw_p89, List.forall_mem_cons.mpr ⟨lw_p90, List.forall_mem_cons.mpr ⟨lw_p91, List.forall_mem_cons.mpr ⟨lw_p92, List.forall_mem_cons.mpr ⟨lw_p93, List.forall_mem_cons.mpr ⟨lw_p94, List.forall_mem_cons.mpr ⟨lw_p95, fun _ h => absurd h List.not_mem_nil⟩⟩⟩⟩⟩⟩⟩⟩⟩⟩⟩⟩⟩⟩⟩⟩
theorem lw_p96 : lw_okq (⟨"DanceWineModel", "keeps", "()V"⟩, 43) := ⟨⟨by decide +kernel, by decide +kernel⟩, List.mem_of_getElem? (i := 1146) (by decide +kernel), List.mem_of_getElem? (i := 1521) (by decide +kernel), List.mem_of_getElem? (i := 1522) (by decide +kernel)⟩
theorem lw_p97 : lw_okq (⟨"DanceWineModel", "copies", "(III)V"⟩, 43) := ⟨⟨by decide +kernel, by decide +kernel⟩, List.mem_of_getElem? (i := 1146) (by decide +kernel), List.mem_of_getElem? (i := 1525) (by decide +kernel), List.mem_of_getElem? (i := 1526) (by decide +kernel)⟩
theorem lw_p98 : lw_okq (⟨"DanceWineModel", "walks", "(IZ)V"⟩, 43) := ⟨⟨by decide +kernel, by decide +kernel⟩, List.mem_of_getElem? (i := 1146) (by decide +kernel), List.mem_of_getElem? (i := 1541) (by decide +kernel), List.mem_of_getElem? (i := 1542) (by decide +kernel)⟩
theorem lw_p99 : lw_okq (⟨"DanceWineModel", "starts", "(I)V"⟩, 43) := ⟨⟨by decide +kernel, by decide +kernel⟩, List.mem_of_getElem? (i := 1146) (by decide +kernel), List.mem_of_getElem? (i := 1545) (by decide +kernel), List.mem_of_getElem? (i := 1546) (by decide +kernel)⟩
theorem lw_p100 : lw_okq (⟨"DanceWineModel", "takesStep", "(IIZ)V"⟩, 43) := ⟨⟨by decide +kernel, by decide +kernel⟩, List.mem_of_getElem? (i := 1146) (by decide +kernel), List.mem_of_getElem? (i := 1549) (by decide +kernel), List.mem_of_getElem? (i := 1550) (by decide +kernel)⟩
theorem lw_p101 : lw_okq (⟨"DanceWineModel", "isFree", "(IIIZ)Z"⟩, 43) := ⟨⟨by decide +kernel, by decide +kernel⟩, List.mem_of_getElem? (i := 1146) (by decide +kernel), List.mem_of_getElem? (i := 1559) (by decide +kernel), List.mem_of_getElem? (i := 1560) (by decide +kernel)⟩
theorem lw_p102 : lw_okq (⟨"DanceWineModel", "isIn", "(II)Z"⟩, 43) := ⟨⟨by decide +kernel, by decide +kernel⟩, List.mem_of_getElem? (i := 1146) (by decide +kernel), List.mem_of_getElem? (i := 1563) (by decide +kernel), List.mem_of_getElem? (i := 1564) (by decide +kernel)⟩
theorem lw_p103 : lw_okq (⟨"DanceWineModel", "cellNow", "()I"⟩, 43) := ⟨⟨by decide +kernel, by decide +kernel⟩, List.mem_of_getElem? (i := 1146) (by decide +kernel), List.mem_of_getElem? (i := 1567) (by decide +kernel), List.mem_of_getElem? (i := 1568) (by decide +kernel)⟩
theorem lw_p104 : lw_okq (⟨"DanceWineModel", "dances", "(I)I"⟩, 43) := ⟨⟨by decide +kernel, by decide +kernel⟩, List.mem_of_getElem? (i := 1146) (by decide +kernel), List.mem_of_getElem? (i := 1575) (by decide +kernel), List.mem_of_getElem? (i := 1576) (by decide +kernel)⟩
theorem lw_p105 : lw_okq (⟨"DanceWineModel", "draw", "(I)I"⟩, 43) := ⟨⟨by decide +kernel, by decide +kernel⟩, List.mem_of_getElem? (i := 1146) (by decide +kernel), List.mem_of_getElem? (i := 1579) (by decide +kernel), List.mem_of_getElem? (i := 1580) (by decide +kernel)⟩
theorem lw_p106 : lw_okq (⟨"DanceWineModel", "findsRow", "(IIII)V"⟩, 43) := ⟨⟨by decide +kernel, by decide +kernel⟩, List.mem_of_getElem? (i := 1146) (by decide +kernel), List.mem_of_getElem? (i := 1591) (by decide +kernel), List.mem_of_getElem? (i := 1592) (by decide +kernel)⟩
theorem lw_p107 : lw_okq (⟨"DanceWineModel", "isAsMany", "(I)Z"⟩, 43) := ⟨⟨by decide +kernel, by decide +kernel⟩, List.mem_of_getElem? (i := 1146) (by decide +kernel), List.mem_of_getElem? (i := 1595) (by decide +kernel), List.mem_of_getElem? (i := 1596) (by decide +kernel)⟩
theorem lw_p108 : lw_okq (⟨"DanceWineModel", "isOrder", "(I)Z"⟩, 43) := ⟨⟨by decide +kernel, by decide +kernel⟩, List.mem_of_getElem? (i := 1146) (by decide +kernel), List.mem_of_getElem? (i := 1603) (by decide +kernel), List.mem_of_getElem? (i := 1604) (by decide +kernel)⟩
theorem lw_p109 : lw_okq (⟨"DanceWineModel", "sends", "()I"⟩, 43) := ⟨⟨by decide +kernel, by decide +kernel⟩, List.mem_of_getElem? (i := 1146) (by decide +kernel), List.mem_of_getElem? (i := 1607) (by decide +kernel), List.mem_of_getElem? (i := 1608) (by decide +kernel)⟩
theorem lw_p110 : lw_okq (⟨"DanceWineModel", "triesOrder", "(II)V"⟩, 43) := ⟨⟨by decide +kernel, by decide +kernel⟩, List.mem_of_getElem? (i := 1146) (by decide +kernel), List.mem_of_getElem? (i := 1615) (by decide +kernel), List.mem_of_getElem? (i := 1616) (by decide +kernel)⟩
theorem lw_p111 : lw_okq (⟨"DanceWineModel", "findServed", "(IIIII)Z"⟩, 43) := ⟨⟨by decide +kernel, by decide +kernel⟩, List.mem_of_getElem? (i := 1146) (by decide +kernel), List.mem_of_getElem? (i := 1626) (by decide +kernel), List.mem_of_getElem? (i := 1627) (by decide +kernel)⟩
def lw_privs_7 : List (MethodName × Nat) := [(⟨"DanceWineModel", "keeps", "()V"⟩, 43), (⟨"DanceWineModel", "copies", "(III)V"⟩, 43), (⟨"DanceWineModel", "walks", "(IZ)V"⟩, 43), (⟨"DanceWineModel", "starts", "(I)V"⟩, 43), (⟨"DanceWineModel", "takesStep", "(IIZ)V"⟩, 43), (⟨"DanceWineModel", "isFree", "(IIIZ)Z"⟩, 43), (⟨"DanceWineModel", "isIn", "(II)Z"⟩, 43), (⟨"DanceWineModel", "cellNow", "()I"⟩, 43), (⟨"DanceWineModel", "dances", "(I)I"⟩, 43), (⟨"DanceWineModel", "draw", "(I)I"⟩, 43), (⟨"DanceWineModel", "findsRow", "(IIII)V"⟩, 43), (⟨"DanceWineModel", "isAsMany", "(I)Z"⟩, 43), (⟨"DanceWineModel", "isOrder", "(I)Z"⟩, 43), (⟨"DanceWineModel", "sends", "()I"⟩, 43), (⟨"DanceWineModel", "triesOrder", "(II)V"⟩, 43), (⟨"DanceWineModel", "findServed", "(IIIII)Z"⟩, 43)]
theorem lw_r7 : ∀ q ∈ lw_privs_7, lw_okq q := List.forall_mem_cons.mpr ⟨lw_p96, List.forall_mem_cons.mpr ⟨lw_p97, List.forall_mem_cons.mpr ⟨lw_p98, List.forall_mem_cons.mpr ⟨lw_p99, List.forall_mem_cons.mpr ⟨lw_p100, List.forall_mem_cons.mpr ⟨lw_p101, List.forall_mem_cons.mpr ⟨lw_p102, List.forall_mem_cons.mpr ⟨lw_p103, List.forall_mem_cons.mpr ⟨lw_p104, List.forall_mem_cons.mpr ⟨lw_p105, List.forall_mem_cons.mpr ⟨lw_p106, List.forall_mem_cons.mpr ⟨lw_p107, List.forall_mem_cons.mpr ⟨lw_p108, List.forall_mem_cons.mpr ⟨lw_p109, List.forall_mem_cons.mpr ⟨lw_p110, List.forall_mem_cons.mpr ⟨lw_p111, fun _ h => absurd h List.not_mem_nil⟩⟩⟩⟩⟩⟩⟩⟩⟩⟩⟩⟩⟩⟩⟩⟩
theorem lw_p112 : lw_okq (⟨"DanceWineModel", "serves", "(IIIIII)V"⟩, 43) := ⟨⟨by decide +kernel, by decide +kernel⟩, List.mem_of_getElem? (i := 1146) (by decide +kernel), List.mem_of_getElem? (i := 1630) (by decide +kernel), List.mem_of_getElem? (i := 1631) (by decide +kernel)⟩
theorem lw_p113 : lw_okq (⟨"DanceWineModel", "seen", "()I"⟩, 43) := ⟨⟨by decide +kernel, by decide +kernel⟩, List.mem_of_getElem? (i := 1146) (by decide +kernel), List.mem_of_getElem? (i := 1658) (by decide +kernel), List.mem_of_getElem? (i := 1659) (by decide +kernel)⟩
theorem lw_p114 : lw_okq (⟨"DanceWineModel", "reads", "(II)I"⟩, 43) := ⟨⟨by decide +kernel, by decide +kernel⟩, List.mem_of_getElem? (i := 1146) (by decide +kernel), List.mem_of_getElem? (i := 1662) (by decide +kernel), List.mem_of_getElem? (i := 1663) (by decide +kernel)⟩
theorem lw_p115 : lw_okq (⟨"DanceWineModel", "isRead", "(II)Z"⟩, 43) := ⟨⟨by decide +kernel, by decide +kernel⟩, List.mem_of_getElem? (i := 1146) (by decide +kernel), List.mem_of_getElem? (i := 1666) (by decide +kernel), List.mem_of_getElem? (i := 1667) (by decide +kernel)⟩
def lw_privs_8 : List (MethodName × Nat) := [(⟨"DanceWineModel", "serves", "(IIIIII)V"⟩, 43), (⟨"DanceWineModel", "seen", "()I"⟩, 43), (⟨"DanceWineModel", "reads", "(II)I"⟩, 43), (⟨"DanceWineModel", "isRead", "(II)Z"⟩, 43)]
theorem lw_r8 : ∀ q ∈ lw_privs_8, lw_okq q := List.forall_mem_cons.mpr ⟨lw_p112, List.forall_mem_cons.mpr ⟨lw_p113, List.forall_mem_cons.mpr ⟨lw_p114, List.forall_mem_cons.mpr ⟨lw_p115, fun _ h => absurd h List.not_mem_nil⟩⟩⟩⟩
def lw_privs : List (MethodName × Nat) := lw_privs_1 ++ (lw_privs_2 ++ (lw_privs_3 ++ (lw_privs_4 ++ (lw_privs_5 ++ (lw_privs_6 ++ (lw_privs_7 ++ (lw_privs_8)))))))
def lw_tbl : List Cond := k2_sels lw_privs ++ tables_1
theorem lw_privs_ok : ∀ q ∈ lw_privs, lw_okq q := by
  show ∀ q ∈ lw_privs_1 ++ (lw_privs_2 ++ (lw_privs_3 ++ (lw_privs_4 ++ (lw_privs_5 ++ (lw_privs_6 ++ (lw_privs_7 ++ (lw_privs_8))))))), lw_okq q
  exact List.forall_mem_append.mpr ⟨lw_r1, List.forall_mem_append.mpr ⟨lw_r2, List.forall_mem_append.mpr ⟨lw_r3, List.forall_mem_append.mpr ⟨lw_r4, List.forall_mem_append.mpr ⟨lw_r5, List.forall_mem_append.mpr ⟨lw_r6, List.forall_mem_append.mpr ⟨lw_r7, lw_r8⟩⟩⟩⟩⟩⟩⟩
/-! the classes, their fields, the methods -/
def RX0 : String := "DanceWine$Cellar"
def TX0 : u_T := fun k => match k with
  | 0 => ("DanceWine$Cellar", "wide", "I", false)
  | 1 => ("DanceWine$Cellar", "deep", "I", false)
  | 2 => ("DanceWine$Cellar", "pillars", "J", false)
  | 3 => ("DanceWine$Cellar", "carriage", "I", false)
  | 4 => ("DanceWine$Cellar", "dances", "I", false)
  | 5 => ("DanceWine$Cellar", "danceLength", "[I", true)
  | 6 => ("DanceWine$Cellar", "danceSteps", "[I", true)
  | 7 => ("DanceWine$Cellar", "wines", "I", false)
  | 8 => ("DanceWine$Cellar", "wineGlasses", "[I", true)
  | 9 => ("DanceWine$Cellar", "wineLength", "[I", true)
  | 10 => ("DanceWine$Cellar", "wineSteps", "[I", true)
  | 11 => ("DanceWine$Cellar", "guests", "I", false)
  | 12 => ("DanceWine$Cellar", "kind", "[I", true)
  | 13 => ("DanceWine$Cellar", "home", "[I", true)
  | 14 => ("DanceWine$Cellar", "age", "[I", true)
  | _ => ("DanceWine$Cellar", "law", "LDanceWine$Law;", true)
def RX1 : String := "DanceWine$Evening"
def TX1 : u_T := fun k => match k with
  | 0 => ("DanceWine$Evening", "left", "[I", true)
  | 1 => ("DanceWine$Evening", "had", "[I", true)
  | 2 => ("DanceWine$Evening", "glasses", "[I", true)
  | _ => ("DanceWine$Evening", "seen", "[I", true)
def RX2 : String := "DanceWine$Floor"
def TX2 : u_T := fun k => match k with
  | 0 => ("DanceWine$Floor", "pose", "[I", true)
  | 1 => ("DanceWine$Floor", "beats", "I", false)
  | _ => ("DanceWine$Floor", "seed", "J", false)
def RX3 : String := "DanceWine$Law"
def TX3 : u_T := fun k => match k with
  | 0 => ("DanceWine$Law", "code", "[I", true)
  | 1 => ("DanceWine$Law", "length", "I", false)
  | 2 => ("DanceWine$Law", "stack", "[I", true)
  | 3 => ("DanceWine$Law", "waits", "I", false)
  | 4 => ("DanceWine$Law", "depth", "I", false)
  | _ => ("DanceWine$Law", "at", "I", false)
def RX4 : String := "DanceWine$Past"
def TX4 : u_T := fun k => match k with
  | 0 => ("DanceWine$Past", "acts", "[I", true)
  | _ => ("DanceWine$Past", "many", "I", false)
def RX5 : String := "DanceWine$Reader"
def TX5 : u_T := fun k => match k with
  | 0 => ("DanceWine$Reader", "tokens", "LDanceWine$Tokens;", true)
  | 1 => ("DanceWine$Reader", "into", "LDanceWine$Cellar;", false)
  | 2 => ("DanceWine$Reader", "at", "I", false)
  | 3 => ("DanceWine$Reader", "fault", "I", false)
  | 4 => ("DanceWine$Reader", "names", "[J", true)
  | 5 => ("DanceWine$Reader", "named", "I", false)
  | 6 => ("DanceWine$Reader", "danceNames", "[J", true)
  | 7 => ("DanceWine$Reader", "guestCells", "J", false)
  | 8 => ("DanceWine$Reader", "carriageTold", "Z", false)
  | 9 => ("DanceWine$Reader", "lawTold", "Z", false)
  | 10 => ("DanceWine$Reader", "number", "I", false)
  | _ => ("DanceWine$Reader", "cell", "I", false)
def RX6 : String := "DanceWine$Reading"
def TX6 : u_T := fun k => match k with
  | 0 => ("DanceWine$Reading", "hits", "I", false)
  | 1 => ("DanceWine$Reading", "wantedRow", "I", false)
  | 2 => ("DanceWine$Reading", "wanted", "I", false)
  | 3 => ("DanceWine$Reading", "steps", "I", false)
  | 4 => ("DanceWine$Reading", "cellar", "LDanceWine$Cellar;", false)
  | 5 => ("DanceWine$Reading", "seen", "[I", false)
  | _ => ("DanceWine$Reading", "pose", "[I", true)
def RX7 : String := "DanceWine$Routine"
def TX7 : u_T := fun k => match k with
  | 0 => ("DanceWine$Routine", "steps", "[I", true)
  | 1 => ("DanceWine$Routine", "length", "I", false)
  | 2 => ("DanceWine$Routine", "lost", "I", false)
  | 3 => ("DanceWine$Routine", "alone", "I", false)
  | 4 => ("DanceWine$Routine", "entered", "J", false)
  | 5 => ("DanceWine$Routine", "kind", "I", false)
  | _ => ("DanceWine$Routine", "home", "I", false)
def RX8 : String := "DanceWine$Rows"
def TX8 : u_T := fun k => match k with
  | 0 => ("DanceWine$Rows", "row", "[I", true)
  | 1 => ("DanceWine$Rows", "many", "I", false)
  | 2 => ("DanceWine$Rows", "hits", "I", false)
  | 3 => ("DanceWine$Rows", "known", "Z", false)
  | 4 => ("DanceWine$Rows", "shortestMany", "I", false)
  | 5 => ("DanceWine$Rows", "cell", "I", false)
  | 6 => ("DanceWine$Rows", "cellar", "LDanceWine$Cellar;", false)
  | 7 => ("DanceWine$Rows", "guest", "I", false)
  | 8 => ("DanceWine$Rows", "left", "[I", true)
  | 9 => ("DanceWine$Rows", "lost", "[Z", true)
  | 10 => ("DanceWine$Rows", "behind", "[S", true)
  | _ => ("DanceWine$Rows", "reached", "[I", true)
def RX9 : String := "DanceWine$Sending"
def TX9 : u_T := fun k => match k with
  | 0 => ("DanceWine$Sending", "known", "Z", false)
  | 1 => ("DanceWine$Sending", "bestGone", "I", false)
  | 2 => ("DanceWine$Sending", "bestOrder", "I", false)
  | 3 => ("DanceWine$Sending", "cellar", "LDanceWine$Cellar;", false)
  | 4 => ("DanceWine$Sending", "routines", "[LDanceWine$Routine;", false)
  | 5 => ("DanceWine$Sending", "cell", "[I", true)
  | _ => ("DanceWine$Sending", "gone", "I", false)
def RX10 : String := "DanceWine$Tokens"
def TX10 : u_T := fun k => match k with
  | 0 => ("DanceWine$Tokens", "sort", "[I", true)
  | 1 => ("DanceWine$Tokens", "place", "[I", true)
  | 2 => ("DanceWine$Tokens", "value", "[J", true)
  | _ => ("DanceWine$Tokens", "many", "I", false)
def RX11 : String := "DanceWine"
def TX11 : u_T := fun k => match k with
  | 0 => ("DanceWine", "tape", "[C", true)
  | 1 => ("DanceWine", "signs", "I", false)
  | 2 => ("DanceWine", "now", "LDanceWine$Cellar;", false)
  | 3 => ("DanceWine", "spare", "LDanceWine$Cellar;", false)
  | 4 => ("DanceWine", "reader", "LDanceWine$Reader;", true)
  | 5 => ("DanceWine", "evening", "LDanceWine$Evening;", true)
  | 6 => ("DanceWine", "past", "LDanceWine$Past;", true)
  | 7 => ("DanceWine", "marks", "[LDanceWine$Evening;", true)
  | 8 => ("DanceWine", "laid", "[Z", true)
  | 9 => ("DanceWine", "routines", "[LDanceWine$Routine;", true)
  | 10 => ("DanceWine", "stale", "[Z", true)
  | 11 => ("DanceWine", "trial", "LDanceWine$Routine;", true)
  | 12 => ("DanceWine", "oneGlass", "[I", true)
  | 13 => ("DanceWine", "cells", "[I", true)
  | 14 => ("DanceWine", "rows", "LDanceWine$Rows;", true)
  | 15 => ("DanceWine", "floor", "LDanceWine$Floor;", true)
  | 16 => ("DanceWine", "sending", "LDanceWine$Sending;", true)
  | _ => ("DanceWine", "reading", "LDanceWine$Reading;", true)
def RX12 : String := "DanceWineModel"
def TX12 : u_T := fun k => match k with
  | 0 => ("DanceWineModel", "thrown", "I", false)
  | 1 => ("DanceWineModel", "tape", "[I", true)
  | 2 => ("DanceWineModel", "taped", "I", false)
  | 3 => ("DanceWineModel", "size", "I", false)
  | 4 => ("DanceWineModel", "sort", "[I", true)
  | 5 => ("DanceWineModel", "place", "[I", true)
  | 6 => ("DanceWineModel", "value", "[J", true)
  | 7 => ("DanceWineModel", "at", "I", false)
  | 8 => ("DanceWineModel", "fault", "I", false)
  | 9 => ("DanceWineModel", "words", "[J", true)
  | 10 => ("DanceWineModel", "cellars", "[I", true)
  | 11 => ("DanceWineModel", "op", "[I", true)
  | 12 => ("DanceWineModel", "arg", "[I", true)
  | 13 => ("DanceWineModel", "codes", "I", false)
  | 14 => ("DanceWineModel", "names", "[J", true)
  | 15 => ("DanceWineModel", "nameOf", "[I", true)
  | 16 => ("DanceWineModel", "namesMany", "I", false)
  | 17 => ("DanceWineModel", "hasCarriage", "Z", false)
  | 18 => ("DanceWineModel", "factWords", "[I", true)
  | 19 => ("DanceWineModel", "facts", "[I", true)
  | 20 => ("DanceWineModel", "pile", "[I", true)
  | 21 => ("DanceWineModel", "state", "[I", true)
  | 22 => ("DanceWineModel", "undos", "I", false)
  | 23 => ("DanceWineModel", "isMarked", "[Z", true)
  | 24 => ("DanceWineModel", "steps", "[I", true)
  | 25 => ("DanceWineModel", "stepsMany", "I", false)
  | 26 => ("DanceWineModel", "lostMany", "I", false)
  | 27 => ("DanceWineModel", "glasses", "[I", true)
  | 28 => ("DanceWineModel", "x", "I", false)
  | 29 => ("DanceWineModel", "y", "I", false)
  | 30 => ("DanceWineModel", "way", "I", false)
  | 31 => ("DanceWineModel", "cellOf", "[I", true)
  | 32 => ("DanceWineModel", "wayOf", "[I", true)
  | 33 => ("DanceWineModel", "drawn", "J", false)
  | 34 => ("DanceWineModel", "rows", "[I", true)
  | 35 => ("DanceWineModel", "rowMany", "[I", true)
  | 36 => ("DanceWineModel", "bestRow", "[I", true)
  | 37 => ("DanceWineModel", "hasBest", "Z", false)
  | 38 => ("DanceWineModel", "order", "[I", true)
  | 39 => ("DanceWineModel", "mostGone", "I", false)
  | 40 => ("DanceWineModel", "bestOrder", "I", false)
  | 41 => ("DanceWineModel", "servedMany", "I", false)
  | _ => ("DanceWineModel", "askedMany", "I", false)
abbrev vwCl : List vw_C := [(RX0, TX0, 16), (RX1, TX1, 4), (RX2, TX2, 3), (RX3, TX3, 6), (RX4, TX4, 2), (RX5, TX5, 12), (RX6, TX6, 7), (RX7, TX7, 7), (RX8, TX8, 12), (RX9, TX9, 7), (RX10, TX10, 4), (RX11, TX11, 18), (RX12, TX12, 43)]
def ftys : List (List FieldType) := [[.int, .int, .long, .int, .int, .array .int, .array .int, .int, .array .int, .array .int, .array .int, .int, .array .int, .array .int, .array .int, .object "DanceWine$Law"],
  [.array .int, .array .int, .array .int, .array .int],
  [.array .int, .int, .long],
  [.array .int, .int, .array .int, .int, .int, .int],
  [.array .int, .int],
  [.object "DanceWine$Tokens", .object "DanceWine$Cellar", .int, .int, .array .long, .int, .array .long, .long, .boolean, .boolean, .int, .int],
  [.int, .int, .int, .int, .object "DanceWine$Cellar", .array .int, .array .int],
  [.array .int, .int, .int, .int, .long, .int, .int],
  [.array .int, .int, .int, .boolean, .int, .int, .object "DanceWine$Cellar", .int, .array .int, .array .boolean, .array .short, .array .int],
  [.boolean, .int, .int, .object "DanceWine$Cellar", .array (.object "DanceWine$Routine"), .array .int, .int],
  [.array .int, .array .int, .array .long, .int],
  [.array .char, .int, .object "DanceWine$Cellar", .object "DanceWine$Cellar", .object "DanceWine$Reader", .object "DanceWine$Evening", .object "DanceWine$Past", .array (.object "DanceWine$Evening"), .array .boolean, .array (.object "DanceWine$Routine"), .array .boolean, .object "DanceWine$Routine", .array .int, .array .int, .object "DanceWine$Rows", .object "DanceWine$Floor", .object "DanceWine$Sending", .object "DanceWine$Reading"],
  [.int, .array .int, .int, .int, .array .int, .array .int, .array .long, .int, .int, .array .long, .array .int, .array .int, .array .int, .int, .array .long, .array .int, .int, .boolean, .array .int, .array .int, .array .int, .array .int, .int, .array .boolean, .array .int, .int, .int, .array .int, .int, .int, .int, .array .int, .array .int, .long, .array .int, .array .int, .array .int, .boolean, .array .int, .int, .int, .int, .int]]
def fty (ci k : Nat) : FieldType := (ftys.getD ci []).getD k .int
def nfl (ci : Nat) : Nat := (ftys.getD ci []).length
def RN : List String := ["DanceWine$Cellar", "DanceWine$Evening", "DanceWine$Floor", "DanceWine$Law", "DanceWine$Past", "DanceWine$Reader", "DanceWine$Reading", "DanceWine$Routine", "DanceWine$Rows", "DanceWine$Sending", "DanceWine$Tokens", "DanceWine", "DanceWineModel", "DanceWineLaw", "java/util/Arrays", "java/lang/Math", "java/lang/Integer"]
def rn (oc : Nat) : String := RN.getD oc ""
abbrev MI : Type := Nat × MethodName × ByteArray × Nat × Option FieldType
def Ts : List Cond := lw_tbl.filter goodWord
theorem inT1 : ∀ w ∈ tables_1_1, w ∈ lw_tbl := fun w h => List.mem_append_right _ (show w ∈ tables_1 from List.mem_append_left _ h)
theorem inT2 : ∀ w ∈ tables_1_2, w ∈ lw_tbl := fun w h => List.mem_append_right _ (show w ∈ tables_1 from List.mem_append_right _ (List.mem_append_left _ h))
theorem inT3 : ∀ w ∈ tables_1_3, w ∈ lw_tbl := fun w h => List.mem_append_right _ (show w ∈ tables_1 from List.mem_append_right _ (List.mem_append_right _ (List.mem_append_left _ h)))
theorem inT4 : ∀ w ∈ tables_1_4, w ∈ lw_tbl := fun w h => List.mem_append_right _ (show w ∈ tables_1 from List.mem_append_right _ (List.mem_append_right _ (List.mem_append_right _ (List.mem_append_left _ h))))
theorem inT5 : ∀ w ∈ tables_1_5, w ∈ lw_tbl := fun w h => List.mem_append_right _ (show w ∈ tables_1 from List.mem_append_right _ (List.mem_append_right _ (List.mem_append_right _ (List.mem_append_right _ (List.mem_append_left _ h)))))
theorem inT6 : ∀ w ∈ tables_1_6, w ∈ lw_tbl := fun w h => List.mem_append_right _ (show w ∈ tables_1 from List.mem_append_right _ (List.mem_append_right _ (List.mem_append_right _ (List.mem_append_right _ (List.mem_append_right _ (List.mem_append_left _ h))))))
theorem inT7 : ∀ w ∈ tables_1_7, w ∈ lw_tbl := fun w h => List.mem_append_right _ (show w ∈ tables_1 from List.mem_append_right _ (List.mem_append_right _ (List.mem_append_right _ (List.mem_append_right _ (List.mem_append_right _ (List.mem_append_right _ (List.mem_append_left _ h)))))))
theorem inT8 : ∀ w ∈ tables_1_8, w ∈ lw_tbl := fun w h => List.mem_append_right _ (show w ∈ tables_1 from List.mem_append_right _ (List.mem_append_right _ (List.mem_append_right _ (List.mem_append_right _ (List.mem_append_right _ (List.mem_append_right _ (List.mem_append_right _ (h))))))))
theorem tsI {w : Cond} (h : w ∈ lw_tbl) (g : goodWord w = true) : w ∈ Ts := List.mem_filter.mpr ⟨h, g⟩
theorem tsG : GoodIn Ts Ts := fun w h => ⟨h, good_of_word (List.mem_filter.mp h).2⟩
theorem finX0 : ∀ w ∈ u_ws RX0 TX0 16, w ∈ Ts := fun w h => by
  have e : u_ws RX0 TX0 16 = [137, 139, 141, 143, 145, 147, 149, 151, 153, 155, 157, 159, 161, 163, 165, 167].filterMap (fun i => tables_1[i]?) := by decide +kernel
  have g : (u_ws RX0 TX0 16).all goodWord = true := by decide +kernel
  refine tsI ?_ (List.all_eq_true.mp g w h)
  rw [e] at h
  obtain ⟨i, -, hi⟩ := List.mem_filterMap.mp h
  exact List.mem_append_right _ (List.mem_of_getElem? hi)
theorem fnmX0 : ∀ a, a < 16 → ∀ b, b < 16 → a ≠ b → (TX0 a).2.1 ≠ (TX0 b).2.1 := by decide +kernel
theorem ftyX0 : ∀ k, k < 16 → parseFieldDescriptor (TX0 k).2.2.1 = some (fty 0 k) := by decide +kernel
theorem finX1 : ∀ w ∈ u_ws RX1 TX1 4, w ∈ Ts := fun w h => by
  have e : u_ws RX1 TX1 4 = [257, 259, 261, 263].filterMap (fun i => tables_1[i]?) := by decide +kernel
  have g : (u_ws RX1 TX1 4).all goodWord = true := by decide +kernel
  refine tsI ?_ (List.all_eq_true.mp g w h)
  rw [e] at h
  obtain ⟨i, -, hi⟩ := List.mem_filterMap.mp h
  exact List.mem_append_right _ (List.mem_of_getElem? hi)
theorem fnmX1 : ∀ a, a < 4 → ∀ b, b < 4 → a ≠ b → (TX1 a).2.1 ≠ (TX1 b).2.1 := by decide +kernel
theorem ftyX1 : ∀ k, k < 4 → parseFieldDescriptor (TX1 k).2.2.1 = some (fty 1 k) := by decide +kernel
theorem finX2 : ∀ w ∈ u_ws RX2 TX2 3, w ∈ Ts := fun w h => by
  have e : u_ws RX2 TX2 3 = [375, 377, 379].filterMap (fun i => tables_1[i]?) := by decide +kernel
  have g : (u_ws RX2 TX2 3).all goodWord = true := by decide +kernel
  refine tsI ?_ (List.all_eq_true.mp g w h)
  rw [e] at h
  obtain ⟨i, -, hi⟩ := List.mem_filterMap.mp h
  exact List.mem_append_right _ (List.mem_of_getElem? hi)
theorem fnmX2 : ∀ a, a < 3 → ∀ b, b < 3 → a ≠ b → (TX2 a).2.1 ≠ (TX2 b).2.1 := by decide +kernel
theorem ftyX2 : ∀ k, k < 3 → parseFieldDescriptor (TX2 k).2.2.1 = some (fty 2 k) := by decide +kernel
theorem finX3 : ∀ w ∈ u_ws RX3 TX3 6, w ∈ Ts := fun w h => by
  have e : u_ws RX3 TX3 6 = [53, 55, 57, 59, 61, 63].filterMap (fun i => tables_1[i]?) := by decide +kernel
  have g : (u_ws RX3 TX3 6).all goodWord = true := by decide +kernel
  refine tsI ?_ (List.all_eq_true.mp g w h)
  rw [e] at h
  obtain ⟨i, -, hi⟩ := List.mem_filterMap.mp h
  exact List.mem_append_right _ (List.mem_of_getElem? hi)
theorem fnmX3 : ∀ a, a < 6 → ∀ b, b < 6 → a ≠ b → (TX3 a).2.1 ≠ (TX3 b).2.1 := by decide +kernel
theorem ftyX3 : ∀ k, k < 6 → parseFieldDescriptor (TX3 k).2.2.1 = some (fty 3 k) := by decide +kernel
theorem finX4 : ∀ w ∈ u_ws RX4 TX4 2, w ∈ Ts := fun w h => by
  have e : u_ws RX4 TX4 2 = [275, 277].filterMap (fun i => tables_1[i]?) := by decide +kernel
  have g : (u_ws RX4 TX4 2).all goodWord = true := by decide +kernel
  refine tsI ?_ (List.all_eq_true.mp g w h)
  rw [e] at h
  obtain ⟨i, -, hi⟩ := List.mem_filterMap.mp h
  exact List.mem_append_right _ (List.mem_of_getElem? hi)
theorem fnmX4 : ∀ a, a < 2 → ∀ b, b < 2 → a ≠ b → (TX4 a).2.1 ≠ (TX4 b).2.1 := by decide +kernel
theorem ftyX4 : ∀ k, k < 2 → parseFieldDescriptor (TX4 k).2.2.1 = some (fty 4 k) := by decide +kernel
theorem finX5 : ∀ w ∈ u_ws RX5 TX5 12, w ∈ Ts := fun w h => by
  have e : u_ws RX5 TX5 12 = [215, 217, 219, 221, 223, 225, 227, 229, 231, 233, 235, 237].filterMap (fun i => tables_1[i]?) := by decide +kernel
  have g : (u_ws RX5 TX5 12).all goodWord = true := by decide +kernel
  refine tsI ?_ (List.all_eq_true.mp g w h)
  rw [e] at h
  obtain ⟨i, -, hi⟩ := List.mem_filterMap.mp h
  exact List.mem_append_right _ (List.mem_of_getElem? hi)
theorem fnmX5 : ∀ a, a < 12 → ∀ b, b < 12 → a ≠ b → (TX5 a).2.1 ≠ (TX5 b).2.1 := by decide +kernel
theorem ftyX5 : ∀ k, k < 12 → parseFieldDescriptor (TX5 k).2.2.1 = some (fty 5 k) := by decide +kernel
theorem finX6 : ∀ w ∈ u_ws RX6 TX6 7, w ∈ Ts := fun w h => by
  have e : u_ws RX6 TX6 7 = [428, 430, 432, 434, 436, 438, 440].filterMap (fun i => tables_1[i]?) := by decide +kernel
  have g : (u_ws RX6 TX6 7).all goodWord = true := by decide +kernel
  refine tsI ?_ (List.all_eq_true.mp g w h)
  rw [e] at h
  obtain ⟨i, -, hi⟩ := List.mem_filterMap.mp h
  exact List.mem_append_right _ (List.mem_of_getElem? hi)
theorem fnmX6 : ∀ a, a < 7 → ∀ b, b < 7 → a ≠ b → (TX6 a).2.1 ≠ (TX6 b).2.1 := by decide +kernel
theorem ftyX6 : ∀ k, k < 7 → parseFieldDescriptor (TX6 k).2.2.1 = some (fty 6 k) := by decide +kernel
theorem finX7 : ∀ w ∈ u_ws RX7 TX7 7, w ∈ Ts := fun w h => by
  have e : u_ws RX7 TX7 7 = [300, 302, 304, 306, 308, 310, 312].filterMap (fun i => tables_1[i]?) := by decide +kernel
  have g : (u_ws RX7 TX7 7).all goodWord = true := by decide +kernel
  refine tsI ?_ (List.all_eq_true.mp g w h)
  rw [e] at h
  obtain ⟨i, -, hi⟩ := List.mem_filterMap.mp h
  exact List.mem_append_right _ (List.mem_of_getElem? hi)
theorem fnmX7 : ∀ a, a < 7 → ∀ b, b < 7 → a ≠ b → (TX7 a).2.1 ≠ (TX7 b).2.1 := by decide +kernel
theorem ftyX7 : ∀ k, k < 7 → parseFieldDescriptor (TX7 k).2.2.1 = some (fty 7 k) := by decide +kernel
theorem finX8 : ∀ w ∈ u_ws RX8 TX8 12, w ∈ Ts := fun w h => by
  have e : u_ws RX8 TX8 12 = [338, 340, 342, 344, 346, 348, 350, 352, 354, 356, 358, 360].filterMap (fun i => tables_1[i]?) := by decide +kernel
  have g : (u_ws RX8 TX8 12).all goodWord = true := by decide +kernel
  refine tsI ?_ (List.all_eq_true.mp g w h)
  rw [e] at h
  obtain ⟨i, -, hi⟩ := List.mem_filterMap.mp h
  exact List.mem_append_right _ (List.mem_of_getElem? hi)
theorem fnmX8 : ∀ a, a < 12 → ∀ b, b < 12 → a ≠ b → (TX8 a).2.1 ≠ (TX8 b).2.1 := by decide +kernel
theorem ftyX8 : ∀ k, k < 12 → parseFieldDescriptor (TX8 k).2.2.1 = some (fty 8 k) := by decide +kernel
theorem finX9 : ∀ w ∈ u_ws RX9 TX9 7, w ∈ Ts := fun w h => by
  have e : u_ws RX9 TX9 7 = [398, 400, 402, 404, 406, 408, 410].filterMap (fun i => tables_1[i]?) := by decide +kernel
  have g : (u_ws RX9 TX9 7).all goodWord = true := by decide +kernel
  refine tsI ?_ (List.all_eq_true.mp g w h)
  rw [e] at h
  obtain ⟨i, -, hi⟩ := List.mem_filterMap.mp h
  exact List.mem_append_right _ (List.mem_of_getElem? hi)
theorem fnmX9 : ∀ a, a < 7 → ∀ b, b < 7 → a ≠ b → (TX9 a).2.1 ≠ (TX9 b).2.1 := by decide +kernel
theorem ftyX9 : ∀ k, k < 7 → parseFieldDescriptor (TX9 k).2.2.1 = some (fty 9 k) := by decide +kernel
theorem finX10 : ∀ w ∈ u_ws RX10 TX10 4, w ∈ Ts := fun w h => by
  have e : u_ws RX10 TX10 4 = [193, 195, 197, 199].filterMap (fun i => tables_1[i]?) := by decide +kernel
  have g : (u_ws RX10 TX10 4).all goodWord = true := by decide +kernel
  refine tsI ?_ (List.all_eq_true.mp g w h)
  rw [e] at h
  obtain ⟨i, -, hi⟩ := List.mem_filterMap.mp h
  exact List.mem_append_right _ (List.mem_of_getElem? hi)
theorem fnmX10 : ∀ a, a < 4 → ∀ b, b < 4 → a ≠ b → (TX10 a).2.1 ≠ (TX10 b).2.1 := by decide +kernel
theorem ftyX10 : ∀ k, k < 4 → parseFieldDescriptor (TX10 k).2.2.1 = some (fty 10 k) := by decide +kernel
theorem finX11 : ∀ w ∈ u_ws RX11 TX11 18, w ∈ Ts := fun w h => by
  have e : u_ws RX11 TX11 18 = [461, 463, 465, 467, 469, 471, 473, 475, 477, 479, 481, 483, 485, 487, 489, 491, 493, 495].filterMap (fun i => tables_1[i]?) := by decide +kernel
  have g : (u_ws RX11 TX11 18).all goodWord = true := by decide +kernel
  refine tsI ?_ (List.all_eq_true.mp g w h)
  rw [e] at h
  obtain ⟨i, -, hi⟩ := List.mem_filterMap.mp h
  exact List.mem_append_right _ (List.mem_of_getElem? hi)
theorem fnmX11 : ∀ a, a < 18 → ∀ b, b < 18 → a ≠ b → (TX11 a).2.1 ≠ (TX11 b).2.1 := by decide +kernel
theorem ftyX11 : ∀ k, k < 18 → parseFieldDescriptor (TX11 k).2.2.1 = some (fty 11 k) := by decide +kernel
theorem finX12 : ∀ w ∈ u_ws RX12 TX12 43, w ∈ Ts := fun w h => by
  have e : u_ws RX12 TX12 43 = [1224, 1226, 1228, 1230, 1232, 1234, 1236, 1238, 1240, 1242, 1244, 1246, 1248, 1250, 1252, 1254, 1256, 1258, 1260, 1262, 1264, 1266, 1268, 1270, 1272, 1274, 1276, 1278, 1280, 1282, 1284, 1286, 1288, 1290, 1292, 1294, 1296, 1298, 1300, 1302, 1304, 1306, 1308].filterMap (fun i => tables_1[i]?) := by decide +kernel
  have g : (u_ws RX12 TX12 43).all goodWord = true := by decide +kernel
  refine tsI ?_ (List.all_eq_true.mp g w h)
  rw [e] at h
  obtain ⟨i, -, hi⟩ := List.mem_filterMap.mp h
  exact List.mem_append_right _ (List.mem_of_getElem? hi)
theorem fnmX12 : ∀ a, a < 43 → ∀ b, b < 43 → a ≠ b → (TX12 a).2.1 ≠ (TX12 b).2.1 := by decide +kernel
theorem ftyX12 : ∀ k, k < 43 → parseFieldDescriptor (TX12 k).2.2.1 = some (fty 12 k) := by decide +kernel
theorem clOK : ∀ (ci : Nat) (q : vw_C), vwCl[ci]? = some q → (∀ w ∈ u_ws q.1 q.2.1 q.2.2, w ∈ Ts) ∧ (∀ a, a < q.2.2 → ∀ b, b < q.2.2 → a ≠ b → (q.2.1 a).2.1 ≠ (q.2.1 b).2.1) ∧ (∀ k, k < q.2.2 → parseFieldDescriptor (q.2.1 k).2.2.1 = some (fty ci k)) ∧ q.2.2 = nfl ci := by
  intro ci q h
  match ci, h with
  | 0, h => cases h; exact ⟨finX0, fnmX0, ftyX0, rfl⟩
  | 1, h => cases h; exact ⟨finX1, fnmX1, ftyX1, rfl⟩
  | 2, h => cases h; exact ⟨finX2, fnmX2, ftyX2, rfl⟩
  | 3, h => cases h; exact ⟨finX3, fnmX3, ftyX3, rfl⟩
  | 4, h => cases h; exact ⟨finX4, fnmX4, ftyX4, rfl⟩
  | 5, h => cases h; exact ⟨finX5, fnmX5, ftyX5, rfl⟩
  | 6, h => cases h; exact ⟨finX6, fnmX6, ftyX6, rfl⟩
  | 7, h => cases h; exact ⟨finX7, fnmX7, ftyX7, rfl⟩
  | 8, h => cases h; exact ⟨finX8, fnmX8, ftyX8, rfl⟩
  | 9, h => cases h; exact ⟨finX9, fnmX9, ftyX9, rfl⟩
  | 10, h => cases h; exact ⟨finX10, fnmX10, ftyX10, rfl⟩
  | 11, h => cases h; exact ⟨finX11, fnmX11, ftyX11, rfl⟩
  | 12, h => cases h; exact ⟨finX12, fnmX12, ftyX12, rfl⟩
  | (n + 13), h => exact absurd h (by simp [vwCl])
abbrev cX0_init : ByteArray := prog_2_method_1_code
def yX0_init : MethodName := ⟨"DanceWine$Cellar", "<init>", "()V"⟩
def mX0_init : MI := (0, yX0_init, cX0_init, 1, none)
theorem kX0_init : Cond.code yX0_init cX0_init 1 none ∈ Ts := tsI (inT1 _ (List.mem_of_getElem? (i := 38) rfl)) rfl
abbrev cX0_clear : ByteArray := prog_2_method_2_code
def yX0_clear : MethodName := ⟨"DanceWine$Cellar", "clear", "()V"⟩
def mX0_clear : MI := (0, yX0_clear, cX0_clear, 1, none)
theorem kX0_clear : Cond.code yX0_clear cX0_clear 1 none ∈ Ts := tsI (inT3 _ (List.mem_of_getElem? (i := 109) rfl)) rfl
abbrev cX0_isDance : ByteArray := prog_2_method_3_code
def yX0_isDance : MethodName := ⟨"DanceWine$Cellar", "isDance", "(I)Z"⟩
def mX0_isDance : MI := (0, yX0_isDance, cX0_isDance, 2, (some .boolean))
theorem kX0_isDance : Cond.code yX0_isDance cX0_isDance 2 (some .boolean) ∈ Ts := tsI (inT5 _ (List.mem_of_getElem? (i := 43) rfl)) rfl
abbrev cX0_isWine : ByteArray := prog_2_method_4_code
def yX0_isWine : MethodName := ⟨"DanceWine$Cellar", "isWine", "(I)Z"⟩
def mX0_isWine : MI := (0, yX0_isWine, cX0_isWine, 2, (some .boolean))
theorem kX0_isWine : Cond.code yX0_isWine cX0_isWine 2 (some .boolean) ∈ Ts := tsI (inT4 _ (List.mem_of_getElem? (i := 31) rfl)) rfl
abbrev cX0_isGuest : ByteArray := prog_2_method_5_code
def yX0_isGuest : MethodName := ⟨"DanceWine$Cellar", "isGuest", "(I)Z"⟩
def mX0_isGuest : MI := (0, yX0_isGuest, cX0_isGuest, 2, (some .boolean))
theorem kX0_isGuest : Cond.code yX0_isGuest cX0_isGuest 2 (some .boolean) ∈ Ts := tsI (inT4 _ (List.mem_of_getElem? (i := 43) rfl)) rfl
abbrev cX0_isCell : ByteArray := prog_2_method_6_code
def yX0_isCell : MethodName := ⟨"DanceWine$Cellar", "isCell", "(II)Z"⟩
def mX0_isCell : MI := (0, yX0_isCell, cX0_isCell, 3, (some .boolean))
theorem kX0_isCell : Cond.code yX0_isCell cX0_isCell 3 (some .boolean) ∈ Ts := tsI (inT4 _ (List.mem_of_getElem? (i := 82) rfl)) rfl
abbrev cX0_after : ByteArray := prog_2_method_7_code
def yX0_after : MethodName := ⟨"DanceWine$Cellar", "after", "(IIIJ)I"⟩
def mX0_after : MI := (0, yX0_after, cX0_after, 10, (some .int))
theorem kX0_after : Cond.code yX0_after cX0_after 10 (some .int) ∈ Ts := tsI (inT4 _ (List.mem_of_getElem? (i := 78) rfl)) rfl
abbrev cX0_loses : ByteArray := prog_2_method_8_code
def yX0_loses : MethodName := ⟨"DanceWine$Cellar", "loses", "(IIII)Z"⟩
def mX0_loses : MI := (0, yX0_loses, cX0_loses, 5, (some .boolean))
theorem kX0_loses : Cond.code yX0_loses cX0_loses 5 (some .boolean) ∈ Ts := tsI (inT4 _ (List.mem_of_getElem? (i := 60) rfl)) rfl
abbrev cX1_init : ByteArray := prog_3_method_1_code
def yX1_init : MethodName := ⟨"DanceWine$Evening", "<init>", "()V"⟩
def mX1_init : MI := (1, yX1_init, cX1_init, 1, none)
theorem kX1_init : Cond.code yX1_init cX1_init 1 none ∈ Ts := tsI (inT2 _ (List.mem_of_getElem? (i := 4) rfl)) rfl
abbrev cX1_begin : ByteArray := prog_3_method_2_code
def yX1_begin : MethodName := ⟨"DanceWine$Evening", "begin", "(LDanceWine$Cellar;)V"⟩
def mX1_begin : MI := (1, yX1_begin, cX1_begin, 2, none)
theorem kX1_begin : Cond.code yX1_begin cX1_begin 2 none ∈ Ts := tsI (inT4 _ (List.mem_of_getElem? (i := 9) rfl)) rfl
abbrev cX1_copyOf : ByteArray := prog_3_method_3_code
def yX1_copyOf : MethodName := ⟨"DanceWine$Evening", "copyOf", "(LDanceWine$Evening;)V"⟩
def mX1_copyOf : MI := (1, yX1_copyOf, cX1_copyOf, 2, none)
theorem kX1_copyOf : Cond.code yX1_copyOf cX1_copyOf 2 none ∈ Ts := tsI (inT5 _ (List.mem_of_getElem? (i := 86) rfl)) rfl
abbrev cX1_give : ByteArray := prog_3_method_4_code
def yX1_give : MethodName := ⟨"DanceWine$Evening", "give", "(II)Z"⟩
def mX1_give : MI := (1, yX1_give, cX1_give, 4, (some .boolean))
theorem kX1_give : Cond.code yX1_give cX1_give 4 (some .boolean) ∈ Ts := tsI (inT4 _ (List.mem_of_getElem? (i := 94) rfl)) rfl
abbrev cX1_forget : ByteArray := prog_3_method_5_code
def yX1_forget : MethodName := ⟨"DanceWine$Evening", "forget", "(I)I"⟩
def mX1_forget : MI := (1, yX1_forget, cX1_forget, 3, (some .int))
theorem kX1_forget : Cond.code yX1_forget cX1_forget 3 (some .int) ∈ Ts := tsI (inT4 _ (List.mem_of_getElem? (i := 107) rfl)) rfl
abbrev cX1_glassesLeft : ByteArray := prog_3_method_6_code
def yX1_glassesLeft : MethodName := ⟨"DanceWine$Evening", "glassesLeft", "()I"⟩
def mX1_glassesLeft : MI := (1, yX1_glassesLeft, cX1_glassesLeft, 3, (some .int))
theorem kX1_glassesLeft : Cond.code yX1_glassesLeft cX1_glassesLeft 3 (some .int) ∈ Ts := tsI (inT5 _ (List.mem_of_getElem? (i := 94) rfl)) rfl
abbrev cX1_seenGuests : ByteArray := prog_3_method_7_code
def yX1_seenGuests : MethodName := ⟨"DanceWine$Evening", "seenGuests", "()I"⟩
def mX1_seenGuests : MI := (1, yX1_seenGuests, cX1_seenGuests, 3, (some .int))
theorem kX1_seenGuests : Cond.code yX1_seenGuests cX1_seenGuests 3 (some .int) ∈ Ts := tsI (inT5 _ (List.mem_of_getElem? (i := 59) rfl)) rfl
abbrev cX2_init : ByteArray := prog_4_method_1_code
def yX2_init : MethodName := ⟨"DanceWine$Floor", "<init>", "()V"⟩
def mX2_init : MI := (2, yX2_init, cX2_init, 1, none)
theorem kX2_init : Cond.code yX2_init cX2_init 1 none ∈ Ts := tsI (inT2 _ (List.mem_of_getElem? (i := 128) rfl)) rfl
abbrev cX2_hold : ByteArray := prog_4_method_2_code
def yX2_hold : MethodName := ⟨"DanceWine$Floor", "hold", "(LDanceWine$Cellar;[LDanceWine$Routine;II)V"⟩
def mX2_hold : MI := (2, yX2_hold, cX2_hold, 10, none)
theorem kX2_hold : Cond.code yX2_hold cX2_hold 10 none ∈ Ts := tsI (inT4 _ (List.mem_of_getElem? (i := 147) rfl)) rfl
abbrev cX2_draw : ByteArray := prog_4_method_3_code
def yX2_draw : MethodName := ⟨"DanceWine$Floor", "draw", "()I"⟩
def mX2_draw : MI := (2, yX2_draw, cX2_draw, 1, (some .int))
theorem kX2_draw : Cond.code yX2_draw cX2_draw 1 (some .int) ∈ Ts := tsI (inT4 _ (List.mem_of_getElem? (i := 152) rfl)) rfl
abbrev cX2_others : ByteArray := prog_4_method_4_code
def yX2_others : MethodName := ⟨"DanceWine$Floor", "others", "(II)J"⟩
def mX2_others : MI := (2, yX2_others, cX2_others, 6, (some .long))
theorem kX2_others : Cond.code yX2_others cX2_others 6 (some .long) ∈ Ts := tsI (inT4 _ (List.mem_of_getElem? (i := 161) rfl)) rfl
abbrev cX3_init : ByteArray := prog_5_method_1_code
def yX3_init : MethodName := ⟨"DanceWine$Law", "<init>", "()V"⟩
def mX3_init : MI := (3, yX3_init, cX3_init, 1, none)
theorem kX3_init : Cond.code yX3_init cX3_init 1 none ∈ Ts := tsI (inT1 _ (List.mem_of_getElem? (i := 44) rfl)) rfl
abbrev cX3_clear : ByteArray := prog_5_method_2_code
def yX3_clear : MethodName := ⟨"DanceWine$Law", "clear", "()V"⟩
def mX3_clear : MI := (3, yX3_clear, cX3_clear, 1, none)
theorem kX3_clear : Cond.code yX3_clear cX3_clear 1 none ∈ Ts := tsI (inT3 _ (List.mem_of_getElem? (i := 113) rfl)) rfl
abbrev cX3_build : ByteArray := prog_5_method_3_code
def yX3_build : MethodName := ⟨"DanceWine$Law", "build", "(LDanceWine$Tokens;I)I"⟩
def mX3_build : MI := (3, yX3_build, cX3_build, 7, (some .int))
theorem kX3_build : Cond.code yX3_build cX3_build 7 (some .int) ∈ Ts := tsI (inT3 _ (List.mem_of_getElem? (i := 200) rfl)) rfl
abbrev cX3_faultOfPart : ByteArray := prog_5_method_4_code
def yX3_faultOfPart : MethodName := ⟨"DanceWine$Law", "faultOfPart", "(I)I"⟩
def mX3_faultOfPart : MI := (3, yX3_faultOfPart, cX3_faultOfPart, 3, (some .int))
theorem kX3_faultOfPart : Cond.code yX3_faultOfPart cX3_faultOfPart 3 (some .int) ∈ Ts := tsI (inT3 _ (List.mem_of_getElem? (i := 204) rfl)) rfl
abbrev cX3_takePart : ByteArray := prog_5_method_5_code
def yX3_takePart : MethodName := ⟨"DanceWine$Law", "takePart", "(II)Z"⟩
def mX3_takePart : MI := (3, yX3_takePart, cX3_takePart, 3, (some .boolean))
theorem kX3_takePart : Cond.code yX3_takePart cX3_takePart 3 (some .boolean) ∈ Ts := tsI (inT3 _ (List.mem_of_getElem? (i := 222) rfl)) rfl
abbrev cX3_faultBehindPart : ByteArray := prog_5_method_6_code
def yX3_faultBehindPart : MethodName := ⟨"DanceWine$Law", "faultBehindPart", "(I)I"⟩
def mX3_faultBehindPart : MI := (3, yX3_faultBehindPart, cX3_faultBehindPart, 3, (some .int))
theorem kX3_faultBehindPart : Cond.code yX3_faultBehindPart cX3_faultBehindPart 3 (some .int) ∈ Ts := tsI (inT3 _ (List.mem_of_getElem? (i := 211) rfl)) rfl
abbrev cX3_comparesAlready : ByteArray := prog_5_method_7_code
def yX3_comparesAlready : MethodName := ⟨"DanceWine$Law", "comparesAlready", "()Z"⟩
def mX3_comparesAlready : MI := (3, yX3_comparesAlready, cX3_comparesAlready, 2, (some .boolean))
theorem kX3_comparesAlready : Cond.code yX3_comparesAlready cX3_comparesAlready 2 (some .boolean) ∈ Ts := tsI (inT3 _ (List.mem_of_getElem? (i := 218) rfl)) rfl
abbrev cX3_takeBehindPart : ByteArray := prog_5_method_8_code
def yX3_takeBehindPart : MethodName := ⟨"DanceWine$Law", "takeBehindPart", "(I)V"⟩
def mX3_takeBehindPart : MI := (3, yX3_takeBehindPart, cX3_takeBehindPart, 2, none)
theorem kX3_takeBehindPart : Cond.code yX3_takeBehindPart cX3_takeBehindPart 2 none ∈ Ts := tsI (inT3 _ (List.mem_of_getElem? (i := 238) rfl)) rfl
abbrev cX3_push : ByteArray := prog_5_method_9_code
def yX3_push : MethodName := ⟨"DanceWine$Law", "push", "(I)V"⟩
def mX3_push : MI := (3, yX3_push, cX3_push, 2, none)
theorem kX3_push : Cond.code yX3_push cX3_push 2 none ∈ Ts := tsI (inT3 _ (List.mem_of_getElem? (i := 226) rfl)) rfl
abbrev cX3_put : ByteArray := prog_5_method_10_code
def yX3_put : MethodName := ⟨"DanceWine$Law", "put", "(I)V"⟩
def mX3_put : MI := (3, yX3_put, cX3_put, 2, none)
theorem kX3_put : Cond.code yX3_put cX3_put 2 none ∈ Ts := tsI (inT3 _ (List.mem_of_getElem? (i := 230) rfl)) rfl
abbrev cX3_endPart : ByteArray := prog_5_method_11_code
def yX3_endPart : MethodName := ⟨"DanceWine$Law", "endPart", "()V"⟩
def mX3_endPart : MI := (3, yX3_endPart, cX3_endPart, 1, none)
theorem kX3_endPart : Cond.code yX3_endPart cX3_endPart 1 none ∈ Ts := tsI (inT3 _ (List.mem_of_getElem? (i := 234) rfl)) rfl
abbrev cX3_settle : ByteArray := prog_5_method_12_code
def yX3_settle : MethodName := ⟨"DanceWine$Law", "settle", "(I)V"⟩
def mX3_settle : MI := (3, yX3_settle, cX3_settle, 2, none)
theorem kX3_settle : Cond.code yX3_settle cX3_settle 2 none ∈ Ts := tsI (inT4 _ (List.mem_of_getElem? (i := 2) rfl)) rfl
abbrev cX3_rank : ByteArray := prog_5_method_13_code
def yX3_rank : MethodName := ⟨"DanceWine$Law", "rank", "(I)I"⟩
def mX3_rank : MI := (3, yX3_rank, cX3_rank, 1, (some .int))
theorem kX3_rank : Cond.code yX3_rank cX3_rank 1 (some .int) ∈ Ts := tsI (inT3 _ (List.mem_of_getElem? (i := 214) rfl)) rfl
abbrev cX3_value : ByteArray := prog_5_method_14_code
def yX3_value : MethodName := ⟨"DanceWine$Law", "value", "(IIII)I"⟩
def mX3_value : MI := (3, yX3_value, cX3_value, 9, (some .int))
theorem kX3_value : Cond.code yX3_value cX3_value 9 (some .int) ∈ Ts := tsI (inT4 _ (List.mem_of_getElem? (i := 64) rfl)) rfl
abbrev cX3_fact : ByteArray := prog_5_method_15_code
def yX3_fact : MethodName := ⟨"DanceWine$Law", "fact", "(IIIII)I"⟩
def mX3_fact : MI := (3, yX3_fact, cX3_fact, 5, (some .int))
theorem kX3_fact : Cond.code yX3_fact cX3_fact 5 (some .int) ∈ Ts := tsI (inT4 _ (List.mem_of_getElem? (i := 67) rfl)) rfl
abbrev cX3_joined : ByteArray := prog_5_method_16_code
def yX3_joined : MethodName := ⟨"DanceWine$Law", "joined", "(III)I"⟩
def mX3_joined : MI := (3, yX3_joined, cX3_joined, 3, (some .int))
theorem kX3_joined : Cond.code yX3_joined cX3_joined 3 (some .int) ∈ Ts := tsI (inT4 _ (List.mem_of_getElem? (i := 70) rfl)) rfl
abbrev cX4_init : ByteArray := prog_6_method_1_code
def yX4_init : MethodName := ⟨"DanceWine$Past", "<init>", "()V"⟩
def mX4_init : MI := (4, yX4_init, cX4_init, 1, none)
theorem kX4_init : Cond.code yX4_init cX4_init 1 none ∈ Ts := tsI (inT2 _ (List.mem_of_getElem? (i := 30) rfl)) rfl
abbrev cX4_clear : ByteArray := prog_6_method_2_code
def yX4_clear : MethodName := ⟨"DanceWine$Past", "clear", "()V"⟩
def mX4_clear : MI := (4, yX4_clear, cX4_clear, 1, none)
theorem kX4_clear : Cond.code yX4_clear cX4_clear 1 none ∈ Ts := tsI (inT4 _ (List.mem_of_getElem? (i := 14) rfl)) rfl
abbrev cX4_add : ByteArray := prog_6_method_3_code
def yX4_add : MethodName := ⟨"DanceWine$Past", "add", "(IIZ)V"⟩
def mX4_add : MI := (4, yX4_add, cX4_add, 4, none)
theorem kX4_add : Cond.code yX4_add cX4_add 4 none ∈ Ts := tsI (inT4 _ (List.mem_of_getElem? (i := 98) rfl)) rfl
abbrev cX4_last : ByteArray := prog_6_method_4_code
def yX4_last : MethodName := ⟨"DanceWine$Past", "last", "()I"⟩
def mX4_last : MI := (4, yX4_last, cX4_last, 1, (some .int))
theorem kX4_last : Cond.code yX4_last cX4_last 1 (some .int) ∈ Ts := tsI (inT4 _ (List.mem_of_getElem? (i := 119) rfl)) rfl
abbrev cX4_lastGuest : ByteArray := prog_6_method_5_code
def yX4_lastGuest : MethodName := ⟨"DanceWine$Past", "lastGuest", "()I"⟩
def mX4_lastGuest : MI := (4, yX4_lastGuest, cX4_lastGuest, 1, (some .int))
theorem kX4_lastGuest : Cond.code yX4_lastGuest cX4_lastGuest 1 (some .int) ∈ Ts := tsI (inT4 _ (List.mem_of_getElem? (i := 115) rfl)) rfl
abbrev cX4_lastWine : ByteArray := prog_6_method_6_code
def yX4_lastWine : MethodName := ⟨"DanceWine$Past", "lastWine", "()I"⟩
def mX4_lastWine : MI := (4, yX4_lastWine, cX4_lastWine, 1, (some .int))
theorem kX4_lastWine : Cond.code yX4_lastWine cX4_lastWine 1 (some .int) ∈ Ts := tsI (inT4 _ (List.mem_of_getElem? (i := 127) rfl)) rfl
abbrev cX4_lastWasWater : ByteArray := prog_6_method_7_code
def yX4_lastWasWater : MethodName := ⟨"DanceWine$Past", "lastWasWater", "()Z"⟩
def mX4_lastWasWater : MI := (4, yX4_lastWasWater, cX4_lastWasWater, 1, (some .boolean))
theorem kX4_lastWasWater : Cond.code yX4_lastWasWater cX4_lastWasWater 1 (some .boolean) ∈ Ts := tsI (inT4 _ (List.mem_of_getElem? (i := 123) rfl)) rfl
abbrev cX4_dropLast : ByteArray := prog_6_method_8_code
def yX4_dropLast : MethodName := ⟨"DanceWine$Past", "dropLast", "()V"⟩
def mX4_dropLast : MI := (4, yX4_dropLast, cX4_dropLast, 1, none)
theorem kX4_dropLast : Cond.code yX4_dropLast cX4_dropLast 1 none ∈ Ts := tsI (inT4 _ (List.mem_of_getElem? (i := 131) rfl)) rfl
abbrev cX5_init : ByteArray := prog_7_method_1_code
def yX5_init : MethodName := ⟨"DanceWine$Reader", "<init>", "()V"⟩
def mX5_init : MI := (5, yX5_init, cX5_init, 1, none)
theorem kX5_init : Cond.code yX5_init cX5_init 1 none ∈ Ts := tsI (inT1 _ (List.mem_of_getElem? (i := 174) rfl)) rfl
abbrev cX5_parse : ByteArray := prog_7_method_2_code
def yX5_parse : MethodName := ⟨"DanceWine$Reader", "parse", "([CILDanceWine$Cellar;)I"⟩
def mX5_parse : MI := (5, yX5_parse, cX5_parse, 6, (some .int))
theorem kX5_parse : Cond.code yX5_parse cX5_parse 6 (some .int) ∈ Ts := tsI (inT3 _ (List.mem_of_getElem? (i := 33) rfl)) rfl
abbrev cX5_sort : ByteArray := prog_7_method_3_code
def yX5_sort : MethodName := ⟨"DanceWine$Reader", "sort", "()I"⟩
def mX5_sort : MI := (5, yX5_sort, cX5_sort, 1, (some .int))
theorem kX5_sort : Cond.code yX5_sort cX5_sort 1 (some .int) ∈ Ts := tsI (inT3 _ (List.mem_of_getElem? (i := 125) rfl)) rfl
abbrev cX5_wrong : ByteArray := prog_7_method_4_code
def yX5_wrong : MethodName := ⟨"DanceWine$Reader", "wrong", "(I)Z"⟩
def mX5_wrong : MI := (5, yX5_wrong, cX5_wrong, 3, (some .boolean))
theorem kX5_wrong : Cond.code yX5_wrong cX5_wrong 3 (some .boolean) ∈ Ts := tsI (inT3 _ (List.mem_of_getElem? (i := 129) rfl)) rfl
abbrev cX5_hallLine : ByteArray := prog_7_method_5_code
def yX5_hallLine : MethodName := ⟨"DanceWine$Reader", "hallLine", "()Z"⟩
def mX5_hallLine : MI := (5, yX5_hallLine, cX5_hallLine, 1, (some .boolean))
theorem kX5_hallLine : Cond.code yX5_hallLine cX5_hallLine 1 (some .boolean) ∈ Ts := tsI (inT3 _ (List.mem_of_getElem? (i := 117) rfl)) rfl
abbrev cX5_line : ByteArray := prog_7_method_6_code
def yX5_line : MethodName := ⟨"DanceWine$Reader", "line", "()Z"⟩
def mX5_line : MI := (5, yX5_line, cX5_line, 1, (some .boolean))
theorem kX5_line : Cond.code yX5_line cX5_line 1 (some .boolean) ∈ Ts := tsI (inT3 _ (List.mem_of_getElem? (i := 140) rfl)) rfl
abbrev cX5_pillarLine : ByteArray := prog_7_method_7_code
def yX5_pillarLine : MethodName := ⟨"DanceWine$Reader", "pillarLine", "()Z"⟩
def mX5_pillarLine : MI := (5, yX5_pillarLine, cX5_pillarLine, 3, (some .boolean))
theorem kX5_pillarLine : Cond.code yX5_pillarLine cX5_pillarLine 3 (some .boolean) ∈ Ts := tsI (inT3 _ (List.mem_of_getElem? (i := 144) rfl)) rfl
abbrev cX5_carriageLine : ByteArray := prog_7_method_8_code
def yX5_carriageLine : MethodName := ⟨"DanceWine$Reader", "carriageLine", "()Z"⟩
def mX5_carriageLine : MI := (5, yX5_carriageLine, cX5_carriageLine, 1, (some .boolean))
theorem kX5_carriageLine : Cond.code yX5_carriageLine cX5_carriageLine 1 (some .boolean) ∈ Ts := tsI (inT3 _ (List.mem_of_getElem? (i := 152) rfl)) rfl
abbrev cX5_danceLine : ByteArray := prog_7_method_9_code
def yX5_danceLine : MethodName := ⟨"DanceWine$Reader", "danceLine", "()Z"⟩
def mX5_danceLine : MI := (5, yX5_danceLine, cX5_danceLine, 3, (some .boolean))
theorem kX5_danceLine : Cond.code yX5_danceLine cX5_danceLine 3 (some .boolean) ∈ Ts := tsI (inT3 _ (List.mem_of_getElem? (i := 156) rfl)) rfl
abbrev cX5_wineLine : ByteArray := prog_7_method_10_code
def yX5_wineLine : MethodName := ⟨"DanceWine$Reader", "wineLine", "()Z"⟩
def mX5_wineLine : MI := (5, yX5_wineLine, cX5_wineLine, 5, (some .boolean))
theorem kX5_wineLine : Cond.code yX5_wineLine cX5_wineLine 5 (some .boolean) ∈ Ts := tsI (inT3 _ (List.mem_of_getElem? (i := 170) rfl)) rfl
abbrev cX5_partName : ByteArray := prog_7_method_11_code
def yX5_partName : MethodName := ⟨"DanceWine$Reader", "partName", "(II)I"⟩
def mX5_partName : MI := (5, yX5_partName, cX5_partName, 4, (some .int))
theorem kX5_partName : Cond.code yX5_partName cX5_partName 4 (some .int) ∈ Ts := tsI (inT3 _ (List.mem_of_getElem? (i := 174) rfl)) rfl
abbrev cX5_danceNamed : ByteArray := prog_7_method_12_code
def yX5_danceNamed : MethodName := ⟨"DanceWine$Reader", "danceNamed", "(J)I"⟩
def mX5_danceNamed : MI := (5, yX5_danceNamed, cX5_danceNamed, 4, (some .int))
theorem kX5_danceNamed : Cond.code yX5_danceNamed cX5_danceNamed 4 (some .int) ∈ Ts := tsI (inT3 _ (List.mem_of_getElem? (i := 178) rfl)) rfl
abbrev cX5_blend : ByteArray := prog_7_method_13_code
def yX5_blend : MethodName := ⟨"DanceWine$Reader", "blend", "(III)V"⟩
def mX5_blend : MI := (5, yX5_blend, cX5_blend, 7, none)
theorem kX5_blend : Cond.code yX5_blend cX5_blend 7 none ∈ Ts := tsI (inT3 _ (List.mem_of_getElem? (i := 182) rfl)) rfl
abbrev cX5_guestLine : ByteArray := prog_7_method_14_code
def yX5_guestLine : MethodName := ⟨"DanceWine$Reader", "guestLine", "()Z"⟩
def mX5_guestLine : MI := (5, yX5_guestLine, cX5_guestLine, 2, (some .boolean))
theorem kX5_guestLine : Cond.code yX5_guestLine cX5_guestLine 2 (some .boolean) ∈ Ts := tsI (inT3 _ (List.mem_of_getElem? (i := 189) rfl)) rfl
abbrev cX5_lawLine : ByteArray := prog_7_method_15_code
def yX5_lawLine : MethodName := ⟨"DanceWine$Reader", "lawLine", "()Z"⟩
def mX5_lawLine : MI := (5, yX5_lawLine, cX5_lawLine, 2, (some .boolean))
theorem kX5_lawLine : Cond.code yX5_lawLine cX5_lawLine 2 (some .boolean) ∈ Ts := tsI (inT3 _ (List.mem_of_getElem? (i := 196) rfl)) rfl
abbrev cX5_word : ByteArray := prog_7_method_16_code
def yX5_word : MethodName := ⟨"DanceWine$Reader", "word", "(I)Z"⟩
def mX5_word : MI := (5, yX5_word, cX5_word, 2, (some .boolean))
theorem kX5_word : Cond.code yX5_word cX5_word 2 (some .boolean) ∈ Ts := tsI (inT3 _ (List.mem_of_getElem? (i := 121) rfl)) rfl
abbrev cX5_newName : ByteArray := prog_7_method_17_code
def yX5_newName : MethodName := ⟨"DanceWine$Reader", "newName", "()Z"⟩
def mX5_newName : MI := (5, yX5_newName, cX5_newName, 4, (some .boolean))
theorem kX5_newName : Cond.code yX5_newName cX5_newName 4 (some .boolean) ∈ Ts := tsI (inT3 _ (List.mem_of_getElem? (i := 160) rfl)) rfl
abbrev cX5_number : ByteArray := prog_7_method_18_code
def yX5_number : MethodName := ⟨"DanceWine$Reader", "number", "(II)Z"⟩
def mX5_number : MI := (5, yX5_number, cX5_number, 3, (some .boolean))
theorem kX5_number : Cond.code yX5_number cX5_number 3 (some .boolean) ∈ Ts := tsI (inT3 _ (List.mem_of_getElem? (i := 136) rfl)) rfl
abbrev cX5_place : ByteArray := prog_7_method_19_code
def yX5_place : MethodName := ⟨"DanceWine$Reader", "place", "(J)Z"⟩
def mX5_place : MI := (5, yX5_place, cX5_place, 4, (some .boolean))
theorem kX5_place : Cond.code yX5_place cX5_place 4 (some .boolean) ∈ Ts := tsI (inT3 _ (List.mem_of_getElem? (i := 148) rfl)) rfl
abbrev cX6_init : ByteArray := prog_8_method_1_code
def yX6_init : MethodName := ⟨"DanceWine$Reading", "<init>", "()V"⟩
def mX6_init : MI := (6, yX6_init, cX6_init, 1, none)
theorem kX6_init : Cond.code yX6_init cX6_init 1 none ∈ Ts := tsI (inT2 _ (List.mem_of_getElem? (i := 177) rfl)) rfl
abbrev cX6_seek : ByteArray := prog_8_method_2_code
def yX6_seek : MethodName := ⟨"DanceWine$Reading", "seek", "(LDanceWine$Cellar;[III)V"⟩
def mX6_seek : MI := (6, yX6_seek, cX6_seek, 5, none)
theorem kX6_seek : Cond.code yX6_seek cX6_seek 5 none ∈ Ts := tsI (inT5 _ (List.mem_of_getElem? (i := 63) rfl)) rfl
abbrev cX6_tryFrom : ByteArray := prog_8_method_3_code
def yX6_tryFrom : MethodName := ⟨"DanceWine$Reading", "tryFrom", "(II)V"⟩
def mX6_tryFrom : MI := (6, yX6_tryFrom, cX6_tryFrom, 6, none)
theorem kX6_tryFrom : Cond.code yX6_tryFrom cX6_tryFrom 6 none ∈ Ts := tsI (inT5 _ (List.mem_of_getElem? (i := 69) rfl)) rfl
abbrev cX6_allThere : ByteArray := prog_8_method_4_code
def yX6_allThere : MethodName := ⟨"DanceWine$Reading", "allThere", "()Z"⟩
def mX6_allThere : MI := (6, yX6_allThere, cX6_allThere, 2, (some .boolean))
theorem kX6_allThere : Cond.code yX6_allThere cX6_allThere 2 (some .boolean) ∈ Ts := tsI (inT5 _ (List.mem_of_getElem? (i := 73) rfl)) rfl
abbrev cX7_init : ByteArray := prog_9_method_1_code
def yX7_init : MethodName := ⟨"DanceWine$Routine", "<init>", "()V"⟩
def mX7_init : MI := (7, yX7_init, cX7_init, 1, none)
theorem kX7_init : Cond.code yX7_init cX7_init 1 none ∈ Ts := tsI (inT2 _ (List.mem_of_getElem? (i := 46) rfl)) rfl
abbrev cX7_make : ByteArray := prog_9_method_2_code
def yX7_make : MethodName := ⟨"DanceWine$Routine", "make", "(LDanceWine$Cellar;I[III)V"⟩
def mX7_make : MI := (7, yX7_make, cX7_make, 8, none)
theorem kX7_make : Cond.code yX7_make cX7_make 8 none ∈ Ts := tsI (inT4 _ (List.mem_of_getElem? (i := 51) rfl)) rfl
abbrev cX7_drink : ByteArray := prog_9_method_3_code
def yX7_drink : MethodName := ⟨"DanceWine$Routine", "drink", "(LDanceWine$Cellar;IIII)V"⟩
def mX7_drink : MI := (7, yX7_drink, cX7_drink, 9, none)
theorem kX7_drink : Cond.code yX7_drink cX7_drink 9 none ∈ Ts := tsI (inT4 _ (List.mem_of_getElem? (i := 55) rfl)) rfl
abbrev cX7_walkAlone : ByteArray := prog_9_method_4_code
def yX7_walkAlone : MethodName := ⟨"DanceWine$Routine", "walkAlone", "(LDanceWine$Cellar;)V"⟩
def mX7_walkAlone : MI := (7, yX7_walkAlone, cX7_walkAlone, 4, none)
theorem kX7_walkAlone : Cond.code yX7_walkAlone cX7_walkAlone 4 none ∈ Ts := tsI (inT4 _ (List.mem_of_getElem? (i := 74) rfl)) rfl
abbrev cX7_endAmong : ByteArray := prog_9_method_5_code
def yX7_endAmong : MethodName := ⟨"DanceWine$Routine", "endAmong", "(LDanceWine$Cellar;J)I"⟩
def mX7_endAmong : MI := (7, yX7_endAmong, cX7_endAmong, 8, (some .int))
theorem kX7_endAmong : Cond.code yX7_endAmong cX7_endAmong 8 (some .int) ∈ Ts := tsI (inT5 _ (List.mem_of_getElem? (i := 0) rfl)) rfl
abbrev cX7_beginsWith : ByteArray := prog_9_method_6_code
def yX7_beginsWith : MethodName := ⟨"DanceWine$Routine", "beginsWith", "(LDanceWine$Cellar;I)Z"⟩
def mX7_beginsWith : MI := (7, yX7_beginsWith, cX7_beginsWith, 5, (some .boolean))
theorem kX7_beginsWith : Cond.code yX7_beginsWith cX7_beginsWith 5 (some .boolean) ∈ Ts := tsI (inT5 _ (List.mem_of_getElem? (i := 47) rfl)) rfl
abbrev cX8_init : ByteArray := prog_10_method_1_code
def yX8_init : MethodName := ⟨"DanceWine$Rows", "<init>", "()V"⟩
def mX8_init : MI := (8, yX8_init, cX8_init, 1, none)
theorem kX8_init : Cond.code yX8_init cX8_init 1 none ∈ Ts := tsI (inT2 _ (List.mem_of_getElem? (i := 80) rfl)) rfl
abbrev cX8_shortest : ByteArray := prog_10_method_2_code
def yX8_shortest : MethodName := ⟨"DanceWine$Rows", "shortest", "(LDanceWine$Cellar;II[I)I"⟩
def mX8_shortest : MI := (8, yX8_shortest, cX8_shortest, 8, (some .int))
theorem kX8_shortest : Cond.code yX8_shortest cX8_shortest 8 (some .int) ∈ Ts := tsI (inT4 _ (List.mem_of_getElem? (i := 171) rfl)) rfl
abbrev cX8_seek : ByteArray := prog_10_method_3_code
def yX8_seek : MethodName := ⟨"DanceWine$Rows", "seek", "(LDanceWine$Cellar;III)Z"⟩
def mX8_seek : MI := (8, yX8_seek, cX8_seek, 8, (some .boolean))
theorem kX8_seek : Cond.code yX8_seek cX8_seek 8 (some .boolean) ∈ Ts := tsI (inT5 _ (List.mem_of_getElem? (i := 12) rfl)) rfl
abbrev cX8_ready : ByteArray := prog_10_method_4_code
def yX8_ready : MethodName := ⟨"DanceWine$Rows", "ready", "(LDanceWine$Cellar;II)V"⟩
def mX8_ready : MI := (8, yX8_ready, cX8_ready, 7, none)
theorem kX8_ready : Cond.code yX8_ready cX8_ready 7 none ∈ Ts := tsI (inT4 _ (List.mem_of_getElem? (i := 176) rfl)) rfl
abbrev cX8_setRow : ByteArray := prog_10_method_5_code
def yX8_setRow : MethodName := ⟨"DanceWine$Rows", "setRow", "(I)V"⟩
def mX8_setRow : MI := (8, yX8_setRow, cX8_setRow, 5, none)
theorem kX8_setRow : Cond.code yX8_setRow cX8_setRow 5 none ∈ Ts := tsI (inT5 _ (List.mem_of_getElem? (i := 16) rfl)) rfl
abbrev cX8_danced : ByteArray := prog_10_method_6_code
def yX8_danced : MethodName := ⟨"DanceWine$Rows", "danced", "(I)I"⟩
def mX8_danced : MI := (8, yX8_danced, cX8_danced, 2, (some .int))
theorem kX8_danced : Cond.code yX8_danced cX8_danced 2 (some .int) ∈ Ts := tsI (inT4 _ (List.mem_of_getElem? (i := 197) rfl)) rfl
abbrev cX8_end : ByteArray := prog_10_method_7_code
def yX8_end : MethodName := ⟨"DanceWine$Rows", "end", "()I"⟩
def mX8_end : MI := (8, yX8_end, cX8_end, 4, (some .int))
theorem kX8_end : Cond.code yX8_end cX8_end 4 (some .int) ∈ Ts := tsI (inT4 _ (List.mem_of_getElem? (i := 210) rfl)) rfl
abbrev cX8_behindGlass : ByteArray := prog_10_method_8_code
def yX8_behindGlass : MethodName := ⟨"DanceWine$Rows", "behindGlass", "(III)I"⟩
def mX8_behindGlass : MI := (8, yX8_behindGlass, cX8_behindGlass, 8, (some .int))
theorem kX8_behindGlass : Cond.code yX8_behindGlass cX8_behindGlass 8 (some .int) ∈ Ts := tsI (inT4 _ (List.mem_of_getElem? (i := 201) rfl)) rfl
abbrev cX8_mayReach : ByteArray := prog_10_method_9_code
def yX8_mayReach : MethodName := ⟨"DanceWine$Rows", "mayReach", "()Z"⟩
def mX8_mayReach : MI := (8, yX8_mayReach, cX8_mayReach, 3, (some .boolean))
theorem kX8_mayReach : Cond.code yX8_mayReach cX8_mayReach 3 (some .boolean) ∈ Ts := tsI (inT4 _ (List.mem_of_getElem? (i := 188) rfl)) rfl
abbrev cX8_reachBehind : ByteArray := prog_10_method_10_code
def yX8_reachBehind : MethodName := ⟨"DanceWine$Rows", "reachBehind", "(II)V"⟩
def mX8_reachBehind : MI := (8, yX8_reachBehind, cX8_reachBehind, 4, none)
theorem kX8_reachBehind : Cond.code yX8_reachBehind cX8_reachBehind 4 none ∈ Ts := tsI (inT4 _ (List.mem_of_getElem? (i := 193) rfl)) rfl
abbrev cX8_choose : ByteArray := prog_10_method_11_code
def yX8_choose : MethodName := ⟨"DanceWine$Rows", "choose", "(I)Z"⟩
def mX8_choose : MI := (8, yX8_choose, cX8_choose, 4, (some .boolean))
theorem kX8_choose : Cond.code yX8_choose cX8_choose 4 (some .boolean) ∈ Ts := tsI (inT4 _ (List.mem_of_getElem? (i := 206) rfl)) rfl
abbrev cX9_init : ByteArray := prog_11_method_1_code
def yX9_init : MethodName := ⟨"DanceWine$Sending", "<init>", "()V"⟩
def mX9_init : MI := (9, yX9_init, cX9_init, 1, none)
theorem kX9_init : Cond.code yX9_init cX9_init 1 none ∈ Ts := tsI (inT2 _ (List.mem_of_getElem? (i := 146) rfl)) rfl
abbrev cX9_isOrder : ByteArray := prog_11_method_2_code
def yX9_isOrder : MethodName := ⟨"DanceWine$Sending", "isOrder", "(II)Z"⟩
def mX9_isOrder : MI := (9, yX9_isOrder, cX9_isOrder, 6, (some .boolean))
theorem kX9_isOrder : Cond.code yX9_isOrder cX9_isOrder 6 (some .boolean) ∈ Ts := tsI (inT5 _ (List.mem_of_getElem? (i := 105) rfl)) rfl
abbrev cX9_goneBy : ByteArray := prog_11_method_3_code
def yX9_goneBy : MethodName := ⟨"DanceWine$Sending", "goneBy", "(LDanceWine$Cellar;[LDanceWine$Routine;I)I"⟩
def mX9_goneBy : MI := (9, yX9_goneBy, cX9_goneBy, 6, (some .int))
theorem kX9_goneBy : Cond.code yX9_goneBy cX9_goneBy 6 (some .int) ∈ Ts := tsI (inT5 _ (List.mem_of_getElem? (i := 174) rfl)) rfl
abbrev cX9_seekBest : ByteArray := prog_11_method_4_code
def yX9_seekBest : MethodName := ⟨"DanceWine$Sending", "seekBest", "(LDanceWine$Cellar;[LDanceWine$Routine;)V"⟩
def mX9_seekBest : MI := (9, yX9_seekBest, cX9_seekBest, 3, none)
theorem kX9_seekBest : Cond.code yX9_seekBest cX9_seekBest 3 none ∈ Ts := tsI (inT4 _ (List.mem_of_getElem? (i := 218) rfl)) rfl
abbrev cX9_begin : ByteArray := prog_11_method_5_code
def yX9_begin : MethodName := ⟨"DanceWine$Sending", "begin", "(LDanceWine$Cellar;[LDanceWine$Routine;)V"⟩
def mX9_begin : MI := (9, yX9_begin, cX9_begin, 4, none)
theorem kX9_begin : Cond.code yX9_begin cX9_begin 4 none ∈ Ts := tsI (inT4 _ (List.mem_of_getElem? (i := 222) rfl)) rfl
abbrev cX9_go : ByteArray := prog_11_method_6_code
def yX9_go : MethodName := ⟨"DanceWine$Sending", "go", "(I)V"⟩
def mX9_go : MI := (9, yX9_go, cX9_go, 5, none)
theorem kX9_go : Cond.code yX9_go cX9_go 5 none ∈ Ts := tsI (inT4 _ (List.mem_of_getElem? (i := 236) rfl)) rfl
abbrev cX9_tryAll : ByteArray := prog_11_method_7_code
def yX9_tryAll : MethodName := ⟨"DanceWine$Sending", "tryAll", "(III)V"⟩
def mX9_tryAll : MI := (9, yX9_tryAll, cX9_tryAll, 7, none)
theorem kX9_tryAll : Cond.code yX9_tryAll cX9_tryAll 7 none ∈ Ts := tsI (inT4 _ (List.mem_of_getElem? (i := 226) rfl)) rfl
abbrev cX10_init : ByteArray := prog_12_method_1_code
def yX10_init : MethodName := ⟨"DanceWine$Tokens", "<init>", "()V"⟩
def mX10_init : MI := (10, yX10_init, cX10_init, 1, none)
theorem kX10_init : Cond.code yX10_init cX10_init 1 none ∈ Ts := tsI (inT1 _ (List.mem_of_getElem? (i := 180) rfl)) rfl
abbrev cX10_isFact : ByteArray := prog_12_method_2_code
def yX10_isFact : MethodName := ⟨"DanceWine$Tokens", "isFact", "(I)Z"⟩
def mX10_isFact : MI := (10, yX10_isFact, cX10_isFact, 1, (some .boolean))
theorem kX10_isFact : Cond.code yX10_isFact cX10_isFact 1 (some .boolean) ∈ Ts := tsI (inT3 _ (List.mem_of_getElem? (i := 207) rfl)) rfl
abbrev cX10_isName : ByteArray := prog_12_method_3_code
def yX10_isName : MethodName := ⟨"DanceWine$Tokens", "isName", "(I)Z"⟩
def mX10_isName : MI := (10, yX10_isName, cX10_isName, 1, (some .boolean))
theorem kX10_isName : Cond.code yX10_isName cX10_isName 1 (some .boolean) ∈ Ts := tsI (inT3 _ (List.mem_of_getElem? (i := 163) rfl)) rfl
abbrev cX10_isStep : ByteArray := prog_12_method_4_code
def yX10_isStep : MethodName := ⟨"DanceWine$Tokens", "isStep", "(I)Z"⟩
def mX10_isStep : MI := (10, yX10_isStep, cX10_isStep, 1, (some .boolean))
theorem kX10_isStep : Cond.code yX10_isStep cX10_isStep 1 (some .boolean) ∈ Ts := tsI (inT3 _ (List.mem_of_getElem? (i := 166) rfl)) rfl
abbrev cX10_isKind : ByteArray := prog_12_method_5_code
def yX10_isKind : MethodName := ⟨"DanceWine$Tokens", "isKind", "(I)Z"⟩
def mX10_isKind : MI := (10, yX10_isKind, cX10_isKind, 1, (some .boolean))
theorem kX10_isKind : Cond.code yX10_isKind cX10_isKind 1 (some .boolean) ∈ Ts := tsI (inT3 _ (List.mem_of_getElem? (i := 192) rfl)) rfl
abbrev cX10_cut : ByteArray := prog_12_method_6_code
def yX10_cut : MethodName := ⟨"DanceWine$Tokens", "cut", "([CI)V"⟩
def mX10_cut : MI := (10, yX10_cut, cX10_cut, 6, none)
theorem kX10_cut : Cond.code yX10_cut cX10_cut 6 none ∈ Ts := tsI (inT3 _ (List.mem_of_getElem? (i := 37) rfl)) rfl
abbrev cX10_put : ByteArray := prog_12_method_7_code
def yX10_put : MethodName := ⟨"DanceWine$Tokens", "put", "(IIJ)V"⟩
def mX10_put : MI := (10, yX10_put, cX10_put, 5, none)
theorem kX10_put : Cond.code yX10_put cX10_put 5 none ∈ Ts := tsI (inT3 _ (List.mem_of_getElem? (i := 95) rfl)) rfl
abbrev cX10_putWord : ByteArray := prog_12_method_8_code
def yX10_putWord : MethodName := ⟨"DanceWine$Tokens", "putWord", "([CII)I"⟩
def mX10_putWord : MI := (10, yX10_putWord, cX10_putWord, 7, (some .int))
theorem kX10_putWord : Cond.code yX10_putWord cX10_putWord 7 (some .int) ∈ Ts := tsI (inT3 _ (List.mem_of_getElem? (i := 44) rfl)) rfl
abbrev cX10_putNumber : ByteArray := prog_12_method_9_code
def yX10_putNumber : MethodName := ⟨"DanceWine$Tokens", "putNumber", "([CII)I"⟩
def mX10_putNumber : MI := (10, yX10_putNumber, cX10_putNumber, 6, (some .int))
theorem kX10_putNumber : Cond.code yX10_putNumber cX10_putNumber 6 (some .int) ∈ Ts := tsI (inT3 _ (List.mem_of_getElem? (i := 102) rfl)) rfl
abbrev cX10_sortOfWord : ByteArray := prog_12_method_10_code
def yX10_sortOfWord : MethodName := ⟨"DanceWine$Tokens", "sortOfWord", "(J)I"⟩
def mX10_sortOfWord : MI := (10, yX10_sortOfWord, cX10_sortOfWord, 3, (some .int))
theorem kX10_sortOfWord : Cond.code yX10_sortOfWord cX10_sortOfWord 3 (some .int) ∈ Ts := tsI (inT3 _ (List.mem_of_getElem? (i := 47) rfl)) rfl
abbrev cX10_lettersOfWord : ByteArray := prog_12_method_11_code
def yX10_lettersOfWord : MethodName := ⟨"DanceWine$Tokens", "lettersOfWord", "(I)J"⟩
def mX10_lettersOfWord : MI := (10, yX10_lettersOfWord, cX10_lettersOfWord, 5, (some .long))
theorem kX10_lettersOfWord : Cond.code yX10_lettersOfWord cX10_lettersOfWord 5 (some .long) ∈ Ts := tsI (inT3 _ (List.mem_of_getElem? (i := 50) rfl)) rfl
abbrev cX10_isLetter : ByteArray := prog_12_method_12_code
def yX10_isLetter : MethodName := ⟨"DanceWine$Tokens", "isLetter", "(C)Z"⟩
def mX10_isLetter : MI := (10, yX10_isLetter, cX10_isLetter, 1, (some .boolean))
theorem kX10_isLetter : Cond.code yX10_isLetter cX10_isLetter 1 (some .boolean) ∈ Ts := tsI (inT3 _ (List.mem_of_getElem? (i := 40) rfl)) rfl
abbrev cX10_isDigit : ByteArray := prog_12_method_13_code
def yX10_isDigit : MethodName := ⟨"DanceWine$Tokens", "isDigit", "(C)Z"⟩
def mX10_isDigit : MI := (10, yX10_isDigit, cX10_isDigit, 1, (some .boolean))
theorem kX10_isDigit : Cond.code yX10_isDigit cX10_isDigit 1 (some .boolean) ∈ Ts := tsI (inT3 _ (List.mem_of_getElem? (i := 98) rfl)) rfl
abbrev cX10_isSign : ByteArray := prog_12_method_14_code
def yX10_isSign : MethodName := ⟨"DanceWine$Tokens", "isSign", "(C)Z"⟩
def mX10_isSign : MI := (10, yX10_isSign, cX10_isSign, 1, (some .boolean))
theorem kX10_isSign : Cond.code yX10_isSign cX10_isSign 1 (some .boolean) ∈ Ts := tsI (inT3 _ (List.mem_of_getElem? (i := 105) rfl)) rfl
abbrev cX11_init : ByteArray := prog_1_method_1_code
def yX11_init : MethodName := ⟨"DanceWine", "<init>", "()V"⟩
def mX11_init : MI := (11, yX11_init, cX11_init, 2, none)
theorem kX11_init : Cond.code yX11_init cX11_init 2 none ∈ Ts := tsI (inT1 _ (List.mem_of_getElem? (i := 30) rfl)) rfl
abbrev cX11_feed : ByteArray := prog_1_method_2_code
def yX11_feed : MethodName := ⟨"DanceWine", "feed", "(JJJ)I"⟩
def mX11_feed : MI := (11, yX11_feed, cX11_feed, 7, (some .int))
theorem kX11_feed : Cond.code yX11_feed cX11_feed 7 (some .int) ∈ Ts := tsI (inT3 _ (List.mem_of_getElem? (i := 21) rfl)) rfl
abbrev cX11_cellar : ByteArray := prog_1_method_3_code
def yX11_cellar : MethodName := ⟨"DanceWine", "cellar", "()I"⟩
def mX11_cellar : MI := (11, yX11_cellar, cX11_cellar, 4, (some .int))
theorem kX11_cellar : Cond.code yX11_cellar cX11_cellar 4 (some .int) ∈ Ts := tsI (inT3 _ (List.mem_of_getElem? (i := 29) rfl)) rfl
abbrev cX11_step : ByteArray := prog_1_method_4_code
def yX11_step : MethodName := ⟨"DanceWine", "step", "(II)I"⟩
def mX11_step : MI := (11, yX11_step, cX11_step, 3, (some .int))
theorem kX11_step : Cond.code yX11_step cX11_step 3 (some .int) ∈ Ts := tsI (inT4 _ (List.mem_of_getElem? (i := 27) rfl)) rfl
abbrev cX11_wine : ByteArray := prog_1_method_5_code
def yX11_wine : MethodName := ⟨"DanceWine", "wine", "(II)I"⟩
def mX11_wine : MI := (11, yX11_wine, cX11_wine, 3, (some .int))
theorem kX11_wine : Cond.code yX11_wine cX11_wine 3 (some .int) ∈ Ts := tsI (inT4 _ (List.mem_of_getElem? (i := 35) rfl)) rfl
abbrev cX11_guest : ByteArray := prog_1_method_6_code
def yX11_guest : MethodName := ⟨"DanceWine", "guest", "(II)I"⟩
def mX11_guest : MI := (11, yX11_guest, cX11_guest, 3, (some .int))
theorem kX11_guest : Cond.code yX11_guest cX11_guest 3 (some .int) ∈ Ts := tsI (inT4 _ (List.mem_of_getElem? (i := 39) rfl)) rfl
abbrev cX11_glass : ByteArray := prog_1_method_7_code
def yX11_glass : MethodName := ⟨"DanceWine", "glass", "(II)I"⟩
def mX11_glass : MI := (11, yX11_glass, cX11_glass, 3, (some .int))
theorem kX11_glass : Cond.code yX11_glass cX11_glass 3 (some .int) ∈ Ts := tsI (inT4 _ (List.mem_of_getElem? (i := 86) rfl)) rfl
abbrev cX11_pour : ByteArray := prog_1_method_8_code
def yX11_pour : MethodName := ⟨"DanceWine", "pour", "(II)Z"⟩
def mX11_pour : MI := (11, yX11_pour, cX11_pour, 3, (some .boolean))
theorem kX11_pour : Cond.code yX11_pour cX11_pour 3 (some .boolean) ∈ Ts := tsI (inT4 _ (List.mem_of_getElem? (i := 90) rfl)) rfl
abbrev cX11_water : ByteArray := prog_1_method_9_code
def yX11_water : MethodName := ⟨"DanceWine", "water", "(I)Z"⟩
def mX11_water : MI := (11, yX11_water, cX11_water, 3, (some .boolean))
theorem kX11_water : Cond.code yX11_water cX11_water 3 (some .boolean) ∈ Ts := tsI (inT4 _ (List.mem_of_getElem? (i := 103) rfl)) rfl
abbrev cX11_undo : ByteArray := prog_1_method_10_code
def yX11_undo : MethodName := ⟨"DanceWine", "undo", "()Z"⟩
def mX11_undo : MI := (11, yX11_undo, cX11_undo, 2, (some .boolean))
theorem kX11_undo : Cond.code yX11_undo cX11_undo 2 (some .boolean) ∈ Ts := tsI (inT4 _ (List.mem_of_getElem? (i := 111) rfl)) rfl
abbrev cX11_walk : ByteArray := prog_1_method_11_code
def yX11_walk : MethodName := ⟨"DanceWine", "walk", "(II)I"⟩
def mX11_walk : MI := (11, yX11_walk, cX11_walk, 4, (some .int))
theorem kX11_walk : Cond.code yX11_walk cX11_walk 4 (some .int) ∈ Ts := tsI (inT4 _ (List.mem_of_getElem? (i := 135) rfl)) rfl
abbrev cX11_ball : ByteArray := prog_1_method_12_code
def yX11_ball : MethodName := ⟨"DanceWine", "ball", "(III)I"⟩
def mX11_ball : MI := (11, yX11_ball, cX11_ball, 4, (some .int))
theorem kX11_ball : Cond.code yX11_ball cX11_ball 4 (some .int) ∈ Ts := tsI (inT4 _ (List.mem_of_getElem? (i := 139) rfl)) rfl
abbrev cX11_fewest : ByteArray := prog_1_method_13_code
def yX11_fewest : MethodName := ⟨"DanceWine", "fewest", "(IIII)I"⟩
def mX11_fewest : MI := (11, yX11_fewest, cX11_fewest, 6, (some .int))
theorem kX11_fewest : Cond.code yX11_fewest cX11_fewest 6 (some .int) ∈ Ts := tsI (inT4 _ (List.mem_of_getElem? (i := 166) rfl)) rfl
abbrev cX11_send : ByteArray := prog_1_method_14_code
def yX11_send : MethodName := ⟨"DanceWine", "send", "(I)I"⟩
def mX11_send : MI := (11, yX11_send, cX11_send, 2, (some .int))
theorem kX11_send : Cond.code yX11_send cX11_send 2 (some .int) ∈ Ts := tsI (inT5 _ (List.mem_of_getElem? (i := 102) rfl)) rfl
abbrev cX11_best : ByteArray := prog_1_method_15_code
def yX11_best : MethodName := ⟨"DanceWine", "best", "(I)I"⟩
def mX11_best : MI := (11, yX11_best, cX11_best, 2, (some .int))
theorem kX11_best : Cond.code yX11_best cX11_best 2 (some .int) ∈ Ts := tsI (inT4 _ (List.mem_of_getElem? (i := 214) rfl)) rfl
abbrev cX11_served : ByteArray := prog_1_method_16_code
def yX11_served : MethodName := ⟨"DanceWine", "served", "(IIII)I"⟩
def mX11_served : MI := (11, yX11_served, cX11_served, 5, (some .int))
theorem kX11_served : Cond.code yX11_served cX11_served 5 (some .int) ∈ Ts := tsI (inT5 _ (List.mem_of_getElem? (i := 4) rfl)) rfl
abbrev cX11_row : ByteArray := prog_1_method_17_code
def yX11_row : MethodName := ⟨"DanceWine", "row", "(IIIIII)I"⟩
def mX11_row : MI := (11, yX11_row, cX11_row, 7, (some .int))
theorem kX11_row : Cond.code yX11_row cX11_row 7 (some .int) ∈ Ts := tsI (inT5 _ (List.mem_of_getElem? (i := 20) rfl)) rfl
abbrev cX11_couples : ByteArray := prog_1_method_18_code
def yX11_couples : MethodName := ⟨"DanceWine", "couples", "(I)I"⟩
def mX11_couples : MI := (11, yX11_couples, cX11_couples, 5, (some .int))
theorem kX11_couples : Cond.code yX11_couples cX11_couples 5 (some .int) ∈ Ts := tsI (inT5 _ (List.mem_of_getElem? (i := 24) rfl)) rfl
abbrev cX11_quarrel : ByteArray := prog_1_method_19_code
def yX11_quarrel : MethodName := ⟨"DanceWine", "quarrel", "(II)Z"⟩
def mX11_quarrel : MI := (11, yX11_quarrel, cX11_quarrel, 8, (some .boolean))
theorem kX11_quarrel : Cond.code yX11_quarrel cX11_quarrel 8 (some .boolean) ∈ Ts := tsI (inT5 _ (List.mem_of_getElem? (i := 34) rfl)) rfl
abbrev cX11_found : ByteArray := prog_1_method_20_code
def yX11_found : MethodName := ⟨"DanceWine", "found", "(I)I"⟩
def mX11_found : MI := (11, yX11_found, cX11_found, 4, (some .int))
theorem kX11_found : Cond.code yX11_found cX11_found 4 (some .int) ∈ Ts := tsI (inT5 _ (List.mem_of_getElem? (i := 39) rfl)) rfl
abbrev cX11_see : ByteArray := prog_1_method_21_code
def yX11_see : MethodName := ⟨"DanceWine", "see", "(III)Z"⟩
def mX11_see : MI := (11, yX11_see, cX11_see, 4, (some .boolean))
theorem kX11_see : Cond.code yX11_see cX11_see 4 (some .boolean) ∈ Ts := tsI (inT5 _ (List.mem_of_getElem? (i := 51) rfl)) rfl
abbrev cX11_read : ByteArray := prog_1_method_22_code
def yX11_read : MethodName := ⟨"DanceWine", "read", "(I)I"⟩
def mX11_read : MI := (11, yX11_read, cX11_read, 2, (some .int))
theorem kX11_read : Cond.code yX11_read cX11_read 2 (some .int) ∈ Ts := tsI (inT5 _ (List.mem_of_getElem? (i := 55) rfl)) rfl
abbrev cX11_dance : ByteArray := prog_1_method_23_code
def yX11_dance : MethodName := ⟨"DanceWine", "dance", "(II)I"⟩
def mX11_dance : MI := (11, yX11_dance, cX11_dance, 3, (some .int))
theorem kX11_dance : Cond.code yX11_dance cX11_dance 3 (some .int) ∈ Ts := tsI (inT5 _ (List.mem_of_getElem? (i := 78) rfl)) rfl
abbrev cX11_mark : ByteArray := prog_1_method_24_code
def yX11_mark : MethodName := ⟨"DanceWine", "mark", "(IZ)Z"⟩
def mX11_mark : MI := (11, yX11_mark, cX11_mark, 3, (some .boolean))
theorem kX11_mark : Cond.code yX11_mark cX11_mark 3 (some .boolean) ∈ Ts := tsI (inT5 _ (List.mem_of_getElem? (i := 82) rfl)) rfl
abbrev cX11_count : ByteArray := prog_1_method_25_code
def yX11_count : MethodName := ⟨"DanceWine", "count", "(I)I"⟩
def mX11_count : MI := (11, yX11_count, cX11_count, 2, (some .int))
theorem kX11_count : Cond.code yX11_count cX11_count 2 (some .int) ∈ Ts := tsI (inT5 _ (List.mem_of_getElem? (i := 90) rfl)) rfl
abbrev cX11_takeSigns : ByteArray := prog_1_method_26_code
def yX11_takeSigns : MethodName := ⟨"DanceWine", "takeSigns", "(J)V"⟩
def mX11_takeSigns : MI := (11, yX11_takeSigns, cX11_takeSigns, 6, none)
theorem kX11_takeSigns : Cond.code yX11_takeSigns cX11_takeSigns 6 none ∈ Ts := tsI (inT3 _ (List.mem_of_getElem? (i := 25) rfl)) rfl
abbrev cX11_isPose : ByteArray := prog_1_method_27_code
def yX11_isPose : MethodName := ⟨"DanceWine", "isPose", "(IIII)Z"⟩
def mX11_isPose : MI := (11, yX11_isPose, cX11_isPose, 5, (some .boolean))
theorem kX11_isPose : Cond.code yX11_isPose cX11_isPose 5 (some .boolean) ∈ Ts := tsI (inT5 _ (List.mem_of_getElem? (i := 8) rfl)) rfl
abbrev cX11_distance : ByteArray := prog_1_method_28_code
def yX11_distance : MethodName := ⟨"DanceWine", "distance", "(II)I"⟩
def mX11_distance : MI := (11, yX11_distance, cX11_distance, 2, (some .int))
theorem kX11_distance : Cond.code yX11_distance cX11_distance 2 (some .int) ∈ Ts := tsI (inT5 _ (List.mem_of_getElem? (i := 27) rfl)) rfl
abbrev cX11_changed : ByteArray := prog_1_method_29_code
def yX11_changed : MethodName := ⟨"DanceWine", "changed", "(I)V"⟩
def mX11_changed : MI := (11, yX11_changed, cX11_changed, 2, none)
theorem kX11_changed : Cond.code yX11_changed cX11_changed 2 none ∈ Ts := tsI (inT4 _ (List.mem_of_getElem? (i := 22) rfl)) rfl
abbrev cX11_allChanged : ByteArray := prog_1_method_30_code
def yX11_allChanged : MethodName := ⟨"DanceWine", "allChanged", "()V"⟩
def mX11_allChanged : MI := (11, yX11_allChanged, cX11_allChanged, 2, none)
theorem kX11_allChanged : Cond.code yX11_allChanged cX11_allChanged 2 none ∈ Ts := tsI (inT4 _ (List.mem_of_getElem? (i := 18) rfl)) rfl
abbrev cX11_routineOf : ByteArray := prog_1_method_31_code
def yX11_routineOf : MethodName := ⟨"DanceWine", "routineOf", "(I)LDanceWine$Routine;"⟩
def mX11_routineOf : MI := (11, yX11_routineOf, cX11_routineOf, 3, (some (.object "DanceWine$Routine")))
theorem kX11_routineOf : Cond.code yX11_routineOf cX11_routineOf 3 (some (.object "DanceWine$Routine")) ∈ Ts := tsI (inT4 _ (List.mem_of_getElem? (i := 47) rfl)) rfl
abbrev cX11_readyRoutines : ByteArray := prog_1_method_32_code
def yX11_readyRoutines : MethodName := ⟨"DanceWine", "readyRoutines", "()V"⟩
def mX11_readyRoutines : MI := (11, yX11_readyRoutines, cX11_readyRoutines, 2, none)
theorem kX11_readyRoutines : Cond.code yX11_readyRoutines cX11_readyRoutines 2 none ∈ Ts := tsI (inT4 _ (List.mem_of_getElem? (i := 143) rfl)) rfl
abbrev cX12_thrown : ByteArray := prog_14_method_1_code
def yX12_thrown : MethodName := ⟨"DanceWineModel", "thrown", "()I"⟩
def mX12_thrown : MI := (12, yX12_thrown, cX12_thrown, 1, (some .int))
theorem kX12_thrown : Cond.code yX12_thrown cX12_thrown 1 (some .int) ∈ Ts := tsI (inT5 _ (List.mem_of_getElem? (i := 178) rfl)) rfl
abbrev cX12_feed : ByteArray := prog_14_method_2_code
def yX12_feed : MethodName := ⟨"DanceWineModel", "feed", "(JJJ)I"⟩
def mX12_feed : MI := (12, yX12_feed, cX12_feed, 7, (some .int))
theorem kX12_feed : Cond.code yX12_feed cX12_feed 7 (some .int) ∈ Ts := tsI (inT5 _ (List.mem_of_getElem? (i := 182) rfl)) rfl
abbrev cX12_lay : ByteArray := prog_14_method_3_code
def yX12_lay : MethodName := ⟨"DanceWineModel", "lay", "(J)V"⟩
def mX12_lay : MI := (12, yX12_lay, cX12_lay, 5, none)
theorem kX12_lay : Cond.code yX12_lay cX12_lay 5 none ∈ Ts := tsI (inT5 _ (List.mem_of_getElem? (i := 187) rfl)) rfl
abbrev cX12_init : ByteArray := prog_14_method_4_code
def yX12_init : MethodName := ⟨"DanceWineModel", "<init>", "()V"⟩
def mX12_init : MI := (12, yX12_init, cX12_init, 2, none)
theorem kX12_init : Cond.code yX12_init cX12_init 2 none ∈ Ts := tsI (inT5 _ (List.mem_of_getElem? (i := 191) rfl)) rfl
abbrev cX12_isLetter : ByteArray := prog_14_method_5_code
def yX12_isLetter : MethodName := ⟨"DanceWineModel", "isLetter", "(I)Z"⟩
def mX12_isLetter : MI := (12, yX12_isLetter, cX12_isLetter, 1, (some .boolean))
theorem kX12_isLetter : Cond.code yX12_isLetter cX12_isLetter 1 (some .boolean) ∈ Ts := tsI (inT6 _ (List.mem_of_getElem? (i := 121) rfl)) rfl
abbrev cX12_isDigit : ByteArray := prog_14_method_6_code
def yX12_isDigit : MethodName := ⟨"DanceWineModel", "isDigit", "(I)Z"⟩
def mX12_isDigit : MI := (12, yX12_isDigit, cX12_isDigit, 1, (some .boolean))
theorem kX12_isDigit : Cond.code yX12_isDigit cX12_isDigit 1 (some .boolean) ∈ Ts := tsI (inT6 _ (List.mem_of_getElem? (i := 128) rfl)) rfl
abbrev cX12_rank : ByteArray := prog_14_method_7_code
def yX12_rank : MethodName := ⟨"DanceWineModel", "rank", "(I)I"⟩
def mX12_rank : MI := (12, yX12_rank, cX12_rank, 1, (some .int))
theorem kX12_rank : Cond.code yX12_rank cX12_rank 1 (some .int) ∈ Ts := tsI (inT6 _ (List.mem_of_getElem? (i := 125) rfl)) rfl
abbrev cX12_isSignOf : ByteArray := prog_14_method_8_code
def yX12_isSignOf : MethodName := ⟨"DanceWineModel", "isSignOf", "(I)Z"⟩
def mX12_isSignOf : MI := (12, yX12_isSignOf, cX12_isSignOf, 1, (some .boolean))
theorem kX12_isSignOf : Cond.code yX12_isSignOf cX12_isSignOf 1 (some .boolean) ∈ Ts := tsI (inT6 _ (List.mem_of_getElem? (i := 133) rfl)) rfl
abbrev cX12_cutAll : ByteArray := prog_14_method_9_code
def yX12_cutAll : MethodName := ⟨"DanceWineModel", "cutAll", "()V"⟩
def mX12_cutAll : MI := (12, yX12_cutAll, cX12_cutAll, 7, none)
theorem kX12_cutAll : Cond.code yX12_cutAll cX12_cutAll 7 none ∈ Ts := tsI (inT6 _ (List.mem_of_getElem? (i := 118) rfl)) rfl
abbrev cX12_wrong : ByteArray := prog_14_method_10_code
def yX12_wrong : MethodName := ⟨"DanceWineModel", "wrong", "(I)V"⟩
def mX12_wrong : MI := (12, yX12_wrong, cX12_wrong, 2, none)
theorem kX12_wrong : Cond.code yX12_wrong cX12_wrong 2 none ∈ Ts := tsI (inT6 _ (List.mem_of_getElem? (i := 149) rfl)) rfl
abbrev cX12_isSign : ByteArray := prog_14_method_11_code
def yX12_isSign : MethodName := ⟨"DanceWineModel", "isSign", "(I)Z"⟩
def mX12_isSign : MI := (12, yX12_isSign, cX12_isSign, 2, (some .boolean))
theorem kX12_isSign : Cond.code yX12_isSign cX12_isSign 2 (some .boolean) ∈ Ts := tsI (inT6 _ (List.mem_of_getElem? (i := 161) rfl)) rfl
abbrev cX12_isWord : ByteArray := prog_14_method_12_code
def yX12_isWord : MethodName := ⟨"DanceWineModel", "isWord", "(I)Z"⟩
def mX12_isWord : MI := (12, yX12_isWord, cX12_isWord, 2, (some .boolean))
theorem kX12_isWord : Cond.code yX12_isWord cX12_isWord 2 (some .boolean) ∈ Ts := tsI (inT6 _ (List.mem_of_getElem? (i := 145) rfl)) rfl
abbrev cX12_takeSign : ByteArray := prog_14_method_13_code
def yX12_takeSign : MethodName := ⟨"DanceWineModel", "takeSign", "(I)V"⟩
def mX12_takeSign : MI := (12, yX12_takeSign, cX12_takeSign, 2, none)
theorem kX12_takeSign : Cond.code yX12_takeSign cX12_takeSign 2 none ∈ Ts := tsI (inT6 _ (List.mem_of_getElem? (i := 157) rfl)) rfl
abbrev cX12_hasSign : ByteArray := prog_14_method_14_code
def yX12_hasSign : MethodName := ⟨"DanceWineModel", "hasSign", "(I)Z"⟩
def mX12_hasSign : MI := (12, yX12_hasSign, cX12_hasSign, 3, (some .boolean))
theorem kX12_hasSign : Cond.code yX12_hasSign cX12_hasSign 3 (some .boolean) ∈ Ts := tsI (inT7 _ (List.mem_of_getElem? (i := 5) rfl)) rfl
abbrev cX12_hasWord : ByteArray := prog_14_method_15_code
def yX12_hasWord : MethodName := ⟨"DanceWineModel", "hasWord", "(I)Z"⟩
def mX12_hasWord : MI := (12, yX12_hasWord, cX12_hasWord, 3, (some .boolean))
theorem kX12_hasWord : Cond.code yX12_hasWord cX12_hasWord 3 (some .boolean) ∈ Ts := tsI (inT6 _ (List.mem_of_getElem? (i := 141) rfl)) rfl
abbrev cX12_takeWord : ByteArray := prog_14_method_16_code
def yX12_takeWord : MethodName := ⟨"DanceWineModel", "takeWord", "(I)V"⟩
def mX12_takeWord : MI := (12, yX12_takeWord, cX12_takeWord, 2, none)
theorem kX12_takeWord : Cond.code yX12_takeWord cX12_takeWord 2 none ∈ Ts := tsI (inT6 _ (List.mem_of_getElem? (i := 137) rfl)) rfl
abbrev cX12_within : ByteArray := prog_14_method_17_code
def yX12_within : MethodName := ⟨"DanceWineModel", "within", "(III)Z"⟩
def mX12_within : MI := (12, yX12_within, cX12_within, 3, (some .boolean))
theorem kX12_within : Cond.code yX12_within cX12_within 3 (some .boolean) ∈ Ts := tsI (inT7 _ (List.mem_of_getElem? (i := 32) rfl)) rfl
abbrev cX12_takeNumber : ByteArray := prog_14_method_18_code
def yX12_takeNumber : MethodName := ⟨"DanceWineModel", "takeNumber", "(II)I"⟩
def mX12_takeNumber : MI := (12, yX12_takeNumber, cX12_takeNumber, 3, (some .int))
theorem kX12_takeNumber : Cond.code yX12_takeNumber cX12_takeNumber 3 (some .int) ∈ Ts := tsI (inT6 _ (List.mem_of_getElem? (i := 153) rfl)) rfl
abbrev cX12_takeAfter : ByteArray := prog_14_method_19_code
def yX12_takeAfter : MethodName := ⟨"DanceWineModel", "takeAfter", "(III)I"⟩
def mX12_takeAfter : MI := (12, yX12_takeAfter, cX12_takeAfter, 4, (some .int))
theorem kX12_takeAfter : Cond.code yX12_takeAfter cX12_takeAfter 4 (some .int) ∈ Ts := tsI (inT6 _ (List.mem_of_getElem? (i := 205) rfl)) rfl
abbrev cX12_isName : ByteArray := prog_14_method_20_code
def yX12_isName : MethodName := ⟨"DanceWineModel", "isName", "()Z"⟩
def mX12_isName : MI := (12, yX12_isName, cX12_isName, 3, (some .boolean))
theorem kX12_isName : Cond.code yX12_isName cX12_isName 3 (some .boolean) ∈ Ts := tsI (inT6 _ (List.mem_of_getElem? (i := 189) rfl)) rfl
abbrev cX12_find : ByteArray := prog_14_method_21_code
def yX12_find : MethodName := ⟨"DanceWineModel", "find", "()I"⟩
def mX12_find : MI := (12, yX12_find, cX12_find, 2, (some .int))
theorem kX12_find : Cond.code yX12_find cX12_find 2 (some .int) ∈ Ts := tsI (inT6 _ (List.mem_of_getElem? (i := 193) rfl)) rfl
abbrev cX12_cellar : ByteArray := prog_14_method_22_code
def yX12_cellar : MethodName := ⟨"DanceWineModel", "cellar", "()I"⟩
def mX12_cellar : MI := (12, yX12_cellar, cX12_cellar, 2, (some .int))
theorem kX12_cellar : Cond.code yX12_cellar cX12_cellar 2 (some .int) ∈ Ts := tsI (inT6 _ (List.mem_of_getElem? (i := 114) rfl)) rfl
abbrev cX12_readLine : ByteArray := prog_14_method_23_code
def yX12_readLine : MethodName := ⟨"DanceWineModel", "readLine", "()V"⟩
def mX12_readLine : MI := (12, yX12_readLine, cX12_readLine, 1, none)
theorem kX12_readLine : Cond.code yX12_readLine cX12_readLine 1 none ∈ Ts := tsI (inT6 _ (List.mem_of_getElem? (i := 165) rfl)) rfl
abbrev cX12_takeCell : ByteArray := prog_14_method_24_code
def yX12_takeCell : MethodName := ⟨"DanceWineModel", "takeCell", "(I)I"⟩
def mX12_takeCell : MI := (12, yX12_takeCell, cX12_takeCell, 7, (some .int))
theorem kX12_takeCell : Cond.code yX12_takeCell cX12_takeCell 7 (some .int) ∈ Ts := tsI (inT6 _ (List.mem_of_getElem? (i := 173) rfl)) rfl
abbrev cX12_readPillar : ByteArray := prog_14_method_25_code
def yX12_readPillar : MethodName := ⟨"DanceWineModel", "readPillar", "()V"⟩
def mX12_readPillar : MI := (12, yX12_readPillar, cX12_readPillar, 2, none)
theorem kX12_readPillar : Cond.code yX12_readPillar cX12_readPillar 2 none ∈ Ts := tsI (inT6 _ (List.mem_of_getElem? (i := 169) rfl)) rfl
abbrev cX12_readCarriage : ByteArray := prog_14_method_26_code
def yX12_readCarriage : MethodName := ⟨"DanceWineModel", "readCarriage", "()V"⟩
def mX12_readCarriage : MI := (12, yX12_readCarriage, cX12_readCarriage, 1, none)
theorem kX12_readCarriage : Cond.code yX12_readCarriage cX12_readCarriage 1 none ∈ Ts := tsI (inT6 _ (List.mem_of_getElem? (i := 177) rfl)) rfl
abbrev cX12_readName : ByteArray := prog_14_method_27_code
def yX12_readName : MethodName := ⟨"DanceWineModel", "readName", "(I)V"⟩
def mX12_readName : MI := (12, yX12_readName, cX12_readName, 2, none)
theorem kX12_readName : Cond.code yX12_readName cX12_readName 2 none ∈ Ts := tsI (inT6 _ (List.mem_of_getElem? (i := 185) rfl)) rfl
abbrev cX12_stepHere : ByteArray := prog_14_method_28_code
def yX12_stepHere : MethodName := ⟨"DanceWineModel", "stepHere", "()I"⟩
def mX12_stepHere : MI := (12, yX12_stepHere, cX12_stepHere, 3, (some .int))
theorem kX12_stepHere : Cond.code yX12_stepHere cX12_stepHere 3 (some .int) ∈ Ts := tsI (inT6 _ (List.mem_of_getElem? (i := 197) rfl)) rfl
abbrev cX12_readDance : ByteArray := prog_14_method_29_code
def yX12_readDance : MethodName := ⟨"DanceWineModel", "readDance", "()V"⟩
def mX12_readDance : MI := (12, yX12_readDance, cX12_readDance, 3, none)
theorem kX12_readDance : Cond.code yX12_readDance cX12_readDance 3 none ∈ Ts := tsI (inT6 _ (List.mem_of_getElem? (i := 181) rfl)) rfl
abbrev cX12_readWine : ByteArray := prog_14_method_30_code
def yX12_readWine : MethodName := ⟨"DanceWineModel", "readWine", "()V"⟩
def mX12_readWine : MI := (12, yX12_readWine, cX12_readWine, 3, none)
theorem kX12_readWine : Cond.code yX12_readWine cX12_readWine 3 none ∈ Ts := tsI (inT6 _ (List.mem_of_getElem? (i := 201) rfl)) rfl
abbrev cX12_readPart : ByteArray := prog_14_method_31_code
def yX12_readPart : MethodName := ⟨"DanceWineModel", "readPart", "(I)V"⟩
def mX12_readPart : MI := (12, yX12_readPart, cX12_readPart, 5, none)
theorem kX12_readPart : Cond.code yX12_readPart cX12_readPart 5 none ∈ Ts := tsI (inT6 _ (List.mem_of_getElem? (i := 209) rfl)) rfl
abbrev cX12_readGuest : ByteArray := prog_14_method_32_code
def yX12_readGuest : MethodName := ⟨"DanceWineModel", "readGuest", "()V"⟩
def mX12_readGuest : MI := (12, yX12_readGuest, cX12_readGuest, 4, none)
theorem kX12_readGuest : Cond.code yX12_readGuest cX12_readGuest 4 none ∈ Ts := tsI (inT6 _ (List.mem_of_getElem? (i := 213) rfl)) rfl
abbrev cX12_readLaw : ByteArray := prog_14_method_33_code
def yX12_readLaw : MethodName := ⟨"DanceWineModel", "readLaw", "()V"⟩
def mX12_readLaw : MI := (12, yX12_readLaw, cX12_readLaw, 1, none)
theorem kX12_readLaw : Cond.code yX12_readLaw cX12_readLaw 1 none ∈ Ts := tsI (inT6 _ (List.mem_of_getElem? (i := 217) rfl)) rfl
abbrev cX12_emit : ByteArray := prog_14_method_34_code
def yX12_emit : MethodName := ⟨"DanceWineModel", "emit", "(II)V"⟩
def mX12_emit : MI := (12, yX12_emit, cX12_emit, 3, none)
theorem kX12_emit : Cond.code yX12_emit cX12_emit 3 none ∈ Ts := tsI (inT7 _ (List.mem_of_getElem? (i := 1) rfl)) rfl
abbrev cX12_all : ByteArray := prog_14_method_35_code
def yX12_all : MethodName := ⟨"DanceWineModel", "all", "(I)V"⟩
def mX12_all : MI := (12, yX12_all, cX12_all, 3, none)
theorem kX12_all : Cond.code yX12_all cX12_all 3 none ∈ Ts := tsI (inT6 _ (List.mem_of_getElem? (i := 221) rfl)) rfl
abbrev cX12_test : ByteArray := prog_14_method_36_code
def yX12_test : MethodName := ⟨"DanceWineModel", "test", "(I)V"⟩
def mX12_test : MI := (12, yX12_test, cX12_test, 3, none)
theorem kX12_test : Cond.code yX12_test cX12_test 3 none ∈ Ts := tsI (inT6 _ (List.mem_of_getElem? (i := 225) rfl)) rfl
abbrev cX12_sums : ByteArray := prog_14_method_37_code
def yX12_sums : MethodName := ⟨"DanceWineModel", "sums", "(I)V"⟩
def mX12_sums : MI := (12, yX12_sums, cX12_sums, 3, none)
theorem kX12_sums : Cond.code yX12_sums cX12_sums 3 none ∈ Ts := tsI (inT6 _ (List.mem_of_getElem? (i := 229) rfl)) rfl
abbrev cX12_products : ByteArray := prog_14_method_38_code
def yX12_products : MethodName := ⟨"DanceWineModel", "products", "(I)V"⟩
def mX12_products : MI := (12, yX12_products, cX12_products, 2, none)
theorem kX12_products : Cond.code yX12_products cX12_products 2 none ∈ Ts := tsI (inT6 _ (List.mem_of_getElem? (i := 233) rfl)) rfl
abbrev cX12_takePart : ByteArray := prog_14_method_39_code
def yX12_takePart : MethodName := ⟨"DanceWineModel", "takePart", "(I)V"⟩
def mX12_takePart : MI := (12, yX12_takePart, cX12_takePart, 5, none)
theorem kX12_takePart : Cond.code yX12_takePart cX12_takePart 5 none ∈ Ts := tsI (inT6 _ (List.mem_of_getElem? (i := 237) rfl)) rfl
abbrev cX12_worthAt : ByteArray := prog_14_method_40_code
def yX12_worthAt : MethodName := ⟨"DanceWineModel", "worthAt", "(I)I"⟩
def mX12_worthAt : MI := (12, yX12_worthAt, cX12_worthAt, 5, (some .int))
theorem kX12_worthAt : Cond.code yX12_worthAt cX12_worthAt 5 (some .int) ∈ Ts := tsI (inT7 _ (List.mem_of_getElem? (i := 68) rfl)) rfl
abbrev cX12_both : ByteArray := prog_14_method_41_code
def yX12_both : MethodName := ⟨"DanceWineModel", "both", "(III)I"⟩
def mX12_both : MI := (12, yX12_both, cX12_both, 3, (some .int))
theorem kX12_both : Cond.code yX12_both cX12_both 3 (some .int) ∈ Ts := tsI (inT7 _ (List.mem_of_getElem? (i := 71) rfl)) rfl
abbrev cX12_copies : ByteArray := prog_14_method_42_code
def yX12_copies : MethodName := ⟨"DanceWineModel", "copies", "(III)V"⟩
def mX12_copies : MI := (12, yX12_copies, cX12_copies, 5, none)
theorem kX12_copies : Cond.code yX12_copies cX12_copies 5 none ∈ Ts := tsI (inT7 _ (List.mem_of_getElem? (i := 87) rfl)) rfl
abbrev cX12_keeps : ByteArray := prog_14_method_43_code
def yX12_keeps : MethodName := ⟨"DanceWineModel", "keeps", "()V"⟩
def mX12_keeps : MI := (12, yX12_keeps, cX12_keeps, 2, none)
theorem kX12_keeps : Cond.code yX12_keeps cX12_keeps 2 none ∈ Ts := tsI (inT7 _ (List.mem_of_getElem? (i := 83) rfl)) rfl
abbrev cX12_wines : ByteArray := prog_14_method_44_code
def yX12_wines : MethodName := ⟨"DanceWineModel", "wines", "()I"⟩
def mX12_wines : MI := (12, yX12_wines, cX12_wines, 1, (some .int))
theorem kX12_wines : Cond.code yX12_wines cX12_wines 1 (some .int) ∈ Ts := tsI (inT7 _ (List.mem_of_getElem? (i := 17) rfl)) rfl
abbrev cX12_guests : ByteArray := prog_14_method_45_code
def yX12_guests : MethodName := ⟨"DanceWineModel", "guests", "()I"⟩
def mX12_guests : MI := (12, yX12_guests, cX12_guests, 1, (some .int))
theorem kX12_guests : Cond.code yX12_guests cX12_guests 1 (some .int) ∈ Ts := tsI (inT7 _ (List.mem_of_getElem? (i := 44) rfl)) rfl
abbrev cX12_isWine : ByteArray := prog_14_method_46_code
def yX12_isWine : MethodName := ⟨"DanceWineModel", "isWine", "(I)Z"⟩
def mX12_isWine : MI := (12, yX12_isWine, cX12_isWine, 2, (some .boolean))
theorem kX12_isWine : Cond.code yX12_isWine cX12_isWine 2 (some .boolean) ∈ Ts := tsI (inT7 _ (List.mem_of_getElem? (i := 13) rfl)) rfl
abbrev cX12_isGuest : ByteArray := prog_14_method_47_code
def yX12_isGuest : MethodName := ⟨"DanceWineModel", "isGuest", "(I)Z"⟩
def mX12_isGuest : MI := (12, yX12_isGuest, cX12_isGuest, 2, (some .boolean))
theorem kX12_isGuest : Cond.code yX12_isGuest cX12_isGuest 2 (some .boolean) ∈ Ts := tsI (inT7 _ (List.mem_of_getElem? (i := 40) rfl)) rfl
abbrev cX12_guestOf : ByteArray := prog_14_method_48_code
def yX12_guestOf : MethodName := ⟨"DanceWineModel", "guestOf", "(II)I"⟩
def mX12_guestOf : MI := (12, yX12_guestOf, cX12_guestOf, 3, (some .int))
theorem kX12_guestOf : Cond.code yX12_guestOf cX12_guestOf 3 (some .int) ∈ Ts := tsI (inT7 _ (List.mem_of_getElem? (i := 60) rfl)) rfl
abbrev cX12_isIn : ByteArray := prog_14_method_49_code
def yX12_isIn : MethodName := ⟨"DanceWineModel", "isIn", "(II)Z"⟩
def mX12_isIn : MI := (12, yX12_isIn, cX12_isIn, 3, (some .boolean))
theorem kX12_isIn : Cond.code yX12_isIn cX12_isIn 3 (some .boolean) ∈ Ts := tsI (inT7 _ (List.mem_of_getElem? (i := 125) rfl)) rfl
abbrev cX12_lengthOf : ByteArray := prog_14_method_50_code
def yX12_lengthOf : MethodName := ⟨"DanceWineModel", "lengthOf", "(I)I"⟩
def mX12_lengthOf : MI := (12, yX12_lengthOf, cX12_lengthOf, 5, (some .int))
theorem kX12_lengthOf : Cond.code yX12_lengthOf cX12_lengthOf 5 (some .int) ∈ Ts := tsI (inT7 _ (List.mem_of_getElem? (i := 21) rfl)) rfl
abbrev cX12_stepOf : ByteArray := prog_14_method_51_code
def yX12_stepOf : MethodName := ⟨"DanceWineModel", "stepOf", "(II)I"⟩
def mX12_stepOf : MI := (12, yX12_stepOf, cX12_stepOf, 7, (some .int))
theorem kX12_stepOf : Cond.code yX12_stepOf cX12_stepOf 7 (some .int) ∈ Ts := tsI (inT7 _ (List.mem_of_getElem? (i := 25) rfl)) rfl
abbrev cX12_isLost : ByteArray := prog_14_method_52_code
def yX12_isLost : MethodName := ⟨"DanceWineModel", "isLost", "(IIII)Z"⟩
def mX12_isLost : MI := (12, yX12_isLost, cX12_isLost, 5, (some .boolean))
theorem kX12_isLost : Cond.code yX12_isLost cX12_isLost 5 (some .boolean) ∈ Ts := tsI (inT7 _ (List.mem_of_getElem? (i := 64) rfl)) rfl
abbrev cX12_laysSteps : ByteArray := prog_14_method_53_code
def yX12_laysSteps : MethodName := ⟨"DanceWineModel", "laysSteps", "(II)V"⟩
def mX12_laysSteps : MI := (12, yX12_laysSteps, cX12_laysSteps, 9, none)
theorem kX12_laysSteps : Cond.code yX12_laysSteps cX12_laysSteps 9 none ∈ Ts := tsI (inT7 _ (List.mem_of_getElem? (i := 56) rfl)) rfl
abbrev cX12_drunkBy : ByteArray := prog_14_method_54_code
def yX12_drunkBy : MethodName := ⟨"DanceWineModel", "drunkBy", "(I)I"⟩
def mX12_drunkBy : MI := (12, yX12_drunkBy, cX12_drunkBy, 2, (some .int))
theorem kX12_drunkBy : Cond.code yX12_drunkBy cX12_drunkBy 2 (some .int) ∈ Ts := tsI (inT7 _ (List.mem_of_getElem? (i := 52) rfl)) rfl
abbrev cX12_laysOwn : ByteArray := prog_14_method_55_code
def yX12_laysOwn : MethodName := ⟨"DanceWineModel", "laysOwn", "(I)V"⟩
def mX12_laysOwn : MI := (12, yX12_laysOwn, cX12_laysOwn, 3, none)
theorem kX12_laysOwn : Cond.code yX12_laysOwn cX12_laysOwn 3 none ∈ Ts := tsI (inT7 _ (List.mem_of_getElem? (i := 48) rfl)) rfl
abbrev cX12_across : ByteArray := prog_14_method_56_code
def yX12_across : MethodName := ⟨"DanceWineModel", "across", "(I)I"⟩
def mX12_across : MI := (12, yX12_across, cX12_across, 1, (some .int))
theorem kX12_across : Cond.code yX12_across cX12_across 1 (some .int) ∈ Ts := tsI (inT7 _ (List.mem_of_getElem? (i := 114) rfl)) rfl
abbrev cX12_up : ByteArray := prog_14_method_57_code
def yX12_up : MethodName := ⟨"DanceWineModel", "up", "(I)I"⟩
def mX12_up : MI := (12, yX12_up, cX12_up, 1, (some .int))
theorem kX12_up : Cond.code yX12_up cX12_up 1 (some .int) ∈ Ts := tsI (inT7 _ (List.mem_of_getElem? (i := 117) rfl)) rfl
abbrev cX12_isFree : ByteArray := prog_14_method_58_code
def yX12_isFree : MethodName := ⟨"DanceWineModel", "isFree", "(IIIZ)Z"⟩
def mX12_isFree : MI := (12, yX12_isFree, cX12_isFree, 7, (some .boolean))
theorem kX12_isFree : Cond.code yX12_isFree cX12_isFree 7 (some .boolean) ∈ Ts := tsI (inT7 _ (List.mem_of_getElem? (i := 121) rfl)) rfl
abbrev cX12_takesStep : ByteArray := prog_14_method_59_code
def yX12_takesStep : MethodName := ⟨"DanceWineModel", "takesStep", "(IIZ)V"⟩
def mX12_takesStep : MI := (12, yX12_takesStep, cX12_takesStep, 8, none)
theorem kX12_takesStep : Cond.code yX12_takesStep cX12_takesStep 8 none ∈ Ts := tsI (inT7 _ (List.mem_of_getElem? (i := 111) rfl)) rfl
abbrev cX12_starts : ByteArray := prog_14_method_60_code
def yX12_starts : MethodName := ⟨"DanceWineModel", "starts", "(I)V"⟩
def mX12_starts : MI := (12, yX12_starts, cX12_starts, 2, none)
theorem kX12_starts : Cond.code yX12_starts cX12_starts 2 none ∈ Ts := tsI (inT7 _ (List.mem_of_getElem? (i := 107) rfl)) rfl
abbrev cX12_walks : ByteArray := prog_14_method_61_code
def yX12_walks : MethodName := ⟨"DanceWineModel", "walks", "(IZ)V"⟩
def mX12_walks : MI := (12, yX12_walks, cX12_walks, 4, none)
theorem kX12_walks : Cond.code yX12_walks cX12_walks 4 none ∈ Ts := tsI (inT7 _ (List.mem_of_getElem? (i := 103) rfl)) rfl
abbrev cX12_cellNow : ByteArray := prog_14_method_62_code
def yX12_cellNow : MethodName := ⟨"DanceWineModel", "cellNow", "()I"⟩
def mX12_cellNow : MI := (12, yX12_cellNow, cX12_cellNow, 1, (some .int))
theorem kX12_cellNow : Cond.code yX12_cellNow cX12_cellNow 1 (some .int) ∈ Ts := tsI (inT7 _ (List.mem_of_getElem? (i := 129) rfl)) rfl
abbrev cX12_step : ByteArray := prog_14_method_63_code
def yX12_step : MethodName := ⟨"DanceWineModel", "step", "(II)I"⟩
def mX12_step : MI := (12, yX12_step, cX12_step, 3, (some .int))
theorem kX12_step : Cond.code yX12_step cX12_step 3 (some .int) ∈ Ts := tsI (inT7 _ (List.mem_of_getElem? (i := 9) rfl)) rfl
abbrev cX12_wine : ByteArray := prog_14_method_64_code
def yX12_wine : MethodName := ⟨"DanceWineModel", "wine", "(II)I"⟩
def mX12_wine : MI := (12, yX12_wine, cX12_wine, 3, (some .int))
theorem kX12_wine : Cond.code yX12_wine cX12_wine 3 (some .int) ∈ Ts := tsI (inT7 _ (List.mem_of_getElem? (i := 29) rfl)) rfl
abbrev cX12_guest : ByteArray := prog_14_method_65_code
def yX12_guest : MethodName := ⟨"DanceWineModel", "guest", "(II)I"⟩
def mX12_guest : MI := (12, yX12_guest, cX12_guest, 3, (some .int))
theorem kX12_guest : Cond.code yX12_guest cX12_guest 3 (some .int) ∈ Ts := tsI (inT7 _ (List.mem_of_getElem? (i := 36) rfl)) rfl
abbrev cX12_glass : ByteArray := prog_14_method_66_code
def yX12_glass : MethodName := ⟨"DanceWineModel", "glass", "(II)I"⟩
def mX12_glass : MI := (12, yX12_glass, cX12_glass, 3, (some .int))
theorem kX12_glass : Cond.code yX12_glass cX12_glass 3 (some .int) ∈ Ts := tsI (inT7 _ (List.mem_of_getElem? (i := 75) rfl)) rfl
abbrev cX12_pour : ByteArray := prog_14_method_67_code
def yX12_pour : MethodName := ⟨"DanceWineModel", "pour", "(II)Z"⟩
def mX12_pour : MI := (12, yX12_pour, cX12_pour, 3, (some .boolean))
theorem kX12_pour : Cond.code yX12_pour cX12_pour 3 (some .boolean) ∈ Ts := tsI (inT7 _ (List.mem_of_getElem? (i := 79) rfl)) rfl
abbrev cX12_water : ByteArray := prog_14_method_68_code
def yX12_water : MethodName := ⟨"DanceWineModel", "water", "(I)Z"⟩
def mX12_water : MI := (12, yX12_water, cX12_water, 2, (some .boolean))
theorem kX12_water : Cond.code yX12_water cX12_water 2 (some .boolean) ∈ Ts := tsI (inT7 _ (List.mem_of_getElem? (i := 91) rfl)) rfl
abbrev cX12_undo : ByteArray := prog_14_method_69_code
def yX12_undo : MethodName := ⟨"DanceWineModel", "undo", "()Z"⟩
def mX12_undo : MI := (12, yX12_undo, cX12_undo, 1, (some .boolean))
theorem kX12_undo : Cond.code yX12_undo cX12_undo 1 (some .boolean) ∈ Ts := tsI (inT7 _ (List.mem_of_getElem? (i := 95) rfl)) rfl
abbrev cX12_walk : ByteArray := prog_14_method_70_code
def yX12_walk : MethodName := ⟨"DanceWineModel", "walk", "(II)I"⟩
def mX12_walk : MI := (12, yX12_walk, cX12_walk, 3, (some .int))
theorem kX12_walk : Cond.code yX12_walk cX12_walk 3 (some .int) ∈ Ts := tsI (inT7 _ (List.mem_of_getElem? (i := 99) rfl)) rfl
abbrev cX12_draw : ByteArray := prog_14_method_71_code
def yX12_draw : MethodName := ⟨"DanceWineModel", "draw", "(I)I"⟩
def mX12_draw : MI := (12, yX12_draw, cX12_draw, 2, (some .int))
theorem kX12_draw : Cond.code yX12_draw cX12_draw 2 (some .int) ∈ Ts := tsI (inT7 _ (List.mem_of_getElem? (i := 141) rfl)) rfl
abbrev cX12_dances : ByteArray := prog_14_method_72_code
def yX12_dances : MethodName := ⟨"DanceWineModel", "dances", "(I)I"⟩
def mX12_dances : MI := (12, yX12_dances, cX12_dances, 6, (some .int))
theorem kX12_dances : Cond.code yX12_dances cX12_dances 6 (some .int) ∈ Ts := tsI (inT7 _ (List.mem_of_getElem? (i := 137) rfl)) rfl
abbrev cX12_ball : ByteArray := prog_14_method_73_code
def yX12_ball : MethodName := ⟨"DanceWineModel", "ball", "(III)I"⟩
def mX12_ball : MI := (12, yX12_ball, cX12_ball, 5, (some .int))
theorem kX12_ball : Cond.code yX12_ball cX12_ball 5 (some .int) ∈ Ts := tsI (inT7 _ (List.mem_of_getElem? (i := 133) rfl)) rfl
abbrev cX12_isAsMany : ByteArray := prog_14_method_74_code
def yX12_isAsMany : MethodName := ⟨"DanceWineModel", "isAsMany", "(I)Z"⟩
def mX12_isAsMany : MI := (12, yX12_isAsMany, cX12_isAsMany, 6, (some .boolean))
theorem kX12_isAsMany : Cond.code yX12_isAsMany cX12_isAsMany 6 (some .boolean) ∈ Ts := tsI (inT7 _ (List.mem_of_getElem? (i := 157) rfl)) rfl
abbrev cX12_findsRow : ByteArray := prog_14_method_75_code
def yX12_findsRow : MethodName := ⟨"DanceWineModel", "findsRow", "(IIII)V"⟩
def mX12_findsRow : MI := (12, yX12_findsRow, cX12_findsRow, 6, none)
theorem kX12_findsRow : Cond.code yX12_findsRow cX12_findsRow 6 none ∈ Ts := tsI (inT7 _ (List.mem_of_getElem? (i := 153) rfl)) rfl
abbrev cX12_fewest : ByteArray := prog_14_method_76_code
def yX12_fewest : MethodName := ⟨"DanceWineModel", "fewest", "(IIII)I"⟩
def mX12_fewest : MI := (12, yX12_fewest, cX12_fewest, 6, (some .int))
theorem kX12_fewest : Cond.code yX12_fewest cX12_fewest 6 (some .int) ∈ Ts := tsI (inT7 _ (List.mem_of_getElem? (i := 149) rfl)) rfl
abbrev cX12_sends : ByteArray := prog_14_method_77_code
def yX12_sends : MethodName := ⟨"DanceWineModel", "sends", "()I"⟩
def mX12_sends : MI := (12, yX12_sends, cX12_sends, 5, (some .int))
theorem kX12_sends : Cond.code yX12_sends cX12_sends 5 (some .int) ∈ Ts := tsI (inT7 _ (List.mem_of_getElem? (i := 169) rfl)) rfl
abbrev cX12_isOrder : ByteArray := prog_14_method_78_code
def yX12_isOrder : MethodName := ⟨"DanceWineModel", "isOrder", "(I)Z"⟩
def mX12_isOrder : MI := (12, yX12_isOrder, cX12_isOrder, 6, (some .boolean))
theorem kX12_isOrder : Cond.code yX12_isOrder cX12_isOrder 6 (some .boolean) ∈ Ts := tsI (inT7 _ (List.mem_of_getElem? (i := 165) rfl)) rfl
abbrev cX12_send : ByteArray := prog_14_method_79_code
def yX12_send : MethodName := ⟨"DanceWineModel", "send", "(I)I"⟩
def mX12_send : MI := (12, yX12_send, cX12_send, 2, (some .int))
theorem kX12_send : Cond.code yX12_send cX12_send 2 (some .int) ∈ Ts := tsI (inT7 _ (List.mem_of_getElem? (i := 161) rfl)) rfl
abbrev cX12_bits : ByteArray := prog_14_method_80_code
def yX12_bits : MethodName := ⟨"DanceWineModel", "bits", "(I)I"⟩
def mX12_bits : MI := (12, yX12_bits, cX12_bits, 3, (some .int))
theorem kX12_bits : Cond.code yX12_bits cX12_bits 3 (some .int) ∈ Ts := tsI (inT7 _ (List.mem_of_getElem? (i := 180) rfl)) rfl
abbrev cX12_triesOrder : ByteArray := prog_14_method_81_code
def yX12_triesOrder : MethodName := ⟨"DanceWineModel", "triesOrder", "(II)V"⟩
def mX12_triesOrder : MI := (12, yX12_triesOrder, cX12_triesOrder, 5, none)
theorem kX12_triesOrder : Cond.code yX12_triesOrder cX12_triesOrder 5 none ∈ Ts := tsI (inT7 _ (List.mem_of_getElem? (i := 177) rfl)) rfl
abbrev cX12_best : ByteArray := prog_14_method_82_code
def yX12_best : MethodName := ⟨"DanceWineModel", "best", "(I)I"⟩
def mX12_best : MI := (12, yX12_best, cX12_best, 2, (some .int))
theorem kX12_best : Cond.code yX12_best cX12_best 2 (some .int) ∈ Ts := tsI (inT7 _ (List.mem_of_getElem? (i := 173) rfl)) rfl
abbrev cX12_serves : ByteArray := prog_14_method_83_code
def yX12_serves : MethodName := ⟨"DanceWineModel", "serves", "(IIIIII)V"⟩
def mX12_serves : MI := (12, yX12_serves, cX12_serves, 8, none)
theorem kX12_serves : Cond.code yX12_serves cX12_serves 8 none ∈ Ts := tsI (inT7 _ (List.mem_of_getElem? (i := 192) rfl)) rfl
abbrev cX12_findServed : ByteArray := prog_14_method_84_code
def yX12_findServed : MethodName := ⟨"DanceWineModel", "findServed", "(IIIII)Z"⟩
def mX12_findServed : MI := (12, yX12_findServed, cX12_findServed, 7, (some .boolean))
theorem kX12_findServed : Cond.code yX12_findServed cX12_findServed 7 (some .boolean) ∈ Ts := tsI (inT7 _ (List.mem_of_getElem? (i := 188) rfl)) rfl
abbrev cX12_served : ByteArray := prog_14_method_85_code
def yX12_served : MethodName := ⟨"DanceWineModel", "served", "(IIII)I"⟩
def mX12_served : MI := (12, yX12_served, cX12_served, 5, (some .int))
theorem kX12_served : Cond.code yX12_served cX12_served 5 (some .int) ∈ Ts := tsI (inT7 _ (List.mem_of_getElem? (i := 184) rfl)) rfl
abbrev cX12_row : ByteArray := prog_14_method_86_code
def yX12_row : MethodName := ⟨"DanceWineModel", "row", "(IIIIII)I"⟩
def mX12_row : MI := (12, yX12_row, cX12_row, 7, (some .int))
theorem kX12_row : Cond.code yX12_row cX12_row 7 (some .int) ∈ Ts := tsI (inT7 _ (List.mem_of_getElem? (i := 196) rfl)) rfl
abbrev cX12_couples : ByteArray := prog_14_method_87_code
def yX12_couples : MethodName := ⟨"DanceWineModel", "couples", "(I)I"⟩
def mX12_couples : MI := (12, yX12_couples, cX12_couples, 7, (some .int))
theorem kX12_couples : Cond.code yX12_couples cX12_couples 7 (some .int) ∈ Ts := tsI (inT7 _ (List.mem_of_getElem? (i := 200) rfl)) rfl
abbrev cX12_quarrel : ByteArray := prog_14_method_88_code
def yX12_quarrel : MethodName := ⟨"DanceWineModel", "quarrel", "(II)Z"⟩
def mX12_quarrel : MI := (12, yX12_quarrel, cX12_quarrel, 8, (some .boolean))
theorem kX12_quarrel : Cond.code yX12_quarrel cX12_quarrel 8 (some .boolean) ∈ Ts := tsI (inT7 _ (List.mem_of_getElem? (i := 204) rfl)) rfl
abbrev cX12_found : ByteArray := prog_14_method_89_code
def yX12_found : MethodName := ⟨"DanceWineModel", "found", "(I)I"⟩
def mX12_found : MI := (12, yX12_found, cX12_found, 7, (some .int))
theorem kX12_found : Cond.code yX12_found cX12_found 7 (some .int) ∈ Ts := tsI (inT7 _ (List.mem_of_getElem? (i := 208) rfl)) rfl
abbrev cX12_see : ByteArray := prog_14_method_90_code
def yX12_see : MethodName := ⟨"DanceWineModel", "see", "(III)Z"⟩
def mX12_see : MI := (12, yX12_see, cX12_see, 4, (some .boolean))
theorem kX12_see : Cond.code yX12_see cX12_see 4 (some .boolean) ∈ Ts := tsI (inT7 _ (List.mem_of_getElem? (i := 212) rfl)) rfl
abbrev cX12_seen : ByteArray := prog_14_method_91_code
def yX12_seen : MethodName := ⟨"DanceWineModel", "seen", "()I"⟩
def mX12_seen : MI := (12, yX12_seen, cX12_seen, 3, (some .int))
theorem kX12_seen : Cond.code yX12_seen cX12_seen 3 (some .int) ∈ Ts := tsI (inT7 _ (List.mem_of_getElem? (i := 220) rfl)) rfl
abbrev cX12_isRead : ByteArray := prog_14_method_92_code
def yX12_isRead : MethodName := ⟨"DanceWineModel", "isRead", "(II)Z"⟩
def mX12_isRead : MI := (12, yX12_isRead, cX12_isRead, 6, (some .boolean))
theorem kX12_isRead : Cond.code yX12_isRead cX12_isRead 6 (some .boolean) ∈ Ts := tsI (inT7 _ (List.mem_of_getElem? (i := 228) rfl)) rfl
abbrev cX12_reads : ByteArray := prog_14_method_93_code
def yX12_reads : MethodName := ⟨"DanceWineModel", "reads", "(II)I"⟩
def mX12_reads : MI := (12, yX12_reads, cX12_reads, 6, (some .int))
theorem kX12_reads : Cond.code yX12_reads cX12_reads 6 (some .int) ∈ Ts := tsI (inT7 _ (List.mem_of_getElem? (i := 224) rfl)) rfl
abbrev cX12_read : ByteArray := prog_14_method_94_code
def yX12_read : MethodName := ⟨"DanceWineModel", "read", "(I)I"⟩
def mX12_read : MI := (12, yX12_read, cX12_read, 2, (some .int))
theorem kX12_read : Cond.code yX12_read cX12_read 2 (some .int) ∈ Ts := tsI (inT7 _ (List.mem_of_getElem? (i := 216) rfl)) rfl
abbrev cX12_dance : ByteArray := prog_14_method_95_code
def yX12_dance : MethodName := ⟨"DanceWineModel", "dance", "(II)I"⟩
def mX12_dance : MI := (12, yX12_dance, cX12_dance, 3, (some .int))
theorem kX12_dance : Cond.code yX12_dance cX12_dance 3 (some .int) ∈ Ts := tsI (inT7 _ (List.mem_of_getElem? (i := 232) rfl)) rfl
abbrev cX12_mark : ByteArray := prog_14_method_96_code
def yX12_mark : MethodName := ⟨"DanceWineModel", "mark", "(IZ)Z"⟩
def mX12_mark : MI := (12, yX12_mark, cX12_mark, 3, (some .boolean))
theorem kX12_mark : Cond.code yX12_mark cX12_mark 3 (some .boolean) ∈ Ts := tsI (inT7 _ (List.mem_of_getElem? (i := 236) rfl)) rfl
abbrev cX12_count : ByteArray := prog_14_method_97_code
def yX12_count : MethodName := ⟨"DanceWineModel", "count", "(I)I"⟩
def mX12_count : MI := (12, yX12_count, cX12_count, 4, (some .int))
theorem kX12_count : Cond.code yX12_count cX12_count 4 (some .int) ∈ Ts := tsI (inT8 _ (List.mem_of_getElem? (i := 0) rfl)) rfl
abbrev cJ6_bitCount_0f7a4 : ByteArray := prog_19_method_49_code
def yJ6_bitCount_0f7a4 : MethodName := ⟨"java/lang/Integer", "bitCount", "(I)I"⟩
def mJ6_bitCount_0f7a4 : MI := (16, yJ6_bitCount_0f7a4, cJ6_bitCount_0f7a4, 1, (some .int))
theorem kJ6_bitCount_0f7a4 : Cond.code yJ6_bitCount_0f7a4 cJ6_bitCount_0f7a4 1 (some .int) ∈ Ts := tsI (inT4 _ (List.mem_of_getElem? (i := 229) rfl)) rfl
abbrev cJ9_abs_0f7a4 : ByteArray := prog_20_method_59_code
def yJ9_abs_0f7a4 : MethodName := ⟨"java/lang/Math", "abs", "(I)I"⟩
def mJ9_abs_0f7a4 : MI := (15, yJ9_abs_0f7a4, cJ9_abs_0f7a4, 1, (some .int))
theorem kJ9_abs_0f7a4 : Cond.code yJ9_abs_0f7a4 cJ9_abs_0f7a4 1 (some .int) ∈ Ts := tsI (inT5 _ (List.mem_of_getElem? (i := 30) rfl)) rfl
abbrev cJ9_max_7cf53 : ByteArray := prog_20_method_65_code
def yJ9_max_7cf53 : MethodName := ⟨"java/lang/Math", "max", "(II)I"⟩
def mJ9_max_7cf53 : MI := (15, yJ9_max_7cf53, cJ9_max_7cf53, 2, (some .int))
theorem kJ9_max_7cf53 : Cond.code yJ9_max_7cf53 cJ9_max_7cf53 2 (some .int) ∈ Ts := tsI (inT4 _ (List.mem_of_getElem? (i := 5) rfl)) rfl
abbrev cJ9_min_7cf53 : ByteArray := prog_20_method_69_code
def yJ9_min_7cf53 : MethodName := ⟨"java/lang/Math", "min", "(II)I"⟩
def mJ9_min_7cf53 : MI := (15, yJ9_min_7cf53, cJ9_min_7cf53, 2, (some .int))
theorem kJ9_min_7cf53 : Cond.code yJ9_min_7cf53 cJ9_min_7cf53 2 (some .int) ∈ Ts := tsI (inT3 _ (List.mem_of_getElem? (i := 132) rfl)) rfl
abbrev cJ7_rangeCheck_23922 : ByteArray := prog_29_method_30_code
def yJ7_rangeCheck_23922 : MethodName := ⟨"java/util/Arrays", "rangeCheck", "(III)V"⟩
def mJ7_rangeCheck_23922 : MI := (14, yJ7_rangeCheck_23922, cJ7_rangeCheck_23922, 3, none)
theorem kJ7_rangeCheck_23922 : Cond.code yJ7_rangeCheck_23922 cJ7_rangeCheck_23922 3 none ∈ Ts := tsI (inT4 _ (List.mem_of_getElem? (i := 182) rfl)) rfl
abbrev cJ7_fill_53178 : ByteArray := prog_29_method_103_code
def yJ7_fill_53178 : MethodName := ⟨"java/util/Arrays", "fill", "([II)V"⟩
def mJ7_fill_53178 : MI := (14, yJ7_fill_53178, cJ7_fill_53178, 4, none)
theorem kJ7_fill_53178 : Cond.code yJ7_fill_53178 cJ7_fill_53178 4 none ∈ Ts := tsI (inT2 _ (List.mem_of_getElem? (i := 8) rfl)) rfl
abbrev cJ7_fill_d734e : ByteArray := prog_29_method_106_code
def yJ7_fill_d734e : MethodName := ⟨"java/util/Arrays", "fill", "([SIIS)V"⟩
def mJ7_fill_d734e : MI := (14, yJ7_fill_d734e, cJ7_fill_d734e, 5, none)
theorem kJ7_fill_d734e : Cond.code yJ7_fill_d734e cJ7_fill_d734e 5 none ∈ Ts := tsI (inT4 _ (List.mem_of_getElem? (i := 179) rfl)) rfl
