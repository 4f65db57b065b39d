section
-- ===== PART A: goes FIRST, ahead of the names: the tables' words, and 'selects' of the private methods out of them =====
/-- a private method of a class that the tables say can be made, by its rows of tables_1 -/
def lw_okq (q : MethodName × Nat) : Prop := (q.1.cls ≠ "java/lang/invoke/MethodHandle" ∧ q.1.cls ≠ "java/lang/invoke/VarHandle") ∧ Cond.instantiable q.1.cls q.2 ∈ tables_1 ∧ Cond.privateMethod q.1 ∈ tables_1 ∧ Cond.instanceMethod q.1 ∈ tables_1
theorem lw_p0 : lw_okq (⟨"JammedBodies$History", "at", "(I)LJammedBodies$Packing;"⟩, 4) := ⟨⟨by decide +kernel, by decide +kernel⟩, List.mem_of_getElem? (i := 69) (by decide +kernel), List.mem_of_getElem? (i := 196) (by decide +kernel), List.mem_of_getElem? (i := 197) (by decide +kernel)⟩
theorem lw_p1 : lw_okq (⟨"JammedBodies$Body", "place", "(III)V"⟩, 3) := ⟨⟨by decide +kernel, by decide +kernel⟩, List.mem_of_getElem? (i := 25) (by decide +kernel), List.mem_of_getElem? (i := 208) (by decide +kernel), List.mem_of_getElem? (i := 209) (by decide +kernel)⟩
theorem lw_p2 : lw_okq (⟨"JammedBodies$BodyText", "find", "(III)V"⟩, 7) := ⟨⟨by decide +kernel, by decide +kernel⟩, List.mem_of_getElem? (i := 92) (by decide +kernel), List.mem_of_getElem? (i := 220) (by decide +kernel), List.mem_of_getElem? (i := 221) (by decide +kernel)⟩
theorem lw_p3 : lw_okq (⟨"JammedBodies$BodyText", "readForm", "()Z"⟩, 7) := ⟨⟨by decide +kernel, by decide +kernel⟩, List.mem_of_getElem? (i := 92) (by decide +kernel), List.mem_of_getElem? (i := 224) (by decide +kernel), List.mem_of_getElem? (i := 225) (by decide +kernel)⟩
theorem lw_p4 : lw_okq (⟨"JammedBodies$BodyText", "takes", "(C)Z"⟩, 7) := ⟨⟨by decide +kernel, by decide +kernel⟩, List.mem_of_getElem? (i := 92) (by decide +kernel), List.mem_of_getElem? (i := 228) (by decide +kernel), List.mem_of_getElem? (i := 229) (by decide +kernel)⟩
theorem lw_p5 : lw_okq (⟨"JammedBodies$BodyText", "sign", "()C"⟩, 7) := ⟨⟨by decide +kernel, by decide +kernel⟩, List.mem_of_getElem? (i := 92) (by decide +kernel), List.mem_of_getElem? (i := 232) (by decide +kernel), List.mem_of_getElem? (i := 233) (by decide +kernel)⟩
theorem lw_p6 : lw_okq (⟨"JammedBodies$BodyText", "takeNumber", "()I"⟩, 7) := ⟨⟨by decide +kernel, by decide +kernel⟩, List.mem_of_getElem? (i := 92) (by decide +kernel), List.mem_of_getElem? (i := 236) (by decide +kernel), List.mem_of_getElem? (i := 237) (by decide +kernel)⟩
theorem lw_p7 : lw_okq (⟨"JammedBodies$BodyText", "takeDigit", "()I"⟩, 7) := ⟨⟨by decide +kernel, by decide +kernel⟩, List.mem_of_getElem? (i := 92) (by decide +kernel), List.mem_of_getElem? (i := 240) (by decide +kernel), List.mem_of_getElem? (i := 241) (by decide +kernel)⟩
theorem lw_p8 : lw_okq (⟨"JammedBodies$Body", "following", "(I)I"⟩, 3) := ⟨⟨by decide +kernel, by decide +kernel⟩, List.mem_of_getElem? (i := 25) (by decide +kernel), List.mem_of_getElem? (i := 256) (by decide +kernel), List.mem_of_getElem? (i := 257) (by decide +kernel)⟩
theorem lw_p9 : lw_okq (⟨"JammedBodies$Body", "timesRound", "()I"⟩, 3) := ⟨⟨by decide +kernel, by decide +kernel⟩, List.mem_of_getElem? (i := 25) (by decide +kernel), List.mem_of_getElem? (i := 263) (by decide +kernel), List.mem_of_getElem? (i := 264) (by decide +kernel)⟩
theorem lw_p10 : lw_okq (⟨"JammedBodies$Body", "pointsUp", "(I)Z"⟩, 3) := ⟨⟨by decide +kernel, by decide +kernel⟩, List.mem_of_getElem? (i := 25) (by decide +kernel), List.mem_of_getElem? (i := 267) (by decide +kernel), List.mem_of_getElem? (i := 268) (by decide +kernel)⟩
theorem lw_p11 : lw_okq (⟨"JammedBodiesModel", "greatestX", "(I)I"⟩, 10) := ⟨⟨by decide +kernel, by decide +kernel⟩, List.mem_of_getElem? (i := 503) (by decide +kernel), List.mem_of_getElem? (i := 550) (by decide +kernel), List.mem_of_getElem? (i := 551) (by decide +kernel)⟩
theorem lw_p12 : lw_okq (⟨"JammedBodiesModel", "extreme", "(III)I"⟩, 10) := ⟨⟨by decide +kernel, by decide +kernel⟩, List.mem_of_getElem? (i := 503) (by decide +kernel), List.mem_of_getElem? (i := 554) (by decide +kernel), List.mem_of_getElem? (i := 555) (by decide +kernel)⟩
theorem lw_p13 : lw_okq (⟨"JammedBodiesModel", "corners", "(I)I"⟩, 10) := ⟨⟨by decide +kernel, by decide +kernel⟩, List.mem_of_getElem? (i := 503) (by decide +kernel), List.mem_of_getElem? (i := 558) (by decide +kernel), List.mem_of_getElem? (i := 559) (by decide +kernel)⟩
theorem lw_p14 : lw_okq (⟨"JammedBodiesModel", "greatestY", "(I)I"⟩, 10) := ⟨⟨by decide +kernel, by decide +kernel⟩, List.mem_of_getElem? (i := 503) (by decide +kernel), List.mem_of_getElem? (i := 562) (by decide +kernel), List.mem_of_getElem? (i := 563) (by decide +kernel)⟩
theorem lw_p15 : lw_okq (⟨"JammedBodiesModel", "keep", "()V"⟩, 10) := ⟨⟨by decide +kernel, by decide +kernel⟩, List.mem_of_getElem? (i := 503) (by decide +kernel), List.mem_of_getElem? (i := 567) (by decide +kernel), List.mem_of_getElem? (i := 568) (by decide +kernel)⟩
def lw_privs_1 : List (MethodName × Nat) := [(⟨"JammedBodies$History", "at", "(I)LJammedBodies$Packing;"⟩, 4), (⟨"JammedBodies$Body", "place", "(III)V"⟩, 3), (⟨"JammedBodies$BodyText", "find", "(III)V"⟩, 7), (⟨"JammedBodies$BodyText", "readForm", "()Z"⟩, 7), (⟨"JammedBodies$BodyText", "takes", "(C)Z"⟩, 7), (⟨"JammedBodies$BodyText", "sign", "()C"⟩, 7), (⟨"JammedBodies$BodyText", "takeNumber", "()I"⟩, 7), (⟨"JammedBodies$BodyText", "takeDigit", "()I"⟩, 7), (⟨"JammedBodies$Body", "following", "(I)I"⟩, 3), (⟨"JammedBodies$Body", "timesRound", "()I"⟩, 3), (⟨"JammedBodies$Body", "pointsUp", "(I)Z"⟩, 3), (⟨"JammedBodiesModel", "greatestX", "(I)I"⟩, 10), (⟨"JammedBodiesModel", "extreme", "(III)I"⟩, 10), (⟨"JammedBodiesModel", "corners", "(I)I"⟩, 10), (⟨"JammedBodiesModel", "greatestY", "(I)I"⟩, 10), (⟨"JammedBodiesModel", "keep", "()V"⟩, 10)]
theorem lw_r1 : ∀ q ∈ lw_privs_1, lw_okq q := List.forall_mem_cons.mpr ⟨lw_p0, List.forall_mem_cons.mpr ⟨lw_p1, List.forall_mem_cons.mpr ⟨lw_p2, List.forall_mem_cons.mpr ⟨lw_p3, List.forall_mem_cons.mpr ⟨lw_p4, List.forall_mem_cons.mpr ⟨lw_p5, List.forall_mem_cons.mpr ⟨lw_p6, List.forall_mem_cons.mpr ⟨lw_p7, List.forall_mem_cons.mpr ⟨lw_p8, List.forall_mem_cons.mpr ⟨lw_p9, List.forall_mem_cons.mpr ⟨lw_p10, List.forall_mem_cons.mpr ⟨lw_p11, List.forall_mem_cons.mpr ⟨lw_p12, List.forall_mem_cons.mpr ⟨lw_p13, List.forall_mem_cons.mpr ⟨lw_p14, List.forall_mem_cons.mpr ⟨lw_p15, fun _ h => absurd h List.not_mem_nil⟩⟩⟩⟩⟩⟩⟩⟩⟩⟩⟩⟩⟩⟩⟩⟩
theorem lw_p16 : lw_okq (⟨"JammedBodiesModel", "changed", "(I)I"⟩, 10) := ⟨⟨by decide +kernel, by decide +kernel⟩, List.mem_of_getElem? (i := 503) (by decide +kernel), List.mem_of_getElem? (i := 571) (by decide +kernel), List.mem_of_getElem? (i := 572) (by decide +kernel)⟩
theorem lw_p17 : lw_okq (⟨"JammedBodiesModel", "hasFault", "()Z"⟩, 10) := ⟨⟨by decide +kernel, by decide +kernel⟩, List.mem_of_getElem? (i := 503) (by decide +kernel), List.mem_of_getElem? (i := 579) (by decide +kernel), List.mem_of_getElem? (i := 580) (by decide +kernel)⟩
theorem lw_p18 : lw_okq (⟨"JammedBodiesModel", "reads", "()Z"⟩, 10) := ⟨⟨by decide +kernel, by decide +kernel⟩, List.mem_of_getElem? (i := 503) (by decide +kernel), List.mem_of_getElem? (i := 583) (by decide +kernel), List.mem_of_getElem? (i := 584) (by decide +kernel)⟩
theorem lw_p19 : lw_okq (⟨"JammedBodiesModel", "takesNumber", "(I)Z"⟩, 10) := ⟨⟨by decide +kernel, by decide +kernel⟩, List.mem_of_getElem? (i := 503) (by decide +kernel), List.mem_of_getElem? (i := 587) (by decide +kernel), List.mem_of_getElem? (i := 588) (by decide +kernel)⟩
theorem lw_p20 : lw_okq (⟨"JammedBodiesModel", "takes", "(I)Z"⟩, 10) := ⟨⟨by decide +kernel, by decide +kernel⟩, List.mem_of_getElem? (i := 503) (by decide +kernel), List.mem_of_getElem? (i := 593) (by decide +kernel), List.mem_of_getElem? (i := 594) (by decide +kernel)⟩
theorem lw_p21 : lw_okq (⟨"JammedBodiesModel", "notes", "(III)Z"⟩, 10) := ⟨⟨by decide +kernel, by decide +kernel⟩, List.mem_of_getElem? (i := 503) (by decide +kernel), List.mem_of_getElem? (i := 597) (by decide +kernel), List.mem_of_getElem? (i := 598) (by decide +kernel)⟩
theorem lw_p22 : lw_okq (⟨"JammedBodiesModel", "cornerOutside", "()I"⟩, 10) := ⟨⟨by decide +kernel, by decide +kernel⟩, List.mem_of_getElem? (i := 503) (by decide +kernel), List.mem_of_getElem? (i := 601) (by decide +kernel), List.mem_of_getElem? (i := 602) (by decide +kernel)⟩
theorem lw_p23 : lw_okq (⟨"JammedBodiesModel", "x", "(II)I"⟩, 10) := ⟨⟨by decide +kernel, by decide +kernel⟩, List.mem_of_getElem? (i := 503) (by decide +kernel), List.mem_of_getElem? (i := 605) (by decide +kernel), List.mem_of_getElem? (i := 606) (by decide +kernel)⟩
theorem lw_p24 : lw_okq (⟨"JammedBodiesModel", "y", "(II)I"⟩, 10) := ⟨⟨by decide +kernel, by decide +kernel⟩, List.mem_of_getElem? (i := 503) (by decide +kernel), List.mem_of_getElem? (i := 609) (by decide +kernel), List.mem_of_getElem? (i := 610) (by decide +kernel)⟩
theorem lw_p25 : lw_okq (⟨"JammedBodiesModel", "badCorner", "()I"⟩, 10) := ⟨⟨by decide +kernel, by decide +kernel⟩, List.mem_of_getElem? (i := 503) (by decide +kernel), List.mem_of_getElem? (i := 613) (by decide +kernel), List.mem_of_getElem? (i := 614) (by decide +kernel)⟩
theorem lw_p26 : lw_okq (⟨"JammedBodiesModel", "side", "(IIII)I"⟩, 10) := ⟨⟨by decide +kernel, by decide +kernel⟩, List.mem_of_getElem? (i := 503) (by decide +kernel), List.mem_of_getElem? (i := 617) (by decide +kernel), List.mem_of_getElem? (i := 618) (by decide +kernel)⟩
theorem lw_p27 : lw_okq (⟨"JammedBodiesModel", "goesUp", "(I)Z"⟩, 10) := ⟨⟨by decide +kernel, by decide +kernel⟩, List.mem_of_getElem? (i := 503) (by decide +kernel), List.mem_of_getElem? (i := 621) (by decide +kernel), List.mem_of_getElem? (i := 622) (by decide +kernel)⟩
theorem lw_p28 : lw_okq (⟨"JammedBodiesModel", "overlapped", "(I)I"⟩, 10) := ⟨⟨by decide +kernel, by decide +kernel⟩, List.mem_of_getElem? (i := 503) (by decide +kernel), List.mem_of_getElem? (i := 625) (by decide +kernel), List.mem_of_getElem? (i := 626) (by decide +kernel)⟩
theorem lw_p29 : lw_okq (⟨"JammedBodiesModel", "isParted", "(III)Z"⟩, 10) := ⟨⟨by decide +kernel, by decide +kernel⟩, List.mem_of_getElem? (i := 503) (by decide +kernel), List.mem_of_getElem? (i := 629) (by decide +kernel), List.mem_of_getElem? (i := 630) (by decide +kernel)⟩
theorem lw_p30 : lw_okq (⟨"JammedBodiesModel", "parting", "(III)I"⟩, 10) := ⟨⟨by decide +kernel, by decide +kernel⟩, List.mem_of_getElem? (i := 503) (by decide +kernel), List.mem_of_getElem? (i := 633) (by decide +kernel), List.mem_of_getElem? (i := 634) (by decide +kernel)⟩
theorem lw_p31 : lw_okq (⟨"JammedBodiesModel", "nearest", "(III)I"⟩, 10) := ⟨⟨by decide +kernel, by decide +kernel⟩, List.mem_of_getElem? (i := 503) (by decide +kernel), List.mem_of_getElem? (i := 637) (by decide +kernel), List.mem_of_getElem? (i := 638) (by decide +kernel)⟩
def lw_privs_2 : List (MethodName × Nat) := [(⟨"JammedBodiesModel", "changed", "(I)I"⟩, 10), (⟨"JammedBodiesModel", "hasFault", "()Z"⟩, 10), (⟨"JammedBodiesModel", "reads", "()Z"⟩, 10), (⟨"JammedBodiesModel", "takesNumber", "(I)Z"⟩, 10), (⟨"JammedBodiesModel", "takes", "(I)Z"⟩, 10), (⟨"JammedBodiesModel", "notes", "(III)Z"⟩, 10), (⟨"JammedBodiesModel", "cornerOutside", "()I"⟩, 10), (⟨"JammedBodiesModel", "x", "(II)I"⟩, 10), (⟨"JammedBodiesModel", "y", "(II)I"⟩, 10), (⟨"JammedBodiesModel", "badCorner", "()I"⟩, 10), (⟨"JammedBodiesModel", "side", "(IIII)I"⟩, 10), (⟨"JammedBodiesModel", "goesUp", "(I)Z"⟩, 10), (⟨"JammedBodiesModel", "overlapped", "(I)I"⟩, 10), (⟨"JammedBodiesModel", "isParted", "(III)Z"⟩, 10), (⟨"JammedBodiesModel", "parting", "(III)I"⟩, 10), (⟨"JammedBodiesModel", "nearest", "(III)I"⟩, 10)]
theorem lw_r2 : ∀ q ∈ lw_privs_2, lw_okq q := List.forall_mem_cons.mpr ⟨lw_p16, List.forall_mem_cons.mpr ⟨lw_p17, List.forall_mem_cons.mpr ⟨lw_p18, List.forall_mem_cons.mpr ⟨lw_p19, List.forall_mem_cons.mpr ⟨lw_p20, List.forall_mem_cons.mpr ⟨lw_p21, List.forall_mem_cons.mpr ⟨lw_p22, List.forall_mem_cons.mpr ⟨lw_p23, List.forall_mem_cons.mpr ⟨lw_p24, List.forall_mem_cons.mpr ⟨lw_p25, List.forall_mem_cons.mpr ⟨lw_p26, List.forall_mem_cons.mpr ⟨lw_p27, List.forall_mem_cons.mpr ⟨lw_p28, List.forall_mem_cons.mpr ⟨lw_p29, List.forall_mem_cons.mpr ⟨lw_p30, List.forall_mem_cons.mpr ⟨lw_p31, fun _ h => absurd h List.not_mem_nil⟩⟩⟩⟩⟩⟩⟩⟩⟩⟩⟩⟩⟩⟩⟩⟩
theorem lw_p32 : lw_okq (⟨"JammedBodiesModel", "copyBody", "(II)V"⟩, 10) := ⟨⟨by decide +kernel, by decide +kernel⟩, List.mem_of_getElem? (i := 503) (by decide +kernel), List.mem_of_getElem? (i := 642) (by decide +kernel), List.mem_of_getElem? (i := 643) (by decide +kernel)⟩
theorem lw_p33 : lw_okq (⟨"JammedBodiesModel", "isBody", "(I)Z"⟩, 10) := ⟨⟨by decide +kernel, by decide +kernel⟩, List.mem_of_getElem? (i := 503) (by decide +kernel), List.mem_of_getElem? (i := 650) (by decide +kernel), List.mem_of_getElem? (i := 651) (by decide +kernel)⟩
theorem lw_p34 : lw_okq (⟨"JammedBodiesModel", "takesOut", "(I)V"⟩, 10) := ⟨⟨by decide +kernel, by decide +kernel⟩, List.mem_of_getElem? (i := 503) (by decide +kernel), List.mem_of_getElem? (i := 654) (by decide +kernel), List.mem_of_getElem? (i := 655) (by decide +kernel)⟩
theorem lw_p35 : lw_okq (⟨"JammedBodiesModel", "slides", "(III)I"⟩, 10) := ⟨⟨by decide +kernel, by decide +kernel⟩, List.mem_of_getElem? (i := 503) (by decide +kernel), List.mem_of_getElem? (i := 670) (by decide +kernel), List.mem_of_getElem? (i := 671) (by decide +kernel)⟩
theorem lw_p36 : lw_okq (⟨"JammedBodiesModel", "steps", "(II)Z"⟩, 10) := ⟨⟨by decide +kernel, by decide +kernel⟩, List.mem_of_getElem? (i := 503) (by decide +kernel), List.mem_of_getElem? (i := 674) (by decide +kernel), List.mem_of_getElem? (i := 675) (by decide +kernel)⟩
theorem lw_p37 : lw_okq (⟨"JammedBodiesModel", "moves", "(III)V"⟩, 10) := ⟨⟨by decide +kernel, by decide +kernel⟩, List.mem_of_getElem? (i := 503) (by decide +kernel), List.mem_of_getElem? (i := 684) (by decide +kernel), List.mem_of_getElem? (i := 685) (by decide +kernel)⟩
theorem lw_p38 : lw_okq (⟨"JammedBodiesModel", "fits", "(I)Z"⟩, 10) := ⟨⟨by decide +kernel, by decide +kernel⟩, List.mem_of_getElem? (i := 503) (by decide +kernel), List.mem_of_getElem? (i := 688) (by decide +kernel), List.mem_of_getElem? (i := 689) (by decide +kernel)⟩
theorem lw_p39 : lw_okq (⟨"JammedBodiesModel", "wallsBy", "(II)I"⟩, 10) := ⟨⟨by decide +kernel, by decide +kernel⟩, List.mem_of_getElem? (i := 503) (by decide +kernel), List.mem_of_getElem? (i := 692) (by decide +kernel), List.mem_of_getElem? (i := 693) (by decide +kernel)⟩
theorem lw_p40 : lw_okq (⟨"JammedBodiesModel", "leastX", "(I)I"⟩, 10) := ⟨⟨by decide +kernel, by decide +kernel⟩, List.mem_of_getElem? (i := 503) (by decide +kernel), List.mem_of_getElem? (i := 696) (by decide +kernel), List.mem_of_getElem? (i := 697) (by decide +kernel)⟩
theorem lw_p41 : lw_okq (⟨"JammedBodiesModel", "leastY", "(I)I"⟩, 10) := ⟨⟨by decide +kernel, by decide +kernel⟩, List.mem_of_getElem? (i := 503) (by decide +kernel), List.mem_of_getElem? (i := 700) (by decide +kernel), List.mem_of_getElem? (i := 701) (by decide +kernel)⟩
theorem lw_p42 : lw_okq (⟨"JammedBodiesModel", "giveBack", "()V"⟩, 10) := ⟨⟨by decide +kernel, by decide +kernel⟩, List.mem_of_getElem? (i := 503) (by decide +kernel), List.mem_of_getElem? (i := 708) (by decide +kernel), List.mem_of_getElem? (i := 709) (by decide +kernel)⟩
theorem lw_p43 : lw_okq (⟨"JammedBodiesModel", "settles", "(I)I"⟩, 10) := ⟨⟨by decide +kernel, by decide +kernel⟩, List.mem_of_getElem? (i := 503) (by decide +kernel), List.mem_of_getElem? (i := 716) (by decide +kernel), List.mem_of_getElem? (i := 717) (by decide +kernel)⟩
theorem lw_p44 : lw_okq (⟨"JammedBodiesModel", "area", "(I)I"⟩, 10) := ⟨⟨by decide +kernel, by decide +kernel⟩, List.mem_of_getElem? (i := 503) (by decide +kernel), List.mem_of_getElem? (i := 725) (by decide +kernel), List.mem_of_getElem? (i := 726) (by decide +kernel)⟩
theorem lw_p45 : lw_okq (⟨"JammedBodiesModel", "touched", "(I)I"⟩, 10) := ⟨⟨by decide +kernel, by decide +kernel⟩, List.mem_of_getElem? (i := 503) (by decide +kernel), List.mem_of_getElem? (i := 729) (by decide +kernel), List.mem_of_getElem? (i := 730) (by decide +kernel)⟩
theorem lw_p46 : lw_okq (⟨"JammedBodiesModel", "touch", "(II)Z"⟩, 10) := ⟨⟨by decide +kernel, by decide +kernel⟩, List.mem_of_getElem? (i := 503) (by decide +kernel), List.mem_of_getElem? (i := 733) (by decide +kernel), List.mem_of_getElem? (i := 734) (by decide +kernel)⟩
theorem lw_p47 : lw_okq (⟨"JammedBodiesModel", "freeDirections", "(I)I"⟩, 10) := ⟨⟨by decide +kernel, by decide +kernel⟩, List.mem_of_getElem? (i := 503) (by decide +kernel), List.mem_of_getElem? (i := 737) (by decide +kernel), List.mem_of_getElem? (i := 738) (by decide +kernel)⟩
def lw_privs_3 : List (MethodName × Nat) := [(⟨"JammedBodiesModel", "copyBody", "(II)V"⟩, 10), (⟨"JammedBodiesModel", "isBody", "(I)Z"⟩, 10), (⟨"JammedBodiesModel", "takesOut", "(I)V"⟩, 10), (⟨"JammedBodiesModel", "slides", "(III)I"⟩, 10), (⟨"JammedBodiesModel", "steps", "(II)Z"⟩, 10), (⟨"JammedBodiesModel", "moves", "(III)V"⟩, 10), (⟨"JammedBodiesModel", "fits", "(I)Z"⟩, 10), (⟨"JammedBodiesModel", "wallsBy", "(II)I"⟩, 10), (⟨"JammedBodiesModel", "leastX", "(I)I"⟩, 10), (⟨"JammedBodiesModel", "leastY", "(I)I"⟩, 10), (⟨"JammedBodiesModel", "giveBack", "()V"⟩, 10), (⟨"JammedBodiesModel", "settles", "(I)I"⟩, 10), (⟨"JammedBodiesModel", "area", "(I)I"⟩, 10), (⟨"JammedBodiesModel", "touched", "(I)I"⟩, 10), (⟨"JammedBodiesModel", "touch", "(II)Z"⟩, 10), (⟨"JammedBodiesModel", "freeDirections", "(I)I"⟩, 10)]
theorem lw_r3 : ∀ q ∈ lw_privs_3, lw_okq q := List.forall_mem_cons.mpr ⟨lw_p32, List.forall_mem_cons.mpr ⟨lw_p33, List.forall_mem_cons.mpr ⟨lw_p34, List.forall_mem_cons.mpr ⟨lw_p35, List.forall_mem_cons.mpr ⟨lw_p36, List.forall_mem_cons.mpr ⟨lw_p37, List.forall_mem_cons.mpr ⟨lw_p38, List.forall_mem_cons.mpr ⟨lw_p39, List.forall_mem_cons.mpr ⟨lw_p40, List.forall_mem_cons.mpr ⟨lw_p41, List.forall_mem_cons.mpr ⟨lw_p42, List.forall_mem_cons.mpr ⟨lw_p43, List.forall_mem_cons.mpr ⟨lw_p44, List.forall_mem_cons.mpr ⟨lw_p45, List.forall_mem_cons.mpr ⟨lw_p46, List.forall_mem_cons.mpr ⟨lw_p47, fun _ h => absurd h List.not_mem_nil⟩⟩⟩⟩⟩⟩⟩⟩⟩⟩⟩⟩⟩⟩⟩⟩
theorem lw_p48 : lw_okq (⟨"JammedBodiesModel", "isFree", "(II)Z"⟩, 10) := ⟨⟨by decide +kernel, by decide +kernel⟩, List.mem_of_getElem? (i := 503) (by decide +kernel), List.mem_of_getElem? (i := 741) (by decide +kernel), List.mem_of_getElem? (i := 742) (by decide +kernel)⟩
theorem lw_p49 : lw_okq (⟨"JammedBodiesModel", "isJammed", "(I)Z"⟩, 10) := ⟨⟨by decide +kernel, by decide +kernel⟩, List.mem_of_getElem? (i := 503) (by decide +kernel), List.mem_of_getElem? (i := 745) (by decide +kernel), List.mem_of_getElem? (i := 746) (by decide +kernel)⟩
theorem lw_p50 : lw_okq (⟨"JammedBodiesModel", "cornerValue", "(II)I"⟩, 10) := ⟨⟨by decide +kernel, by decide +kernel⟩, List.mem_of_getElem? (i := 503) (by decide +kernel), List.mem_of_getElem? (i := 749) (by decide +kernel), List.mem_of_getElem? (i := 750) (by decide +kernel)⟩
theorem lw_p51 : lw_okq (⟨"JammedBodiesModel", "counts", "(II)Z"⟩, 10) := ⟨⟨by decide +kernel, by decide +kernel⟩, List.mem_of_getElem? (i := 503) (by decide +kernel), List.mem_of_getElem? (i := 768) (by decide +kernel), List.mem_of_getElem? (i := 769) (by decide +kernel)⟩
theorem lw_p52 : lw_okq (⟨"JammedBodiesModel", "together", "(I)I"⟩, 10) := ⟨⟨by decide +kernel, by decide +kernel⟩, List.mem_of_getElem? (i := 503) (by decide +kernel), List.mem_of_getElem? (i := 772) (by decide +kernel), List.mem_of_getElem? (i := 773) (by decide +kernel)⟩
theorem lw_p53 : lw_okq (⟨"JammedBodiesModel", "areas", "()I"⟩, 10) := ⟨⟨by decide +kernel, by decide +kernel⟩, List.mem_of_getElem? (i := 503) (by decide +kernel), List.mem_of_getElem? (i := 784) (by decide +kernel), List.mem_of_getElem? (i := 785) (by decide +kernel)⟩
theorem lw_p54 : lw_okq (⟨"JammedBodiesModel", "cornersOfAll", "()I"⟩, 10) := ⟨⟨by decide +kernel, by decide +kernel⟩, List.mem_of_getElem? (i := 503) (by decide +kernel), List.mem_of_getElem? (i := 801) (by decide +kernel), List.mem_of_getElem? (i := 802) (by decide +kernel)⟩
theorem lw_p55 : lw_okq (⟨"JammedBodiesModel", "pairs", "()I"⟩, 10) := ⟨⟨by decide +kernel, by decide +kernel⟩, List.mem_of_getElem? (i := 503) (by decide +kernel), List.mem_of_getElem? (i := 805) (by decide +kernel), List.mem_of_getElem? (i := 806) (by decide +kernel)⟩
def lw_privs_4 : List (MethodName × Nat) := [(⟨"JammedBodiesModel", "isFree", "(II)Z"⟩, 10), (⟨"JammedBodiesModel", "isJammed", "(I)Z"⟩, 10), (⟨"JammedBodiesModel", "cornerValue", "(II)I"⟩, 10), (⟨"JammedBodiesModel", "counts", "(II)Z"⟩, 10), (⟨"JammedBodiesModel", "together", "(I)I"⟩, 10), (⟨"JammedBodiesModel", "areas", "()I"⟩, 10), (⟨"JammedBodiesModel", "cornersOfAll", "()I"⟩, 10), (⟨"JammedBodiesModel", "pairs", "()I"⟩, 10)]
theorem lw_r4 : ∀ q ∈ lw_privs_4, lw_okq q := List.forall_mem_cons.mpr ⟨lw_p48, List.forall_mem_cons.mpr ⟨lw_p49, List.forall_mem_cons.mpr ⟨lw_p50, List.forall_mem_cons.mpr ⟨lw_p51, List.forall_mem_cons.mpr ⟨lw_p52, List.forall_mem_cons.mpr ⟨lw_p53, List.forall_mem_cons.mpr ⟨lw_p54, List.forall_mem_cons.mpr ⟨lw_p55, fun _ h => absurd h List.not_mem_nil⟩⟩⟩⟩⟩⟩⟩⟩
def lw_privs : List (MethodName × Nat) := lw_privs_1 ++ (lw_privs_2 ++ (lw_privs_3 ++ (lw_privs_4)))
def lw_tbl : List Cond := k2_sels lw_privs ++ tables_1
theorem lw_privs_ok : ∀ q ∈ lw_privs, lw_okq q := by
  show ∀ q ∈ lw_privs_1 ++ (lw_privs_2 ++ (lw_privs_3 ++ (lw_privs_4))), lw_okq q
  exact List.forall_mem_append.mpr ⟨lw_r1, List.forall_mem_append.mpr ⟨lw_r2, List.forall_mem_append.mpr ⟨lw_r3, lw_r4⟩⟩⟩
/-- the streams that the claim lets the run draw from -/
abbrev lw_cs : List Choice := [Jvm.Choice.named "NaN.bits"]
theorem lw_bits : nanBits ∈ lw_cs := by first | decide | exact List.mem_cons_self | simp [lw_cs, nanBits]
end
section
/-! ===== BEGIN words of one list among another's, by their places ===== -/
theorem goodIn_r {big : List Cond} (ws : List Cond) (ps : List Nat) (hp : ws = ps.filterMap (fun i => big[i]?)) (h : ws.all goodWord = true) : GoodIn big ws := by
  intro w hw
  have h1 := List.all_eq_true.mp h w hw
  rw [hp] at hw
  obtain ⟨i, -, hi⟩ := List.mem_filterMap.mp hw
  have hm : w ∈ big := by first | exact List.mem_of_getElem? hi | exact List.getElem?_mem hi
  exact ⟨hm, good_of_word h1⟩
theorem goodIn_app {big a b : List Cond} (ha : GoodIn big a) (hb : GoodIn big b) : GoodIn big (a ++ b) := fun w h => (List.mem_append.mp h).elim (ha w) (hb w)
theorem goodIn_ca {big a b : List Cond} {c : Cond} (ha : GoodIn big (c :: a)) (hb : GoodIn big b) : GoodIn big (c :: (a ++ b)) := fun w h => (List.mem_cons.mp h).elim (fun e => ha w (List.mem_cons.mpr (Or.inl e))) (fun h => (List.mem_append.mp h).elim (fun h => ha w (List.mem_cons.mpr (Or.inr h))) (hb w))
theorem goodIn_sub {big ws : List Cond} (hm : ∀ w ∈ ws, w ∈ big) (h : ws.all goodWord = true) : GoodIn big ws := fun w hw => ⟨hm w hw, good_of_word (List.all_eq_true.mp h w hw)⟩
/-! ===== END ===== -/

/-! ===== BEGIN printed: names, fields, word lists, decode rows ===== -/
def RX0 : String := "JammedBodies$Body"
def TX0 : u_T := fun k => match k with
  | 0 => ("JammedBodies$Body", "xs", "[I", true)
  | 1 => ("JammedBodies$Body", "ys", "[I", true)
  | _ => ("JammedBodies$Body", "corners", "I", false)
def tyX0 : Nat → FieldType := fun k => match k with
  | 0 => .array .int
  | 1 => .array .int
  | _ => .int
abbrev wsX00 : List Cond := u_ws RX0 TX0 3
theorem nmX0 : ∀ a, a < 3 → ∀ b, b < 3 → a ≠ b → (TX0 a).2.1 ≠ (TX0 b).2.1 := by decide +kernel
theorem tyX0_ok : ∀ k, k < 3 → parseFieldDescriptor (TX0 k).2.2.1 = some (tyX0 k) := by decide +kernel
abbrev cX0_init : ByteArray := prog_2_method_1_code
def yX0_init : MethodName := ⟨RX0, "<init>", "()V"⟩
abbrev cX0_x : ByteArray := prog_2_method_2_code
def yX0_x : MethodName := ⟨RX0, "x", "(I)I"⟩
abbrev cX0_y : ByteArray := prog_2_method_3_code
def yX0_y : MethodName := ⟨RX0, "y", "(I)I"⟩
abbrev cX0_place : ByteArray := prog_2_method_4_code
def yX0_place : MethodName := ⟨RX0, "place", "(III)V"⟩
abbrev cX0_addCorner : ByteArray := prog_2_method_5_code
def yX0_addCorner : MethodName := ⟨RX0, "addCorner", "(II)V"⟩
abbrev cX0_copyFrom : ByteArray := prog_2_method_6_code
def yX0_copyFrom : MethodName := ⟨RX0, "copyFrom", "(LJammedBodies$Body;)V"⟩
abbrev cX0_move : ByteArray := prog_2_method_7_code
def yX0_move : MethodName := ⟨RX0, "move", "(II)V"⟩
abbrev cX0_turnLeft : ByteArray := prog_2_method_8_code
def yX0_turnLeft : MethodName := ⟨RX0, "turnLeft", "()V"⟩
abbrev cX0_following : ByteArray := prog_2_method_9_code
def yX0_following : MethodName := ⟨RX0, "following", "(I)I"⟩
abbrev cX0_left : ByteArray := prog_2_method_10_code
def yX0_left : MethodName := ⟨RX0, "left", "()I"⟩
abbrev cX0_right : ByteArray := prog_2_method_11_code
def yX0_right : MethodName := ⟨RX0, "right", "()I"⟩
abbrev cX0_low : ByteArray := prog_2_method_12_code
def yX0_low : MethodName := ⟨RX0, "low", "()I"⟩
abbrev cX0_high : ByteArray := prog_2_method_13_code
def yX0_high : MethodName := ⟨RX0, "high", "()I"⟩
abbrev cX0_doubleArea : ByteArray := prog_2_method_14_code
def yX0_doubleArea : MethodName := ⟨RX0, "doubleArea", "()I"⟩
abbrev cX0_wallsTouched : ByteArray := prog_2_method_15_code
def yX0_wallsTouched : MethodName := ⟨RX0, "wallsTouched", "(II)I"⟩
abbrev cX0_wallsBeyond : ByteArray := prog_2_method_16_code
def yX0_wallsBeyond : MethodName := ⟨RX0, "wallsBeyond", "(II)I"⟩
abbrev cX0_reach : ByteArray := prog_2_method_17_code
def yX0_reach : MethodName := ⟨RX0, "reach", "(ILJammedBodies$Body;)I"⟩
abbrev cX0_leastReach : ByteArray := prog_2_method_18_code
def yX0_leastReach : MethodName := ⟨RX0, "leastReach", "(LJammedBodies$Body;)I"⟩
abbrev cX0_partingSide : ByteArray := prog_2_method_19_code
def yX0_partingSide : MethodName := ⟨RX0, "partingSide", "(LJammedBodies$Body;)I"⟩
abbrev cX0_nearestCorner : ByteArray := prog_2_method_20_code
def yX0_nearestCorner : MethodName := ⟨RX0, "nearestCorner", "(ILJammedBodies$Body;)I"⟩
abbrev cX0_cornerOutside : ByteArray := prog_2_method_21_code
def yX0_cornerOutside : MethodName := ⟨RX0, "cornerOutside", "(II)I"⟩
abbrev cX0_causeOfShape : ByteArray := prog_2_method_22_code
def yX0_causeOfShape : MethodName := ⟨RX0, "causeOfShape", "()I"⟩
abbrev cX0_timesRound : ByteArray := prog_2_method_23_code
def yX0_timesRound : MethodName := ⟨RX0, "timesRound", "()I"⟩
abbrev cX0_pointsUp : ByteArray := prog_2_method_24_code
def yX0_pointsUp : MethodName := ⟨RX0, "pointsUp", "(I)Z"⟩
def RX1 : String := "JammedBodies$BodyText"
def TX1 : u_T := fun k => match k with
  | 0 => ("JammedBodies$BodyText", "signs", "[C", true)
  | 1 => ("JammedBodies$BodyText", "cursor", "I", false)
  | 2 => ("JammedBodies$BodyText", "told", "LJammedBodies$Body;", true)
  | 3 => ("JammedBodies$BodyText", "length", "I", false)
  | 4 => ("JammedBodies$BodyText", "place", "I", false)
  | 5 => ("JammedBodies$BodyText", "reason", "I", false)
  | _ => ("JammedBodies$BodyText", "cause", "I", false)
def tyX1 : Nat → FieldType := fun k => match k with
  | 0 => .array .char
  | 1 => .int
  | 2 => .object "JammedBodies$Body"
  | 3 => .int
  | 4 => .int
  | 5 => .int
  | _ => .int
abbrev wsX10 : List Cond := u_ws RX1 TX1 7
theorem nmX1 : ∀ a, a < 7 → ∀ b, b < 7 → a ≠ b → (TX1 a).2.1 ≠ (TX1 b).2.1 := by decide +kernel
theorem tyX1_ok : ∀ k, k < 7 → parseFieldDescriptor (TX1 k).2.2.1 = some (tyX1 k) := by decide +kernel
abbrev cX1_init : ByteArray := prog_3_method_1_code
def yX1_init : MethodName := ⟨RX1, "<init>", "()V"⟩
abbrev cX1_append : ByteArray := prog_3_method_2_code
def yX1_append : MethodName := ⟨RX1, "append", "(C)V"⟩
abbrev cX1_examine : ByteArray := prog_3_method_3_code
def yX1_examine : MethodName := ⟨RX1, "examine", "(LJammedBodies$Packing;)V"⟩
abbrev cX1_find : ByteArray := prog_3_method_4_code
def yX1_find : MethodName := ⟨RX1, "find", "(III)V"⟩
abbrev cX1_readForm : ByteArray := prog_3_method_5_code
def yX1_readForm : MethodName := ⟨RX1, "readForm", "()Z"⟩
abbrev cX1_sign : ByteArray := prog_3_method_6_code
def yX1_sign : MethodName := ⟨RX1, "sign", "()C"⟩
abbrev cX1_takes : ByteArray := prog_3_method_7_code
def yX1_takes : MethodName := ⟨RX1, "takes", "(C)Z"⟩
abbrev cX1_takeNumber : ByteArray := prog_3_method_8_code
def yX1_takeNumber : MethodName := ⟨RX1, "takeNumber", "()I"⟩
abbrev cX1_takeDigit : ByteArray := prog_3_method_9_code
def yX1_takeDigit : MethodName := ⟨RX1, "takeDigit", "()I"⟩
def RX2 : String := "JammedBodies$History"
def TX2 : u_T := fun k => match k with
  | 0 => ("JammedBodies$History", "ring", "[LJammedBodies$Packing;", true)
  | 1 => ("JammedBodies$History", "none", "LJammedBodies$Packing;", true)
  | 2 => ("JammedBodies$History", "oldest", "I", false)
  | _ => ("JammedBodies$History", "size", "I", false)
def tyX2 : Nat → FieldType := fun k => match k with
  | 0 => .array (.object "JammedBodies$Packing")
  | 1 => .object "JammedBodies$Packing"
  | 2 => .int
  | _ => .int
abbrev wsX20 : List Cond := u_ws RX2 TX2 4
theorem nmX2 : ∀ a, a < 4 → ∀ b, b < 4 → a ≠ b → (TX2 a).2.1 ≠ (TX2 b).2.1 := by decide +kernel
theorem tyX2_ok : ∀ k, k < 4 → parseFieldDescriptor (TX2 k).2.2.1 = some (tyX2 k) := by decide +kernel
abbrev cX2_init : ByteArray := prog_4_method_1_code
def yX2_init : MethodName := ⟨RX2, "<init>", "()V"⟩
abbrev cX2_at : ByteArray := prog_4_method_2_code
def yX2_at : MethodName := ⟨RX2, "at", "(I)LJammedBodies$Packing;"⟩
abbrev cX2_keep : ByteArray := prog_4_method_3_code
def yX2_keep : MethodName := ⟨RX2, "keep", "(LJammedBodies$Packing;)V"⟩
abbrev cX2_restore : ByteArray := prog_4_method_4_code
def yX2_restore : MethodName := ⟨RX2, "restore", "(LJammedBodies$Packing;)V"⟩
def RX3 : String := "JammedBodies$Packing"
def TX3 : u_T := fun k => match k with
  | 0 => ("JammedBodies$Packing", "row", "[LJammedBodies$Body;", true)
  | 1 => ("JammedBodies$Packing", "nobody", "LJammedBodies$Body;", true)
  | 2 => ("JammedBodies$Packing", "ghost", "LJammedBodies$Body;", true)
  | 3 => ("JammedBodies$Packing", "size", "I", false)
  | 4 => ("JammedBodies$Packing", "width", "I", false)
  | _ => ("JammedBodies$Packing", "height", "I", false)
def tyX3 : Nat → FieldType := fun k => match k with
  | 0 => .array (.object "JammedBodies$Body")
  | 1 => .object "JammedBodies$Body"
  | 2 => .object "JammedBodies$Body"
  | 3 => .int
  | 4 => .int
  | _ => .int
abbrev wsX30 : List Cond := u_ws RX3 TX3 6
theorem nmX3 : ∀ a, a < 6 → ∀ b, b < 6 → a ≠ b → (TX3 a).2.1 ≠ (TX3 b).2.1 := by decide +kernel
theorem tyX3_ok : ∀ k, k < 6 → parseFieldDescriptor (TX3 k).2.2.1 = some (tyX3 k) := by decide +kernel
abbrev cX3_init : ByteArray := prog_5_method_1_code
def yX3_init : MethodName := ⟨RX3, "<init>", "()V"⟩
abbrev cX3_has : ByteArray := prog_5_method_2_code
def yX3_has : MethodName := ⟨RX3, "has", "(I)Z"⟩
abbrev cX3_at : ByteArray := prog_5_method_3_code
def yX3_at : MethodName := ⟨RX3, "at", "(I)LJammedBodies$Body;"⟩
abbrev cX3_copyFrom : ByteArray := prog_5_method_4_code
def yX3_copyFrom : MethodName := ⟨RX3, "copyFrom", "(LJammedBodies$Packing;)V"⟩
abbrev cX3_add : ByteArray := prog_5_method_5_code
def yX3_add : MethodName := ⟨RX3, "add", "(LJammedBodies$Body;)I"⟩
abbrev cX3_takeOut : ByteArray := prog_5_method_6_code
def yX3_takeOut : MethodName := ⟨RX3, "takeOut", "(I)V"⟩
abbrev cX3_fitsInto : ByteArray := prog_5_method_7_code
def yX3_fitsInto : MethodName := ⟨RX3, "fitsInto", "(II)Z"⟩
abbrev cX3_overlapped : ByteArray := prog_5_method_8_code
def yX3_overlapped : MethodName := ⟨RX3, "overlapped", "(LJammedBodies$Body;I)I"⟩
abbrev cX3_touching : ByteArray := prog_5_method_9_code
def yX3_touching : MethodName := ⟨RX3, "touching", "(I)I"⟩
abbrev cX3_touchingNone : ByteArray := prog_5_method_10_code
def yX3_touchingNone : MethodName := ⟨RX3, "touchingNone", "()I"⟩
abbrev cX3_touchingPairs : ByteArray := prog_5_method_11_code
def yX3_touchingPairs : MethodName := ⟨RX3, "touchingPairs", "()I"⟩
abbrev cX3_touchingWalls : ByteArray := prog_5_method_12_code
def yX3_touchingWalls : MethodName := ⟨RX3, "touchingWalls", "(I)I"⟩
abbrev cX3_spread : ByteArray := prog_5_method_13_code
def yX3_spread : MethodName := ⟨RX3, "spread", "(I)I"⟩
abbrev cX3_freeSteps : ByteArray := prog_5_method_14_code
def yX3_freeSteps : MethodName := ⟨RX3, "freeSteps", "(III)I"⟩
abbrev cX3_freeDirections : ByteArray := prog_5_method_15_code
def yX3_freeDirections : MethodName := ⟨RX3, "freeDirections", "(I)I"⟩
abbrev cX3_jammed : ByteArray := prog_5_method_16_code
def yX3_jammed : MethodName := ⟨RX3, "jammed", "()I"⟩
abbrev cX3_shift : ByteArray := prog_5_method_17_code
def yX3_shift : MethodName := ⟨RX3, "shift", "(III)V"⟩
abbrev cX3_shifted : ByteArray := prog_5_method_18_code
def yX3_shifted : MethodName := ⟨RX3, "shifted", "(III)LJammedBodies$Body;"⟩
abbrev cX3_canTurn : ByteArray := prog_5_method_19_code
def yX3_canTurn : MethodName := ⟨RX3, "canTurn", "(I)Z"⟩
abbrev cX3_settleAll : ByteArray := prog_5_method_20_code
def yX3_settleAll : MethodName := ⟨RX3, "settleAll", "(I)I"⟩
abbrev cX3_doubleArea : ByteArray := prog_5_method_21_code
def yX3_doubleArea : MethodName := ⟨RX3, "doubleArea", "()I"⟩
abbrev cX3_allCorners : ByteArray := prog_5_method_22_code
def yX3_allCorners : MethodName := ⟨RX3, "allCorners", "()I"⟩
def RX4 : String := "JammedBodies"
def TX4 : u_T := fun k => match k with
  | 0 => ("JammedBodies", "packing", "LJammedBodies$Packing;", true)
  | 1 => ("JammedBodies", "trial", "LJammedBodies$Packing;", true)
  | 2 => ("JammedBodies", "history", "LJammedBodies$History;", true)
  | _ => ("JammedBodies", "text", "LJammedBodies$BodyText;", true)
def tyX4 : Nat → FieldType := fun k => match k with
  | 0 => .object "JammedBodies$Packing"
  | 1 => .object "JammedBodies$Packing"
  | 2 => .object "JammedBodies$History"
  | _ => .object "JammedBodies$BodyText"
abbrev wsX40 : List Cond := u_ws RX4 TX4 4
theorem nmX4 : ∀ a, a < 4 → ∀ b, b < 4 → a ≠ b → (TX4 a).2.1 ≠ (TX4 b).2.1 := by decide +kernel
theorem tyX4_ok : ∀ k, k < 4 → parseFieldDescriptor (TX4 k).2.2.1 = some (tyX4 k) := by decide +kernel
abbrev cX4_init : ByteArray := prog_1_method_1_code
def yX4_init : MethodName := ⟨RX4, "<init>", "()V"⟩
abbrev cX4_box : ByteArray := prog_1_method_2_code
def yX4_box : MethodName := ⟨RX4, "box", "(II)I"⟩
abbrev cX4_put : ByteArray := prog_1_method_3_code
def yX4_put : MethodName := ⟨RX4, "put", "()I"⟩
abbrev cX4_remove : ByteArray := prog_1_method_4_code
def yX4_remove : MethodName := ⟨RX4, "remove", "(I)I"⟩
abbrev cX4_empty : ByteArray := prog_1_method_5_code
def yX4_empty : MethodName := ⟨RX4, "empty", "()I"⟩
abbrev cX4_slide : ByteArray := prog_1_method_6_code
def yX4_slide : MethodName := ⟨RX4, "slide", "(III)I"⟩
abbrev cX4_turn : ByteArray := prog_1_method_7_code
def yX4_turn : MethodName := ⟨RX4, "turn", "(I)I"⟩
abbrev cX4_settle : ByteArray := prog_1_method_8_code
def yX4_settle : MethodName := ⟨RX4, "settle", "(I)I"⟩
abbrev cX4_bodyOf : ByteArray := prog_1_method_9_code
def yX4_bodyOf : MethodName := ⟨RX4, "bodyOf", "(II)I"⟩
abbrev cX4_parts : ByteArray := prog_1_method_10_code
def yX4_parts : MethodName := ⟨RX4, "parts", "(III)I"⟩
abbrev cX4_way : ByteArray := prog_1_method_11_code
def yX4_way : MethodName := ⟨RX4, "way", "(III)I"⟩
abbrev cX4_bodies : ByteArray := prog_1_method_12_code
def yX4_bodies : MethodName := ⟨RX4, "bodies", "(I)I"⟩
abbrev cX4_group : ByteArray := prog_1_method_13_code
def yX4_group : MethodName := ⟨RX4, "group", "(I)I"⟩
abbrev cX4_density : ByteArray := prog_1_method_14_code
def yX4_density : MethodName := ⟨RX4, "density", "()I"⟩
abbrev cX4_keystone : ByteArray := prog_1_method_15_code
def yX4_keystone : MethodName := ⟨RX4, "keystone", "(II)I"⟩
abbrev cX4_count : ByteArray := prog_1_method_16_code
def yX4_count : MethodName := ⟨RX4, "count", "(I)I"⟩
abbrev cX4_undo : ByteArray := prog_1_method_17_code
def yX4_undo : MethodName := ⟨RX4, "undo", "()I"⟩
abbrev cX4_type : ByteArray := prog_1_method_18_code
def yX4_type : MethodName := ⟨RX4, "type", "(I)I"⟩
abbrev cX4_clearText : ByteArray := prog_1_method_19_code
def yX4_clearText : MethodName := ⟨RX4, "clearText", "()I"⟩
abbrev cX4_fault : ByteArray := prog_1_method_20_code
def yX4_fault : MethodName := ⟨RX4, "fault", "(I)I"⟩
abbrev cX4_isSize : ByteArray := prog_1_method_21_code
def yX4_isSize : MethodName := ⟨RX4, "isSize", "(I)Z"⟩
abbrev cX4_isDirection : ByteArray := prog_1_method_22_code
def yX4_isDirection : MethodName := ⟨RX4, "isDirection", "(I)Z"⟩
abbrev cX4_stepX : ByteArray := prog_1_method_23_code
def yX4_stepX : MethodName := ⟨RX4, "stepX", "(I)I"⟩
abbrev cX4_stepY : ByteArray := prog_1_method_24_code
def yX4_stepY : MethodName := ⟨RX4, "stepY", "(I)I"⟩
abbrev cX4_placeOfCorner : ByteArray := prog_1_method_25_code
def yX4_placeOfCorner : MethodName := ⟨RX4, "placeOfCorner", "(LJammedBodies$Body;I)I"⟩
abbrev cX4_bitsOfShare : ByteArray := prog_1_method_26_code
def yX4_bitsOfShare : MethodName := ⟨RX4, "bitsOfShare", "(F)I"⟩
abbrev cX4_lowest : ByteArray := prog_1_method_27_code
def yX4_lowest : MethodName := ⟨RX4, "lowest", "(I)I"⟩
abbrev cX4_cross : ByteArray := prog_1_method_28_code
def yX4_cross : MethodName := ⟨RX4, "cross", "(IIIIII)I"⟩
def RX5 : String := "JammedBodiesModel"
def TX5 : u_T := fun k => match k with
  | 0 => ("JammedBodiesModel", "all", "[I", true)
  | 1 => ("JammedBodiesModel", "history", "[I", true)
  | 2 => ("JammedBodiesModel", "kept", "[I", true)
  | 3 => ("JammedBodiesModel", "historyLong", "I", false)
  | 4 => ("JammedBodiesModel", "text", "[I", true)
  | 5 => ("JammedBodiesModel", "textLong", "I", false)
  | 6 => ("JammedBodiesModel", "spot", "I", false)
  | 7 => ("JammedBodiesModel", "faultAt", "I", false)
  | 8 => ("JammedBodiesModel", "faultWhy", "I", false)
  | _ => ("JammedBodiesModel", "faultCause", "I", false)
def tyX5 : Nat → FieldType := fun k => match k with
  | 0 => .array .int
  | 1 => .array .int
  | 2 => .array .int
  | 3 => .int
  | 4 => .array .int
  | 5 => .int
  | 6 => .int
  | 7 => .int
  | 8 => .int
  | _ => .int
abbrev wsX50 : List Cond := u_ws RX5 TX5 10
theorem nmX5 : ∀ a, a < 10 → ∀ b, b < 10 → a ≠ b → (TX5 a).2.1 ≠ (TX5 b).2.1 := by decide +kernel
theorem tyX5_ok : ∀ k, k < 10 → parseFieldDescriptor (TX5 k).2.2.1 = some (tyX5 k) := by decide +kernel
abbrev cX5_init : ByteArray := prog_7_method_1_code
def yX5_init : MethodName := ⟨RX5, "<init>", "()V"⟩
abbrev cX5_in : ByteArray := prog_7_method_3_code
def yX5_in : MethodName := ⟨RX5, "in", "(JJJ)Z"⟩
abbrev cX5_keep : ByteArray := prog_7_method_4_code
def yX5_keep : MethodName := ⟨RX5, "keep", "()V"⟩
abbrev cX5_giveBack : ByteArray := prog_7_method_5_code
def yX5_giveBack : MethodName := ⟨RX5, "giveBack", "()V"⟩
abbrev cX5_changed : ByteArray := prog_7_method_6_code
def yX5_changed : MethodName := ⟨RX5, "changed", "(I)I"⟩
abbrev cX5_isBody : ByteArray := prog_7_method_7_code
def yX5_isBody : MethodName := ⟨RX5, "isBody", "(I)Z"⟩
abbrev cX5_corners : ByteArray := prog_7_method_8_code
def yX5_corners : MethodName := ⟨RX5, "corners", "(I)I"⟩
abbrev cX5_x : ByteArray := prog_7_method_9_code
def yX5_x : MethodName := ⟨RX5, "x", "(II)I"⟩
abbrev cX5_y : ByteArray := prog_7_method_10_code
def yX5_y : MethodName := ⟨RX5, "y", "(II)I"⟩
abbrev cX5_moves : ByteArray := prog_7_method_11_code
def yX5_moves : MethodName := ⟨RX5, "moves", "(III)V"⟩
abbrev cX5_side : ByteArray := prog_7_method_12_code
def yX5_side : MethodName := ⟨RX5, "side", "(IIII)I"⟩
abbrev cX5_nearest : ByteArray := prog_7_method_13_code
def yX5_nearest : MethodName := ⟨RX5, "nearest", "(III)I"⟩
abbrev cX5_parting : ByteArray := prog_7_method_14_code
def yX5_parting : MethodName := ⟨RX5, "parting", "(III)I"⟩
abbrev cX5_isParted : ByteArray := prog_7_method_15_code
def yX5_isParted : MethodName := ⟨RX5, "isParted", "(III)Z"⟩
abbrev cX5_touch : ByteArray := prog_7_method_16_code
def yX5_touch : MethodName := ⟨RX5, "touch", "(II)Z"⟩
abbrev cX5_overlapped : ByteArray := prog_7_method_17_code
def yX5_overlapped : MethodName := ⟨RX5, "overlapped", "(I)I"⟩
abbrev cX5_touched : ByteArray := prog_7_method_18_code
def yX5_touched : MethodName := ⟨RX5, "touched", "(I)I"⟩
abbrev cX5_extreme : ByteArray := prog_7_method_19_code
def yX5_extreme : MethodName := ⟨RX5, "extreme", "(III)I"⟩
abbrev cX5_leastX : ByteArray := prog_7_method_20_code
def yX5_leastX : MethodName := ⟨RX5, "leastX", "(I)I"⟩
abbrev cX5_greatestX : ByteArray := prog_7_method_21_code
def yX5_greatestX : MethodName := ⟨RX5, "greatestX", "(I)I"⟩
abbrev cX5_leastY : ByteArray := prog_7_method_22_code
def yX5_leastY : MethodName := ⟨RX5, "leastY", "(I)I"⟩
abbrev cX5_greatestY : ByteArray := prog_7_method_23_code
def yX5_greatestY : MethodName := ⟨RX5, "greatestY", "(I)I"⟩
abbrev cX5_wallsBy : ByteArray := prog_7_method_24_code
def yX5_wallsBy : MethodName := ⟨RX5, "wallsBy", "(II)I"⟩
abbrev cX5_fits : ByteArray := prog_7_method_25_code
def yX5_fits : MethodName := ⟨RX5, "fits", "(I)Z"⟩
abbrev cX5_dx : ByteArray := prog_7_method_26_code
def yX5_dx : MethodName := ⟨RX5, "dx", "(I)I"⟩
abbrev cX5_dy : ByteArray := prog_7_method_27_code
def yX5_dy : MethodName := ⟨RX5, "dy", "(I)I"⟩
abbrev cX5_steps : ByteArray := prog_7_method_28_code
def yX5_steps : MethodName := ⟨RX5, "steps", "(II)Z"⟩
abbrev cX5_isFree : ByteArray := prog_7_method_29_code
def yX5_isFree : MethodName := ⟨RX5, "isFree", "(II)Z"⟩
abbrev cX5_freeDirections : ByteArray := prog_7_method_30_code
def yX5_freeDirections : MethodName := ⟨RX5, "freeDirections", "(I)I"⟩
abbrev cX5_isJammed : ByteArray := prog_7_method_31_code
def yX5_isJammed : MethodName := ⟨RX5, "isJammed", "(I)Z"⟩
abbrev cX5_slides : ByteArray := prog_7_method_32_code
def yX5_slides : MethodName := ⟨RX5, "slides", "(III)I"⟩
abbrev cX5_isDirection : ByteArray := prog_7_method_33_code
def yX5_isDirection : MethodName := ⟨RX5, "isDirection", "(I)Z"⟩
abbrev cX5_settles : ByteArray := prog_7_method_34_code
def yX5_settles : MethodName := ⟨RX5, "settles", "(I)I"⟩
abbrev cX5_area : ByteArray := prog_7_method_35_code
def yX5_area : MethodName := ⟨RX5, "area", "(I)I"⟩
abbrev cX5_areas : ByteArray := prog_7_method_36_code
def yX5_areas : MethodName := ⟨RX5, "areas", "()I"⟩
abbrev cX5_copyBody : ByteArray := prog_7_method_37_code
def yX5_copyBody : MethodName := ⟨RX5, "copyBody", "(II)V"⟩
abbrev cX5_takesOut : ByteArray := prog_7_method_38_code
def yX5_takesOut : MethodName := ⟨RX5, "takesOut", "(I)V"⟩
abbrev cX5_box : ByteArray := prog_7_method_39_code
def yX5_box : MethodName := ⟨RX5, "box", "(II)I"⟩
abbrev cX5_put : ByteArray := prog_7_method_40_code
def yX5_put : MethodName := ⟨RX5, "put", "()I"⟩
abbrev cX5_remove : ByteArray := prog_7_method_41_code
def yX5_remove : MethodName := ⟨RX5, "remove", "(I)I"⟩
abbrev cX5_empty : ByteArray := prog_7_method_42_code
def yX5_empty : MethodName := ⟨RX5, "empty", "()I"⟩
abbrev cX5_slide : ByteArray := prog_7_method_43_code
def yX5_slide : MethodName := ⟨RX5, "slide", "(III)I"⟩
abbrev cX5_turn : ByteArray := prog_7_method_44_code
def yX5_turn : MethodName := ⟨RX5, "turn", "(I)I"⟩
abbrev cX5_settle : ByteArray := prog_7_method_45_code
def yX5_settle : MethodName := ⟨RX5, "settle", "(I)I"⟩
abbrev cX5_cornerValue : ByteArray := prog_7_method_46_code
def yX5_cornerValue : MethodName := ⟨RX5, "cornerValue", "(II)I"⟩
abbrev cX5_bodyOf : ByteArray := prog_7_method_47_code
def yX5_bodyOf : MethodName := ⟨RX5, "bodyOf", "(II)I"⟩
abbrev cX5_parts : ByteArray := prog_7_method_48_code
def yX5_parts : MethodName := ⟨RX5, "parts", "(III)I"⟩
abbrev cX5_way : ByteArray := prog_7_method_49_code
def yX5_way : MethodName := ⟨RX5, "way", "(III)I"⟩
abbrev cX5_together : ByteArray := prog_7_method_50_code
def yX5_together : MethodName := ⟨RX5, "together", "(I)I"⟩
abbrev cX5_counts : ByteArray := prog_7_method_51_code
def yX5_counts : MethodName := ⟨RX5, "counts", "(II)Z"⟩
abbrev cX5_bodies : ByteArray := prog_7_method_52_code
def yX5_bodies : MethodName := ⟨RX5, "bodies", "(I)I"⟩
abbrev cX5_group : ByteArray := prog_7_method_53_code
def yX5_group : MethodName := ⟨RX5, "group", "(I)I"⟩
abbrev cX5_shareBits : ByteArray := prog_7_method_54_code
def yX5_shareBits : MethodName := ⟨RX5, "shareBits", "(II)I"⟩
abbrev cX5_density : ByteArray := prog_7_method_55_code
def yX5_density : MethodName := ⟨RX5, "density", "()I"⟩
abbrev cX5_keystone : ByteArray := prog_7_method_56_code
def yX5_keystone : MethodName := ⟨RX5, "keystone", "(II)I"⟩
abbrev cX5_cornersOfAll : ByteArray := prog_7_method_57_code
def yX5_cornersOfAll : MethodName := ⟨RX5, "cornersOfAll", "()I"⟩
abbrev cX5_pairs : ByteArray := prog_7_method_58_code
def yX5_pairs : MethodName := ⟨RX5, "pairs", "()I"⟩
abbrev cX5_count : ByteArray := prog_7_method_59_code
def yX5_count : MethodName := ⟨RX5, "count", "(I)I"⟩
abbrev cX5_undo : ByteArray := prog_7_method_60_code
def yX5_undo : MethodName := ⟨RX5, "undo", "()I"⟩
abbrev cX5_type : ByteArray := prog_7_method_61_code
def yX5_type : MethodName := ⟨RX5, "type", "(I)I"⟩
abbrev cX5_clearText : ByteArray := prog_7_method_62_code
def yX5_clearText : MethodName := ⟨RX5, "clearText", "()I"⟩
abbrev cX5_takes : ByteArray := prog_7_method_63_code
def yX5_takes : MethodName := ⟨RX5, "takes", "(I)Z"⟩
abbrev cX5_takesNumber : ByteArray := prog_7_method_64_code
def yX5_takesNumber : MethodName := ⟨RX5, "takesNumber", "(I)Z"⟩
abbrev cX5_reads : ByteArray := prog_7_method_65_code
def yX5_reads : MethodName := ⟨RX5, "reads", "()Z"⟩
abbrev cX5_cornerOutside : ByteArray := prog_7_method_66_code
def yX5_cornerOutside : MethodName := ⟨RX5, "cornerOutside", "()I"⟩
abbrev cX5_goesUp : ByteArray := prog_7_method_67_code
def yX5_goesUp : MethodName := ⟨RX5, "goesUp", "(I)Z"⟩
abbrev cX5_badCorner : ByteArray := prog_7_method_68_code
def yX5_badCorner : MethodName := ⟨RX5, "badCorner", "()I"⟩
abbrev cX5_notes : ByteArray := prog_7_method_69_code
def yX5_notes : MethodName := ⟨RX5, "notes", "(III)Z"⟩
abbrev cX5_hasFault : ByteArray := prog_7_method_70_code
def yX5_hasFault : MethodName := ⟨RX5, "hasFault", "()Z"⟩
abbrev cX5_fault : ByteArray := prog_7_method_71_code
def yX5_fault : MethodName := ⟨RX5, "fault", "(I)I"⟩
def RJ6 : String := "java/lang/Integer"
def TJ6 : u_T := fun k => match k with
  | _ => ("", "", "", false)
def tyJ6 : Nat → FieldType := fun k => match k with
  | _ => .int
abbrev wsJ60 : List Cond := u_ws RJ6 TJ6 0
theorem nmJ6 : ∀ a, a < 0 → ∀ b, b < 0 → a ≠ b → (TJ6 a).2.1 ≠ (TJ6 b).2.1 := by decide +kernel
theorem tyJ6_ok : ∀ k, k < 0 → parseFieldDescriptor (TJ6 k).2.2.1 = some (tyJ6 k) := by decide +kernel
abbrev cJ6_bitCount_0f7a4 : ByteArray := prog_8_method_49_code
def yJ6_bitCount_0f7a4 : MethodName := ⟨RJ6, "bitCount", "(I)I"⟩
def RJ9 : String := "java/lang/Math"
def TJ9 : u_T := fun k => match k with
  | _ => ("", "", "", false)
def tyJ9 : Nat → FieldType := fun k => match k with
  | _ => .int
abbrev wsJ90 : List Cond := u_ws RJ9 TJ9 0
theorem nmJ9 : ∀ a, a < 0 → ∀ b, b < 0 → a ≠ b → (TJ9 a).2.1 ≠ (TJ9 b).2.1 := by decide +kernel
theorem tyJ9_ok : ∀ k, k < 0 → parseFieldDescriptor (TJ9 k).2.2.1 = some (tyJ9 k) := by decide +kernel
abbrev cJ9_max_7cf53 : ByteArray := prog_9_method_65_code
def yJ9_max_7cf53 : MethodName := ⟨RJ9, "max", "(II)I"⟩
abbrev cJ9_min_7cf53 : ByteArray := prog_9_method_69_code
def yJ9_min_7cf53 : MethodName := ⟨RJ9, "min", "(II)I"⟩
def RL : String := "JammedBodiesLaw"
abbrev cL_law : ByteArray := code
def yL_law : MethodName := ⟨RL, "law", "([I)Z"⟩
def wsX0_init : List Cond := .code yX0_init cX0_init 1 none :: ([.methodLink RX0 3 objectInit, .instanceMethod objectInit, .code objectInit ⟨#[0xb1]⟩ 1 none, .arrayClass .int, .fieldLink RX0 9 "JammedBodies$Body" "xs" "[I", .fieldLink RX0 15 "JammedBodies$Body" "ys" "[I", .fieldLink RX0 18 "JammedBodies$Body" "corners" "I"] ++ wsX00)
def wsX0_x : List Cond := .code yX0_x cX0_x 2 (some .int) :: ([.fieldLink RX0 9 "JammedBodies$Body" "xs" "[I"] ++ wsX00)
def wsX0_y : List Cond := .code yX0_y cX0_y 2 (some .int) :: ([.fieldLink RX0 15 "JammedBodies$Body" "ys" "[I"] ++ wsX00)
def wsX0_place : List Cond := .code yX0_place cX0_place 4 none :: ([.fieldLink RX0 9 "JammedBodies$Body" "xs" "[I", .fieldLink RX0 15 "JammedBodies$Body" "ys" "[I"] ++ wsX00)
def wsX0_addCorner : List Cond := .code yX0_addCorner cX0_addCorner 3 none :: ([.fieldLink RX0 18 "JammedBodies$Body" "corners" "I", .methodLink RX0 22 yX0_place, .instanceMethod yX0_place, .selects RX0 yX0_place yX0_place, .initialized RX0, .code yX0_place cX0_place 4 none, .fieldLink RX0 9 "JammedBodies$Body" "xs" "[I", .fieldLink RX0 15 "JammedBodies$Body" "ys" "[I"] ++ wsX00)
def wsX0_copyFrom : List Cond := .code yX0_copyFrom cX0_copyFrom 3 none :: ([.fieldLink RX0 18 "JammedBodies$Body" "corners" "I", .methodLink RX0 26 yX0_x, .instanceMethod yX0_x, .selects RX0 yX0_x yX0_x, .initialized RX0, .code yX0_x cX0_x 2 (some .int), .fieldLink RX0 9 "JammedBodies$Body" "xs" "[I", .methodLink RX0 30 yX0_y, .instanceMethod yX0_y, .selects RX0 yX0_y yX0_y, .code yX0_y cX0_y 2 (some .int), .fieldLink RX0 15 "JammedBodies$Body" "ys" "[I", .methodLink RX0 22 yX0_place, .instanceMethod yX0_place, .selects RX0 yX0_place yX0_place, .code yX0_place cX0_place 4 none] ++ wsX00)
def wsX0_move : List Cond := .code yX0_move cX0_move 4 none :: ([.fieldLink RX0 18 "JammedBodies$Body" "corners" "I", .methodLink RX0 26 yX0_x, .instanceMethod yX0_x, .selects RX0 yX0_x yX0_x, .initialized RX0, .code yX0_x cX0_x 2 (some .int), .fieldLink RX0 9 "JammedBodies$Body" "xs" "[I", .methodLink RX0 30 yX0_y, .instanceMethod yX0_y, .selects RX0 yX0_y yX0_y, .code yX0_y cX0_y 2 (some .int), .fieldLink RX0 15 "JammedBodies$Body" "ys" "[I", .methodLink RX0 22 yX0_place, .instanceMethod yX0_place, .selects RX0 yX0_place yX0_place, .code yX0_place cX0_place 4 none] ++ wsX00)
def wsX0_left : List Cond := .code yX0_left cX0_left 3 (some .int) :: ([.fieldLink RX0 18 "JammedBodies$Body" "corners" "I", .methodLink RX0 43 Lib.Math.min.name, .static Lib.Math.min.name, .initialized "java/lang/Math", .code Lib.Math.min.name Lib.Math.min.code 2 (some .int), .methodLink RX0 26 yX0_x, .instanceMethod yX0_x, .selects RX0 yX0_x yX0_x, .initialized RX0, .code yX0_x cX0_x 2 (some .int), .fieldLink RX0 9 "JammedBodies$Body" "xs" "[I"] ++ wsX00)
def wsX0_low : List Cond := .code yX0_low cX0_low 3 (some .int) :: ([.fieldLink RX0 18 "JammedBodies$Body" "corners" "I", .methodLink RX0 43 Lib.Math.min.name, .static Lib.Math.min.name, .initialized "java/lang/Math", .code Lib.Math.min.name Lib.Math.min.code 2 (some .int), .methodLink RX0 30 yX0_y, .instanceMethod yX0_y, .selects RX0 yX0_y yX0_y, .initialized RX0, .code yX0_y cX0_y 2 (some .int), .fieldLink RX0 15 "JammedBodies$Body" "ys" "[I"] ++ wsX00)
def wsX0_high : List Cond := .code yX0_high cX0_high 3 (some .int) :: ([.fieldLink RX0 18 "JammedBodies$Body" "corners" "I", .methodLink RX0 49 Lib.Math.max.name, .static Lib.Math.max.name, .initialized "java/lang/Math", .code Lib.Math.max.name Lib.Math.max.code 2 (some .int), .methodLink RX0 30 yX0_y, .instanceMethod yX0_y, .selects RX0 yX0_y yX0_y, .initialized RX0, .code yX0_y cX0_y 2 (some .int), .fieldLink RX0 15 "JammedBodies$Body" "ys" "[I"] ++ wsX00)
def wsX0_turnLeft_r1 : List Cond := [Cond.fieldLink RX0 18 "JammedBodies$Body" "corners" "I", Cond.methodLink RX0 33 yX0_left, Cond.instanceMethod yX0_left, Cond.selects RX0 yX0_left yX0_left, Cond.initialized RX0, Cond.code yX0_left cX0_left 3 (some .int), Cond.methodLink RX0 43 Lib.Math.min.name, Cond.static Lib.Math.min.name, Cond.initialized "java/lang/Math", Cond.code Lib.Math.min.name Lib.Math.min.code 2 (some .int), Cond.methodLink RX0 26 yX0_x, Cond.instanceMethod yX0_x, Cond.selects RX0 yX0_x yX0_x, Cond.code yX0_x cX0_x 2 (some .int), Cond.fieldLink RX0 9 "JammedBodies$Body" "xs" "[I", Cond.methodLink RX0 37 yX0_low, Cond.instanceMethod yX0_low, Cond.selects RX0 yX0_low yX0_low, Cond.code yX0_low cX0_low 3 (some .int), Cond.methodLink RX0 30 yX0_y, Cond.instanceMethod yX0_y, Cond.selects RX0 yX0_y yX0_y, Cond.code yX0_y cX0_y 2 (some .int), Cond.fieldLink RX0 15 "JammedBodies$Body" "ys" "[I"]
def wsX0_turnLeft_r2 : List Cond := [Cond.methodLink RX0 40 yX0_high, Cond.instanceMethod yX0_high, Cond.selects RX0 yX0_high yX0_high, Cond.code yX0_high cX0_high 3 (some .int), Cond.methodLink RX0 49 Lib.Math.max.name, Cond.static Lib.Math.max.name, Cond.code Lib.Math.max.name Lib.Math.max.code 2 (some .int), Cond.methodLink RX0 22 yX0_place, Cond.instanceMethod yX0_place, Cond.selects RX0 yX0_place yX0_place, Cond.code yX0_place cX0_place 4 none]
def wsX0_turnLeft : List Cond := .code yX0_turnLeft cX0_turnLeft 5 none :: ((wsX0_turnLeft_r1 ++ wsX0_turnLeft_r2) ++ wsX00)
def wsX0_following : List Cond := .code yX0_following cX0_following 2 (some .int) :: ([.fieldLink RX0 18 "JammedBodies$Body" "corners" "I"] ++ wsX00)
def wsX0_right : List Cond := .code yX0_right cX0_right 3 (some .int) :: ([.fieldLink RX0 18 "JammedBodies$Body" "corners" "I", .methodLink RX0 49 Lib.Math.max.name, .static Lib.Math.max.name, .initialized "java/lang/Math", .code Lib.Math.max.name Lib.Math.max.code 2 (some .int), .methodLink RX0 26 yX0_x, .instanceMethod yX0_x, .selects RX0 yX0_x yX0_x, .initialized RX0, .code yX0_x cX0_x 2 (some .int), .fieldLink RX0 9 "JammedBodies$Body" "xs" "[I"] ++ wsX00)
def wsX0_doubleArea : List Cond := .code yX0_doubleArea cX0_doubleArea 4 (some .int) :: ([.fieldLink RX0 18 "JammedBodies$Body" "corners" "I", .methodLink RX0 52 yX0_following, .instanceMethod yX0_following, .selects RX0 yX0_following yX0_following, .initialized RX0, .code yX0_following cX0_following 2 (some .int), .methodLink RX0 26 yX0_x, .instanceMethod yX0_x, .selects RX0 yX0_x yX0_x, .code yX0_x cX0_x 2 (some .int), .fieldLink RX0 9 "JammedBodies$Body" "xs" "[I", .methodLink RX0 30 yX0_y, .instanceMethod yX0_y, .selects RX0 yX0_y yX0_y, .code yX0_y cX0_y 2 (some .int), .fieldLink RX0 15 "JammedBodies$Body" "ys" "[I"] ++ wsX00)
def wsX0_wallsTouched_r1 : List Cond := [Cond.methodLink RX0 33 yX0_left, Cond.instanceMethod yX0_left, Cond.selects RX0 yX0_left yX0_left, Cond.initialized RX0, Cond.code yX0_left cX0_left 3 (some .int), Cond.fieldLink RX0 18 "JammedBodies$Body" "corners" "I", Cond.methodLink RX0 43 Lib.Math.min.name, Cond.static Lib.Math.min.name, Cond.initialized "java/lang/Math", Cond.code Lib.Math.min.name Lib.Math.min.code 2 (some .int), Cond.methodLink RX0 26 yX0_x, Cond.instanceMethod yX0_x, Cond.selects RX0 yX0_x yX0_x, Cond.code yX0_x cX0_x 2 (some .int), Cond.fieldLink RX0 9 "JammedBodies$Body" "xs" "[I", Cond.methodLink RX0 55 yX0_right, Cond.instanceMethod yX0_right, Cond.selects RX0 yX0_right yX0_right, Cond.code yX0_right cX0_right 3 (some .int), Cond.methodLink RX0 49 Lib.Math.max.name, Cond.static Lib.Math.max.name, Cond.code Lib.Math.max.name Lib.Math.max.code 2 (some .int), Cond.methodLink RX0 37 yX0_low, Cond.instanceMethod yX0_low]
def wsX0_wallsTouched_r2 : List Cond := [Cond.selects RX0 yX0_low yX0_low, Cond.code yX0_low cX0_low 3 (some .int), Cond.methodLink RX0 30 yX0_y, Cond.instanceMethod yX0_y, Cond.selects RX0 yX0_y yX0_y, Cond.code yX0_y cX0_y 2 (some .int), Cond.fieldLink RX0 15 "JammedBodies$Body" "ys" "[I", Cond.methodLink RX0 40 yX0_high, Cond.instanceMethod yX0_high, Cond.selects RX0 yX0_high yX0_high, Cond.code yX0_high cX0_high 3 (some .int)]
def wsX0_wallsTouched : List Cond := .code yX0_wallsTouched cX0_wallsTouched 4 (some .int) :: ((wsX0_wallsTouched_r1 ++ wsX0_wallsTouched_r2) ++ wsX00)
def wsX0_wallsBeyond_r1 : List Cond := [Cond.methodLink RX0 33 yX0_left, Cond.instanceMethod yX0_left, Cond.selects RX0 yX0_left yX0_left, Cond.initialized RX0, Cond.code yX0_left cX0_left 3 (some .int), Cond.fieldLink RX0 18 "JammedBodies$Body" "corners" "I", Cond.methodLink RX0 43 Lib.Math.min.name, Cond.static Lib.Math.min.name, Cond.initialized "java/lang/Math", Cond.code Lib.Math.min.name Lib.Math.min.code 2 (some .int), Cond.methodLink RX0 26 yX0_x, Cond.instanceMethod yX0_x, Cond.selects RX0 yX0_x yX0_x, Cond.code yX0_x cX0_x 2 (some .int), Cond.fieldLink RX0 9 "JammedBodies$Body" "xs" "[I", Cond.methodLink RX0 55 yX0_right, Cond.instanceMethod yX0_right, Cond.selects RX0 yX0_right yX0_right, Cond.code yX0_right cX0_right 3 (some .int), Cond.methodLink RX0 49 Lib.Math.max.name, Cond.static Lib.Math.max.name, Cond.code Lib.Math.max.name Lib.Math.max.code 2 (some .int), Cond.methodLink RX0 37 yX0_low, Cond.instanceMethod yX0_low]
def wsX0_wallsBeyond_r2 : List Cond := [Cond.selects RX0 yX0_low yX0_low, Cond.code yX0_low cX0_low 3 (some .int), Cond.methodLink RX0 30 yX0_y, Cond.instanceMethod yX0_y, Cond.selects RX0 yX0_y yX0_y, Cond.code yX0_y cX0_y 2 (some .int), Cond.fieldLink RX0 15 "JammedBodies$Body" "ys" "[I", Cond.methodLink RX0 40 yX0_high, Cond.instanceMethod yX0_high, Cond.selects RX0 yX0_high yX0_high, Cond.code yX0_high cX0_high 3 (some .int)]
def wsX0_wallsBeyond : List Cond := .code yX0_wallsBeyond cX0_wallsBeyond 4 (some .int) :: ((wsX0_wallsBeyond_r1 ++ wsX0_wallsBeyond_r2) ++ wsX00)
def wsX4_cross : List Cond := .code yX4_cross cX4_cross 6 (some .int) :: ([])
def wsX0_reach : List Cond := .code yX0_reach cX0_reach 10 (some .int) :: ([.constant RX0 58 (-1000000), .fieldLink RX0 18 "JammedBodies$Body" "corners" "I", .methodLink RX0 49 Lib.Math.max.name, .static Lib.Math.max.name, .initialized "java/lang/Math", .code Lib.Math.max.name Lib.Math.max.code 2 (some .int), .methodLink RX0 52 yX0_following, .instanceMethod yX0_following, .selects RX0 yX0_following yX0_following, .initialized RX0, .code yX0_following cX0_following 2 (some .int), .methodLink RX0 26 yX0_x, .instanceMethod yX0_x, .selects RX0 yX0_x yX0_x, .code yX0_x cX0_x 2 (some .int), .fieldLink RX0 9 "JammedBodies$Body" "xs" "[I", .methodLink RX0 30 yX0_y, .instanceMethod yX0_y, .selects RX0 yX0_y yX0_y, .code yX0_y cX0_y 2 (some .int), .fieldLink RX0 15 "JammedBodies$Body" "ys" "[I", .static yX4_cross, .initialized RX4, .code yX4_cross cX4_cross 6 (some .int)] ++ wsX00)
def wsX0_leastReach_r1 : List Cond := [Cond.fieldLink RX0 18 "JammedBodies$Body" "corners" "I", Cond.methodLink RX0 43 Lib.Math.min.name, Cond.static Lib.Math.min.name, Cond.initialized "java/lang/Math", Cond.code Lib.Math.min.name Lib.Math.min.code 2 (some .int), Cond.methodLink RX0 63 yX0_reach, Cond.instanceMethod yX0_reach, Cond.selects RX0 yX0_reach yX0_reach, Cond.initialized RX0, Cond.code yX0_reach cX0_reach 10 (some .int), Cond.constant RX0 58 (-1000000), Cond.methodLink RX0 49 Lib.Math.max.name, Cond.static Lib.Math.max.name, Cond.code Lib.Math.max.name Lib.Math.max.code 2 (some .int), Cond.methodLink RX0 52 yX0_following, Cond.instanceMethod yX0_following, Cond.selects RX0 yX0_following yX0_following, Cond.code yX0_following cX0_following 2 (some .int), Cond.methodLink RX0 26 yX0_x, Cond.instanceMethod yX0_x, Cond.selects RX0 yX0_x yX0_x, Cond.code yX0_x cX0_x 2 (some .int), Cond.fieldLink RX0 9 "JammedBodies$Body" "xs" "[I", Cond.methodLink RX0 30 yX0_y]
def wsX0_leastReach_r2 : List Cond := [Cond.instanceMethod yX0_y, Cond.selects RX0 yX0_y yX0_y, Cond.code yX0_y cX0_y 2 (some .int), Cond.fieldLink RX0 15 "JammedBodies$Body" "ys" "[I", Cond.static yX4_cross, Cond.initialized RX4, Cond.code yX4_cross cX4_cross 6 (some .int)]
def wsX0_leastReach : List Cond := .code yX0_leastReach cX0_leastReach 4 (some .int) :: ((wsX0_leastReach_r1 ++ wsX0_leastReach_r2) ++ wsX00)
def wsX0_partingSide_r1 : List Cond := [Cond.fieldLink RX0 18 "JammedBodies$Body" "corners" "I", Cond.methodLink RX0 63 yX0_reach, Cond.instanceMethod yX0_reach, Cond.selects RX0 yX0_reach yX0_reach, Cond.initialized RX0, Cond.code yX0_reach cX0_reach 10 (some .int), Cond.constant RX0 58 (-1000000), Cond.methodLink RX0 49 Lib.Math.max.name, Cond.static Lib.Math.max.name, Cond.initialized "java/lang/Math", Cond.code Lib.Math.max.name Lib.Math.max.code 2 (some .int), Cond.methodLink RX0 52 yX0_following, Cond.instanceMethod yX0_following, Cond.selects RX0 yX0_following yX0_following, Cond.code yX0_following cX0_following 2 (some .int), Cond.methodLink RX0 26 yX0_x, Cond.instanceMethod yX0_x, Cond.selects RX0 yX0_x yX0_x, Cond.code yX0_x cX0_x 2 (some .int), Cond.fieldLink RX0 9 "JammedBodies$Body" "xs" "[I", Cond.methodLink RX0 30 yX0_y, Cond.instanceMethod yX0_y, Cond.selects RX0 yX0_y yX0_y, Cond.code yX0_y cX0_y 2 (some .int)]
def wsX0_partingSide_r2 : List Cond := [Cond.fieldLink RX0 15 "JammedBodies$Body" "ys" "[I", Cond.static yX4_cross, Cond.initialized RX4, Cond.code yX4_cross cX4_cross 6 (some .int)]
def wsX0_partingSide : List Cond := .code yX0_partingSide cX0_partingSide 3 (some .int) :: ((wsX0_partingSide_r1 ++ wsX0_partingSide_r2) ++ wsX00)
def wsX0_nearestCorner_r1 : List Cond := [Cond.fieldLink RX0 18 "JammedBodies$Body" "corners" "I", Cond.methodLink RX0 52 yX0_following, Cond.instanceMethod yX0_following, Cond.selects RX0 yX0_following yX0_following, Cond.initialized RX0, Cond.code yX0_following cX0_following 2 (some .int), Cond.methodLink RX0 63 yX0_reach, Cond.instanceMethod yX0_reach, Cond.selects RX0 yX0_reach yX0_reach, Cond.code yX0_reach cX0_reach 10 (some .int), Cond.constant RX0 58 (-1000000), Cond.methodLink RX0 49 Lib.Math.max.name, Cond.static Lib.Math.max.name, Cond.initialized "java/lang/Math", Cond.code Lib.Math.max.name Lib.Math.max.code 2 (some .int), Cond.methodLink RX0 26 yX0_x, Cond.instanceMethod yX0_x, Cond.selects RX0 yX0_x yX0_x, Cond.code yX0_x cX0_x 2 (some .int), Cond.fieldLink RX0 9 "JammedBodies$Body" "xs" "[I", Cond.methodLink RX0 30 yX0_y, Cond.instanceMethod yX0_y, Cond.selects RX0 yX0_y yX0_y, Cond.code yX0_y cX0_y 2 (some .int)]
def wsX0_nearestCorner_r2 : List Cond := [Cond.fieldLink RX0 15 "JammedBodies$Body" "ys" "[I", Cond.static yX4_cross, Cond.initialized RX4, Cond.code yX4_cross cX4_cross 6 (some .int)]
def wsX0_nearestCorner : List Cond := .code yX0_nearestCorner cX0_nearestCorner 6 (some .int) :: ((wsX0_nearestCorner_r1 ++ wsX0_nearestCorner_r2) ++ wsX00)
def wsX0_cornerOutside : List Cond := .code yX0_cornerOutside cX0_cornerOutside 4 (some .int) :: ([.fieldLink RX0 18 "JammedBodies$Body" "corners" "I", .methodLink RX0 26 yX0_x, .instanceMethod yX0_x, .selects RX0 yX0_x yX0_x, .initialized RX0, .code yX0_x cX0_x 2 (some .int), .fieldLink RX0 9 "JammedBodies$Body" "xs" "[I", .methodLink RX0 30 yX0_y, .instanceMethod yX0_y, .selects RX0 yX0_y yX0_y, .code yX0_y cX0_y 2 (some .int), .fieldLink RX0 15 "JammedBodies$Body" "ys" "[I"] ++ wsX00)
def wsX0_pointsUp : List Cond := .code yX0_pointsUp cX0_pointsUp 3 (some .boolean) :: ([.methodLink RX0 52 yX0_following, .instanceMethod yX0_following, .selects RX0 yX0_following yX0_following, .initialized RX0, .code yX0_following cX0_following 2 (some .int), .fieldLink RX0 18 "JammedBodies$Body" "corners" "I", .methodLink RX0 30 yX0_y, .instanceMethod yX0_y, .selects RX0 yX0_y yX0_y, .code yX0_y cX0_y 2 (some .int), .fieldLink RX0 15 "JammedBodies$Body" "ys" "[I", .methodLink RX0 26 yX0_x, .instanceMethod yX0_x, .selects RX0 yX0_x yX0_x, .code yX0_x cX0_x 2 (some .int), .fieldLink RX0 9 "JammedBodies$Body" "xs" "[I"] ++ wsX00)
def wsX0_timesRound : List Cond := .code yX0_timesRound cX0_timesRound 3 (some .int) :: ([.fieldLink RX0 18 "JammedBodies$Body" "corners" "I", .methodLink RX0 70 yX0_pointsUp, .instanceMethod yX0_pointsUp, .selects RX0 yX0_pointsUp yX0_pointsUp, .initialized RX0, .code yX0_pointsUp cX0_pointsUp 3 (some .boolean), .methodLink RX0 52 yX0_following, .instanceMethod yX0_following, .selects RX0 yX0_following yX0_following, .code yX0_following cX0_following 2 (some .int), .methodLink RX0 30 yX0_y, .instanceMethod yX0_y, .selects RX0 yX0_y yX0_y, .code yX0_y cX0_y 2 (some .int), .fieldLink RX0 15 "JammedBodies$Body" "ys" "[I", .methodLink RX0 26 yX0_x, .instanceMethod yX0_x, .selects RX0 yX0_x yX0_x, .code yX0_x cX0_x 2 (some .int), .fieldLink RX0 9 "JammedBodies$Body" "xs" "[I"] ++ wsX00)
def wsX0_causeOfShape_r1 : List Cond := [Cond.fieldLink RX0 18 "JammedBodies$Body" "corners" "I", Cond.methodLink RX0 52 yX0_following, Cond.instanceMethod yX0_following, Cond.selects RX0 yX0_following yX0_following, Cond.initialized RX0, Cond.code yX0_following cX0_following 2 (some .int), Cond.methodLink RX0 26 yX0_x, Cond.instanceMethod yX0_x, Cond.selects RX0 yX0_x yX0_x, Cond.code yX0_x cX0_x 2 (some .int), Cond.fieldLink RX0 9 "JammedBodies$Body" "xs" "[I", Cond.methodLink RX0 30 yX0_y, Cond.instanceMethod yX0_y, Cond.selects RX0 yX0_y yX0_y, Cond.code yX0_y cX0_y 2 (some .int), Cond.fieldLink RX0 15 "JammedBodies$Body" "ys" "[I", Cond.static yX4_cross, Cond.initialized RX4, Cond.code yX4_cross cX4_cross 6 (some .int), Cond.methodLink RX0 67 yX0_timesRound, Cond.instanceMethod yX0_timesRound, Cond.selects RX0 yX0_timesRound yX0_timesRound, Cond.code yX0_timesRound cX0_timesRound 3 (some .int), Cond.methodLink RX0 70 yX0_pointsUp]
def wsX0_causeOfShape_r2 : List Cond := [Cond.instanceMethod yX0_pointsUp, Cond.selects RX0 yX0_pointsUp yX0_pointsUp, Cond.code yX0_pointsUp cX0_pointsUp 3 (some .boolean)]
def wsX0_causeOfShape : List Cond := .code yX0_causeOfShape cX0_causeOfShape 4 (some .int) :: ((wsX0_causeOfShape_r1 ++ wsX0_causeOfShape_r2) ++ wsX00)
def wsX1_init : List Cond := .code yX1_init cX1_init 1 none :: ([.methodLink RX1 3 objectInit, .instanceMethod objectInit, .code objectInit ⟨#[0xb1]⟩ 1 none, .arrayClass .char, .fieldLink RX1 9 "JammedBodies$BodyText" "signs" "[C", .classLink RX1 15 RX0, .instantiable RX0 3, .initialized RX0, .fieldLink RX1 18 "JammedBodies$BodyText" "told" "LJammedBodies$Body;", .fieldLink RX1 22 "JammedBodies$BodyText" "cursor" "I", .fieldLink RX1 26 "JammedBodies$BodyText" "length" "I", .fieldLink RX1 29 "JammedBodies$BodyText" "place" "I", .fieldLink RX1 32 "JammedBodies$BodyText" "reason" "I", .fieldLink RX1 35 "JammedBodies$BodyText" "cause" "I", .methodLink RX1 17 yX0_init, .instanceMethod yX0_init, .code yX0_init cX0_init 1 none, .methodLink RX0 3 objectInit, .arrayClass .int, .fieldLink RX0 9 "JammedBodies$Body" "xs" "[I", .fieldLink RX0 15 "JammedBodies$Body" "ys" "[I", .fieldLink RX0 18 "JammedBodies$Body" "corners" "I"] ++ wsX10 ++ wsX00)
def wsX1_append : List Cond := .code yX1_append cX1_append 2 none :: ([.fieldLink RX1 26 "JammedBodies$BodyText" "length" "I", .fieldLink RX1 9 "JammedBodies$BodyText" "signs" "[C"] ++ wsX10)
def wsX1_find : List Cond := .code yX1_find cX1_find 4 none :: ([.fieldLink RX1 29 "JammedBodies$BodyText" "place" "I", .fieldLink RX1 32 "JammedBodies$BodyText" "reason" "I", .fieldLink RX1 35 "JammedBodies$BodyText" "cause" "I"] ++ wsX10)
def wsX1_sign : List Cond := .code yX1_sign cX1_sign 1 (some .char) :: ([.fieldLink RX1 22 "JammedBodies$BodyText" "cursor" "I", .fieldLink RX1 26 "JammedBodies$BodyText" "length" "I", .fieldLink RX1 9 "JammedBodies$BodyText" "signs" "[C"] ++ wsX10)
def wsX1_takes : List Cond := .code yX1_takes cX1_takes 3 (some .boolean) :: ([.fieldLink RX1 22 "JammedBodies$BodyText" "cursor" "I", .methodLink RX1 84 yX1_sign, .instanceMethod yX1_sign, .selects RX1 yX1_sign yX1_sign, .initialized RX1, .code yX1_sign cX1_sign 1 (some .char), .fieldLink RX1 26 "JammedBodies$BodyText" "length" "I", .fieldLink RX1 9 "JammedBodies$BodyText" "signs" "[C"] ++ wsX10)
def wsX1_takeDigit : List Cond := .code yX1_takeDigit cX1_takeDigit 2 (some .int) :: ([.fieldLink RX1 22 "JammedBodies$BodyText" "cursor" "I", .methodLink RX1 84 yX1_sign, .instanceMethod yX1_sign, .selects RX1 yX1_sign yX1_sign, .initialized RX1, .code yX1_sign cX1_sign 1 (some .char), .fieldLink RX1 26 "JammedBodies$BodyText" "length" "I", .fieldLink RX1 9 "JammedBodies$BodyText" "signs" "[C"] ++ wsX10)
def wsX1_takeNumber : List Cond := .code yX1_takeNumber cX1_takeNumber 3 (some .int) :: ([.methodLink RX1 88 yX1_takeDigit, .instanceMethod yX1_takeDigit, .selects RX1 yX1_takeDigit yX1_takeDigit, .initialized RX1, .code yX1_takeDigit cX1_takeDigit 2 (some .int), .fieldLink RX1 22 "JammedBodies$BodyText" "cursor" "I", .methodLink RX1 84 yX1_sign, .instanceMethod yX1_sign, .selects RX1 yX1_sign yX1_sign, .code yX1_sign cX1_sign 1 (some .char), .fieldLink RX1 26 "JammedBodies$BodyText" "length" "I", .fieldLink RX1 9 "JammedBodies$BodyText" "signs" "[C"] ++ wsX10)
def wsX1_readForm_r1 : List Cond := [Cond.fieldLink RX1 18 "JammedBodies$BodyText" "told" "LJammedBodies$Body;", Cond.fieldLink RX1 70 "JammedBodies$Body" "corners" "I", Cond.fieldLink RX1 22 "JammedBodies$BodyText" "cursor" "I", Cond.fieldLink RX1 26 "JammedBodies$BodyText" "length" "I", Cond.methodLink RX1 73 yX1_takes, Cond.instanceMethod yX1_takes, Cond.selects RX1 yX1_takes yX1_takes, Cond.initialized RX1, Cond.code yX1_takes cX1_takes 3 (some .boolean), Cond.methodLink RX1 84 yX1_sign, Cond.instanceMethod yX1_sign, Cond.selects RX1 yX1_sign yX1_sign, Cond.code yX1_sign cX1_sign 1 (some .char), Cond.fieldLink RX1 9 "JammedBodies$BodyText" "signs" "[C", Cond.methodLink RX1 77 yX1_takeNumber, Cond.instanceMethod yX1_takeNumber, Cond.selects RX1 yX1_takeNumber yX1_takeNumber, Cond.code yX1_takeNumber cX1_takeNumber 3 (some .int), Cond.methodLink RX1 88 yX1_takeDigit, Cond.instanceMethod yX1_takeDigit, Cond.selects RX1 yX1_takeDigit yX1_takeDigit, Cond.code yX1_takeDigit cX1_takeDigit 2 (some .int), Cond.methodLink RX1 80 yX0_addCorner, Cond.instanceMethod yX0_addCorner]
def wsX1_readForm_r2 : List Cond := [Cond.selects RX0 yX0_addCorner yX0_addCorner, Cond.initialized RX0, Cond.code yX0_addCorner cX0_addCorner 3 none, Cond.fieldLink RX0 18 "JammedBodies$Body" "corners" "I", Cond.methodLink RX0 22 yX0_place, Cond.instanceMethod yX0_place, Cond.selects RX0 yX0_place yX0_place, Cond.code yX0_place cX0_place 4 none, Cond.fieldLink RX0 9 "JammedBodies$Body" "xs" "[I", Cond.fieldLink RX0 15 "JammedBodies$Body" "ys" "[I"]
def wsX1_readForm : List Cond := .code yX1_readForm cX1_readForm 4 (some .boolean) :: ((wsX1_readForm_r1 ++ wsX1_readForm_r2) ++ wsX10 ++ wsX00)
def wsX3_at : List Cond := .code yX3_at cX3_at 2 (some (.object "JammedBodies$Body")) :: ([.fieldLink RX3 11 "JammedBodies$Packing" "row" "[LJammedBodies$Body;", .fieldLink RX3 18 "JammedBodies$Packing" "nobody" "LJammedBodies$Body;"] ++ wsX30)
def wsX3_overlapped_r1 : List Cond := [Cond.fieldLink RX3 25 "JammedBodies$Packing" "size" "I", Cond.methodLink RX3 35 yX3_at, Cond.instanceMethod yX3_at, Cond.selects RX3 yX3_at yX3_at, Cond.initialized RX3, Cond.code yX3_at cX3_at 2 (some (.object "JammedBodies$Body")), Cond.fieldLink RX3 11 "JammedBodies$Packing" "row" "[LJammedBodies$Body;", Cond.fieldLink RX3 18 "JammedBodies$Packing" "nobody" "LJammedBodies$Body;", Cond.methodLink RX3 47 yX0_leastReach, Cond.instanceMethod yX0_leastReach, Cond.selects RX0 yX0_leastReach yX0_leastReach, Cond.initialized RX0, Cond.code yX0_leastReach cX0_leastReach 4 (some .int), Cond.fieldLink RX0 18 "JammedBodies$Body" "corners" "I", Cond.methodLink RX0 43 Lib.Math.min.name, Cond.static Lib.Math.min.name, Cond.initialized "java/lang/Math", Cond.code Lib.Math.min.name Lib.Math.min.code 2 (some .int), Cond.methodLink RX0 63 yX0_reach, Cond.instanceMethod yX0_reach, Cond.selects RX0 yX0_reach yX0_reach, Cond.code yX0_reach cX0_reach 10 (some .int), Cond.constant RX0 58 (-1000000), Cond.methodLink RX0 49 Lib.Math.max.name]
def wsX3_overlapped_r2 : List Cond := [Cond.static Lib.Math.max.name, Cond.code Lib.Math.max.name Lib.Math.max.code 2 (some .int), Cond.methodLink RX0 52 yX0_following, Cond.instanceMethod yX0_following, Cond.selects RX0 yX0_following yX0_following, Cond.code yX0_following cX0_following 2 (some .int), Cond.methodLink RX0 26 yX0_x, Cond.instanceMethod yX0_x, Cond.selects RX0 yX0_x yX0_x, Cond.code yX0_x cX0_x 2 (some .int), Cond.fieldLink RX0 9 "JammedBodies$Body" "xs" "[I", Cond.methodLink RX0 30 yX0_y, Cond.instanceMethod yX0_y, Cond.selects RX0 yX0_y yX0_y, Cond.code yX0_y cX0_y 2 (some .int), Cond.fieldLink RX0 15 "JammedBodies$Body" "ys" "[I", Cond.static yX4_cross, Cond.initialized RX4, Cond.code yX4_cross cX4_cross 6 (some .int)]
def wsX3_overlapped : List Cond := .code yX3_overlapped cX3_overlapped 5 (some .int) :: ((wsX3_overlapped_r1 ++ wsX3_overlapped_r2) ++ wsX30 ++ wsX00)
def wsX4_lowest : List Cond := .code yX4_lowest cX4_lowest 2 (some .int) :: ([])
def wsX1_examine_r1 : List Cond := [Cond.fieldLink RX1 22 "JammedBodies$BodyText" "cursor" "I", Cond.fieldLink RX1 18 "JammedBodies$BodyText" "told" "LJammedBodies$Body;", Cond.fieldLink RX1 46 "JammedBodies$Packing" "width" "I", Cond.fieldLink RX1 51 "JammedBodies$Packing" "height" "I", Cond.methodLink RX1 38 yX1_find, Cond.instanceMethod yX1_find, Cond.selects RX1 yX1_find yX1_find, Cond.initialized RX1, Cond.code yX1_find cX1_find 4 none, Cond.fieldLink RX1 29 "JammedBodies$BodyText" "place" "I", Cond.fieldLink RX1 32 "JammedBodies$BodyText" "reason" "I", Cond.fieldLink RX1 35 "JammedBodies$BodyText" "cause" "I", Cond.methodLink RX1 42 yX1_readForm, Cond.instanceMethod yX1_readForm, Cond.selects RX1 yX1_readForm yX1_readForm, Cond.code yX1_readForm cX1_readForm 4 (some .boolean), Cond.fieldLink RX1 70 "JammedBodies$Body" "corners" "I", Cond.fieldLink RX1 26 "JammedBodies$BodyText" "length" "I", Cond.methodLink RX1 73 yX1_takes, Cond.instanceMethod yX1_takes, Cond.selects RX1 yX1_takes yX1_takes, Cond.code yX1_takes cX1_takes 3 (some .boolean), Cond.methodLink RX1 84 yX1_sign, Cond.instanceMethod yX1_sign]
def wsX1_examine_r2 : List Cond := [Cond.selects RX1 yX1_sign yX1_sign, Cond.code yX1_sign cX1_sign 1 (some .char), Cond.fieldLink RX1 9 "JammedBodies$BodyText" "signs" "[C", Cond.methodLink RX1 77 yX1_takeNumber, Cond.instanceMethod yX1_takeNumber, Cond.selects RX1 yX1_takeNumber yX1_takeNumber, Cond.code yX1_takeNumber cX1_takeNumber 3 (some .int), Cond.methodLink RX1 88 yX1_takeDigit, Cond.instanceMethod yX1_takeDigit, Cond.selects RX1 yX1_takeDigit yX1_takeDigit, Cond.code yX1_takeDigit cX1_takeDigit 2 (some .int), Cond.methodLink RX1 80 yX0_addCorner, Cond.instanceMethod yX0_addCorner, Cond.selects RX0 yX0_addCorner yX0_addCorner, Cond.initialized RX0, Cond.code yX0_addCorner cX0_addCorner 3 none, Cond.fieldLink RX0 18 "JammedBodies$Body" "corners" "I", Cond.methodLink RX0 22 yX0_place, Cond.instanceMethod yX0_place, Cond.selects RX0 yX0_place yX0_place, Cond.code yX0_place cX0_place 4 none, Cond.fieldLink RX0 9 "JammedBodies$Body" "xs" "[I", Cond.fieldLink RX0 15 "JammedBodies$Body" "ys" "[I", Cond.methodLink RX1 54 yX0_cornerOutside]
def wsX1_examine_r3 : List Cond := [Cond.instanceMethod yX0_cornerOutside, Cond.selects RX0 yX0_cornerOutside yX0_cornerOutside, Cond.code yX0_cornerOutside cX0_cornerOutside 4 (some .int), Cond.methodLink RX0 26 yX0_x, Cond.instanceMethod yX0_x, Cond.selects RX0 yX0_x yX0_x, Cond.code yX0_x cX0_x 2 (some .int), Cond.methodLink RX0 30 yX0_y, Cond.instanceMethod yX0_y, Cond.selects RX0 yX0_y yX0_y, Cond.code yX0_y cX0_y 2 (some .int), Cond.methodLink RX1 58 yX0_causeOfShape, Cond.instanceMethod yX0_causeOfShape, Cond.selects RX0 yX0_causeOfShape yX0_causeOfShape, Cond.code yX0_causeOfShape cX0_causeOfShape 4 (some .int), Cond.methodLink RX0 52 yX0_following, Cond.instanceMethod yX0_following, Cond.selects RX0 yX0_following yX0_following, Cond.code yX0_following cX0_following 2 (some .int), Cond.static yX4_cross, Cond.initialized RX4, Cond.code yX4_cross cX4_cross 6 (some .int), Cond.methodLink RX0 67 yX0_timesRound, Cond.instanceMethod yX0_timesRound]
def wsX1_examine_r4 : List Cond := [Cond.selects RX0 yX0_timesRound yX0_timesRound, Cond.code yX0_timesRound cX0_timesRound 3 (some .int), Cond.methodLink RX0 70 yX0_pointsUp, Cond.instanceMethod yX0_pointsUp, Cond.selects RX0 yX0_pointsUp yX0_pointsUp, Cond.code yX0_pointsUp cX0_pointsUp 3 (some .boolean), Cond.methodLink RX1 62 yX3_overlapped, Cond.instanceMethod yX3_overlapped, Cond.selects RX3 yX3_overlapped yX3_overlapped, Cond.initialized RX3, Cond.code yX3_overlapped cX3_overlapped 5 (some .int), Cond.fieldLink RX3 25 "JammedBodies$Packing" "size" "I", Cond.methodLink RX3 35 yX3_at, Cond.instanceMethod yX3_at, Cond.selects RX3 yX3_at yX3_at, Cond.code yX3_at cX3_at 2 (some (.object "JammedBodies$Body")), Cond.fieldLink RX3 11 "JammedBodies$Packing" "row" "[LJammedBodies$Body;", Cond.fieldLink RX3 18 "JammedBodies$Packing" "nobody" "LJammedBodies$Body;", Cond.methodLink RX3 47 yX0_leastReach, Cond.instanceMethod yX0_leastReach, Cond.selects RX0 yX0_leastReach yX0_leastReach, Cond.code yX0_leastReach cX0_leastReach 4 (some .int), Cond.methodLink RX0 43 Lib.Math.min.name, Cond.static Lib.Math.min.name]
def wsX1_examine_r5 : List Cond := [Cond.initialized "java/lang/Math", Cond.code Lib.Math.min.name Lib.Math.min.code 2 (some .int), Cond.methodLink RX0 63 yX0_reach, Cond.instanceMethod yX0_reach, Cond.selects RX0 yX0_reach yX0_reach, Cond.code yX0_reach cX0_reach 10 (some .int), Cond.constant RX0 58 (-1000000), Cond.methodLink RX0 49 Lib.Math.max.name, Cond.static Lib.Math.max.name, Cond.code Lib.Math.max.name Lib.Math.max.code 2 (some .int), Cond.static yX4_lowest, Cond.code yX4_lowest cX4_lowest 2 (some .int)]
def wsX1_examine : List Cond := .code yX1_examine cX1_examine 5 none :: ((wsX1_examine_r1 ++ (wsX1_examine_r2 ++ (wsX1_examine_r3 ++ (wsX1_examine_r4 ++ wsX1_examine_r5)))) ++ wsX10 ++ wsX30 ++ wsX00)
def wsX3_init : List Cond := .code yX3_init cX3_init 2 none :: ([.methodLink RX3 3 objectInit, .instanceMethod objectInit, .code objectInit ⟨#[0xb1]⟩ 1 none, .classLink RX3 9 RX0, .fieldLink RX3 11 "JammedBodies$Packing" "row" "[LJammedBodies$Body;", .instantiable RX0 3, .initialized RX0, .fieldLink RX3 18 "JammedBodies$Packing" "nobody" "LJammedBodies$Body;", .fieldLink RX3 22 "JammedBodies$Packing" "ghost" "LJammedBodies$Body;", .fieldLink RX3 25 "JammedBodies$Packing" "size" "I", .fieldLink RX3 29 "JammedBodies$Packing" "width" "I", .fieldLink RX3 32 "JammedBodies$Packing" "height" "I", .methodLink RX3 17 yX0_init, .instanceMethod yX0_init, .code yX0_init cX0_init 1 none, .methodLink RX0 3 objectInit, .arrayClass .int, .fieldLink RX0 9 "JammedBodies$Body" "xs" "[I", .fieldLink RX0 15 "JammedBodies$Body" "ys" "[I", .fieldLink RX0 18 "JammedBodies$Body" "corners" "I"] ++ wsX30 ++ wsX00)
def wsX2_init_r1 : List Cond := [Cond.methodLink RX2 3 objectInit, Cond.instanceMethod objectInit, Cond.code objectInit ⟨#[0xb1]⟩ 1 none, Cond.classLink RX2 9 RX3, Cond.fieldLink RX2 11 "JammedBodies$History" "ring" "[LJammedBodies$Packing;", Cond.instantiable RX3 6, Cond.initialized RX3, Cond.fieldLink RX2 18 "JammedBodies$History" "none" "LJammedBodies$Packing;", Cond.fieldLink RX2 22 "JammedBodies$History" "oldest" "I", Cond.fieldLink RX2 26 "JammedBodies$History" "size" "I", Cond.methodLink RX2 17 yX3_init, Cond.instanceMethod yX3_init, Cond.code yX3_init cX3_init 2 none, Cond.methodLink RX3 3 objectInit, Cond.classLink RX3 9 RX0, Cond.fieldLink RX3 11 "JammedBodies$Packing" "row" "[LJammedBodies$Body;", Cond.instantiable RX0 3, Cond.initialized RX0, Cond.fieldLink RX3 18 "JammedBodies$Packing" "nobody" "LJammedBodies$Body;", Cond.fieldLink RX3 22 "JammedBodies$Packing" "ghost" "LJammedBodies$Body;", Cond.fieldLink RX3 25 "JammedBodies$Packing" "size" "I", Cond.fieldLink RX3 29 "JammedBodies$Packing" "width" "I", Cond.fieldLink RX3 32 "JammedBodies$Packing" "height" "I", Cond.methodLink RX3 17 yX0_init]
def wsX2_init_r2 : List Cond := [Cond.instanceMethod yX0_init, Cond.code yX0_init cX0_init 1 none, Cond.methodLink RX0 3 objectInit, Cond.arrayClass .int, Cond.fieldLink RX0 9 "JammedBodies$Body" "xs" "[I", Cond.fieldLink RX0 15 "JammedBodies$Body" "ys" "[I", Cond.fieldLink RX0 18 "JammedBodies$Body" "corners" "I"]
def wsX2_init : List Cond := .code yX2_init cX2_init 2 none :: ((wsX2_init_r1 ++ wsX2_init_r2) ++ wsX20 ++ wsX30 ++ wsX00)
def wsX2_at : List Cond := .code yX2_at cX2_at 3 (some (.object "JammedBodies$Packing")) :: ([.fieldLink RX2 22 "JammedBodies$History" "oldest" "I", .fieldLink RX2 11 "JammedBodies$History" "ring" "[LJammedBodies$Packing;", .fieldLink RX2 18 "JammedBodies$History" "none" "LJammedBodies$Packing;"] ++ wsX20)
def wsX3_copyFrom_r1 : List Cond := [Cond.fieldLink RX3 25 "JammedBodies$Packing" "size" "I", Cond.fieldLink RX3 29 "JammedBodies$Packing" "width" "I", Cond.fieldLink RX3 32 "JammedBodies$Packing" "height" "I", Cond.methodLink RX3 35 yX3_at, Cond.instanceMethod yX3_at, Cond.selects RX3 yX3_at yX3_at, Cond.initialized RX3, Cond.code yX3_at cX3_at 2 (some (.object "JammedBodies$Body")), Cond.fieldLink RX3 11 "JammedBodies$Packing" "row" "[LJammedBodies$Body;", Cond.fieldLink RX3 18 "JammedBodies$Packing" "nobody" "LJammedBodies$Body;", Cond.methodLink RX3 39 yX0_copyFrom, Cond.instanceMethod yX0_copyFrom, Cond.selects RX0 yX0_copyFrom yX0_copyFrom, Cond.initialized RX0, Cond.code yX0_copyFrom cX0_copyFrom 3 none, Cond.fieldLink RX0 18 "JammedBodies$Body" "corners" "I", Cond.methodLink RX0 26 yX0_x, Cond.instanceMethod yX0_x, Cond.selects RX0 yX0_x yX0_x, Cond.code yX0_x cX0_x 2 (some .int), Cond.fieldLink RX0 9 "JammedBodies$Body" "xs" "[I", Cond.methodLink RX0 30 yX0_y, Cond.instanceMethod yX0_y, Cond.selects RX0 yX0_y yX0_y]
def wsX3_copyFrom_r2 : List Cond := [Cond.code yX0_y cX0_y 2 (some .int), Cond.fieldLink RX0 15 "JammedBodies$Body" "ys" "[I", Cond.methodLink RX0 22 yX0_place, Cond.instanceMethod yX0_place, Cond.selects RX0 yX0_place yX0_place, Cond.code yX0_place cX0_place 4 none]
def wsX3_copyFrom : List Cond := .code yX3_copyFrom cX3_copyFrom 3 none :: ((wsX3_copyFrom_r1 ++ wsX3_copyFrom_r2) ++ wsX30 ++ wsX00)
def wsX2_keep_r1 : List Cond := [Cond.fieldLink RX2 26 "JammedBodies$History" "size" "I", Cond.fieldLink RX2 22 "JammedBodies$History" "oldest" "I", Cond.methodLink RX2 29 yX2_at, Cond.instanceMethod yX2_at, Cond.selects RX2 yX2_at yX2_at, Cond.initialized RX2, Cond.code yX2_at cX2_at 3 (some (.object "JammedBodies$Packing")), Cond.fieldLink RX2 11 "JammedBodies$History" "ring" "[LJammedBodies$Packing;", Cond.fieldLink RX2 18 "JammedBodies$History" "none" "LJammedBodies$Packing;", Cond.methodLink RX2 33 yX3_copyFrom, Cond.instanceMethod yX3_copyFrom, Cond.selects RX3 yX3_copyFrom yX3_copyFrom, Cond.initialized RX3, Cond.code yX3_copyFrom cX3_copyFrom 3 none, Cond.fieldLink RX3 25 "JammedBodies$Packing" "size" "I", Cond.fieldLink RX3 29 "JammedBodies$Packing" "width" "I", Cond.fieldLink RX3 32 "JammedBodies$Packing" "height" "I", Cond.methodLink RX3 35 yX3_at, Cond.instanceMethod yX3_at, Cond.selects RX3 yX3_at yX3_at, Cond.code yX3_at cX3_at 2 (some (.object "JammedBodies$Body")), Cond.fieldLink RX3 11 "JammedBodies$Packing" "row" "[LJammedBodies$Body;", Cond.fieldLink RX3 18 "JammedBodies$Packing" "nobody" "LJammedBodies$Body;", Cond.methodLink RX3 39 yX0_copyFrom]
def wsX2_keep_r2 : List Cond := [Cond.instanceMethod yX0_copyFrom, Cond.selects RX0 yX0_copyFrom yX0_copyFrom, Cond.initialized RX0, Cond.code yX0_copyFrom cX0_copyFrom 3 none, Cond.fieldLink RX0 18 "JammedBodies$Body" "corners" "I", Cond.methodLink RX0 26 yX0_x, Cond.instanceMethod yX0_x, Cond.selects RX0 yX0_x yX0_x, Cond.code yX0_x cX0_x 2 (some .int), Cond.fieldLink RX0 9 "JammedBodies$Body" "xs" "[I", Cond.methodLink RX0 30 yX0_y, Cond.instanceMethod yX0_y, Cond.selects RX0 yX0_y yX0_y, Cond.code yX0_y cX0_y 2 (some .int), Cond.fieldLink RX0 15 "JammedBodies$Body" "ys" "[I", Cond.methodLink RX0 22 yX0_place, Cond.instanceMethod yX0_place, Cond.selects RX0 yX0_place yX0_place, Cond.code yX0_place cX0_place 4 none]
def wsX2_keep : List Cond := .code yX2_keep cX2_keep 2 none :: ((wsX2_keep_r1 ++ wsX2_keep_r2) ++ wsX20 ++ wsX30 ++ wsX00)
def wsX2_restore_r1 : List Cond := [Cond.fieldLink RX2 26 "JammedBodies$History" "size" "I", Cond.methodLink RX2 29 yX2_at, Cond.instanceMethod yX2_at, Cond.selects RX2 yX2_at yX2_at, Cond.initialized RX2, Cond.code yX2_at cX2_at 3 (some (.object "JammedBodies$Packing")), Cond.fieldLink RX2 22 "JammedBodies$History" "oldest" "I", Cond.fieldLink RX2 11 "JammedBodies$History" "ring" "[LJammedBodies$Packing;", Cond.fieldLink RX2 18 "JammedBodies$History" "none" "LJammedBodies$Packing;", Cond.methodLink RX2 33 yX3_copyFrom, Cond.instanceMethod yX3_copyFrom, Cond.selects RX3 yX3_copyFrom yX3_copyFrom, Cond.initialized RX3, Cond.code yX3_copyFrom cX3_copyFrom 3 none, Cond.fieldLink RX3 25 "JammedBodies$Packing" "size" "I", Cond.fieldLink RX3 29 "JammedBodies$Packing" "width" "I", Cond.fieldLink RX3 32 "JammedBodies$Packing" "height" "I", Cond.methodLink RX3 35 yX3_at, Cond.instanceMethod yX3_at, Cond.selects RX3 yX3_at yX3_at, Cond.code yX3_at cX3_at 2 (some (.object "JammedBodies$Body")), Cond.fieldLink RX3 11 "JammedBodies$Packing" "row" "[LJammedBodies$Body;", Cond.fieldLink RX3 18 "JammedBodies$Packing" "nobody" "LJammedBodies$Body;", Cond.methodLink RX3 39 yX0_copyFrom]
def wsX2_restore_r2 : List Cond := [Cond.instanceMethod yX0_copyFrom, Cond.selects RX0 yX0_copyFrom yX0_copyFrom, Cond.initialized RX0, Cond.code yX0_copyFrom cX0_copyFrom 3 none, Cond.fieldLink RX0 18 "JammedBodies$Body" "corners" "I", Cond.methodLink RX0 26 yX0_x, Cond.instanceMethod yX0_x, Cond.selects RX0 yX0_x yX0_x, Cond.code yX0_x cX0_x 2 (some .int), Cond.fieldLink RX0 9 "JammedBodies$Body" "xs" "[I", Cond.methodLink RX0 30 yX0_y, Cond.instanceMethod yX0_y, Cond.selects RX0 yX0_y yX0_y, Cond.code yX0_y cX0_y 2 (some .int), Cond.fieldLink RX0 15 "JammedBodies$Body" "ys" "[I", Cond.methodLink RX0 22 yX0_place, Cond.instanceMethod yX0_place, Cond.selects RX0 yX0_place yX0_place, Cond.code yX0_place cX0_place 4 none]
def wsX2_restore : List Cond := .code yX2_restore cX2_restore 2 none :: ((wsX2_restore_r1 ++ wsX2_restore_r2) ++ wsX20 ++ wsX30 ++ wsX00)
def wsX3_has : List Cond := .code yX3_has cX3_has 2 (some .boolean) :: ([.fieldLink RX3 25 "JammedBodies$Packing" "size" "I"] ++ wsX30)
def wsX3_add_r1 : List Cond := [Cond.fieldLink RX3 25 "JammedBodies$Packing" "size" "I", Cond.methodLink RX3 35 yX3_at, Cond.instanceMethod yX3_at, Cond.selects RX3 yX3_at yX3_at, Cond.initialized RX3, Cond.code yX3_at cX3_at 2 (some (.object "JammedBodies$Body")), Cond.fieldLink RX3 11 "JammedBodies$Packing" "row" "[LJammedBodies$Body;", Cond.fieldLink RX3 18 "JammedBodies$Packing" "nobody" "LJammedBodies$Body;", Cond.methodLink RX3 39 yX0_copyFrom, Cond.instanceMethod yX0_copyFrom, Cond.selects RX0 yX0_copyFrom yX0_copyFrom, Cond.initialized RX0, Cond.code yX0_copyFrom cX0_copyFrom 3 none, Cond.fieldLink RX0 18 "JammedBodies$Body" "corners" "I", Cond.methodLink RX0 26 yX0_x, Cond.instanceMethod yX0_x, Cond.selects RX0 yX0_x yX0_x, Cond.code yX0_x cX0_x 2 (some .int), Cond.fieldLink RX0 9 "JammedBodies$Body" "xs" "[I", Cond.methodLink RX0 30 yX0_y, Cond.instanceMethod yX0_y, Cond.selects RX0 yX0_y yX0_y, Cond.code yX0_y cX0_y 2 (some .int), Cond.fieldLink RX0 15 "JammedBodies$Body" "ys" "[I"]
def wsX3_add_r2 : List Cond := [Cond.methodLink RX0 22 yX0_place, Cond.instanceMethod yX0_place, Cond.selects RX0 yX0_place yX0_place, Cond.code yX0_place cX0_place 4 none]
def wsX3_add : List Cond := .code yX3_add cX3_add 2 (some .int) :: ((wsX3_add_r1 ++ wsX3_add_r2) ++ wsX30 ++ wsX00)
def wsX3_takeOut_r1 : List Cond := [Cond.fieldLink RX3 25 "JammedBodies$Packing" "size" "I", Cond.methodLink RX3 35 yX3_at, Cond.instanceMethod yX3_at, Cond.selects RX3 yX3_at yX3_at, Cond.initialized RX3, Cond.code yX3_at cX3_at 2 (some (.object "JammedBodies$Body")), Cond.fieldLink RX3 11 "JammedBodies$Packing" "row" "[LJammedBodies$Body;", Cond.fieldLink RX3 18 "JammedBodies$Packing" "nobody" "LJammedBodies$Body;", Cond.methodLink RX3 39 yX0_copyFrom, Cond.instanceMethod yX0_copyFrom, Cond.selects RX0 yX0_copyFrom yX0_copyFrom, Cond.initialized RX0, Cond.code yX0_copyFrom cX0_copyFrom 3 none, Cond.fieldLink RX0 18 "JammedBodies$Body" "corners" "I", Cond.methodLink RX0 26 yX0_x, Cond.instanceMethod yX0_x, Cond.selects RX0 yX0_x yX0_x, Cond.code yX0_x cX0_x 2 (some .int), Cond.fieldLink RX0 9 "JammedBodies$Body" "xs" "[I", Cond.methodLink RX0 30 yX0_y, Cond.instanceMethod yX0_y, Cond.selects RX0 yX0_y yX0_y, Cond.code yX0_y cX0_y 2 (some .int), Cond.fieldLink RX0 15 "JammedBodies$Body" "ys" "[I"]
def wsX3_takeOut_r2 : List Cond := [Cond.methodLink RX0 22 yX0_place, Cond.instanceMethod yX0_place, Cond.selects RX0 yX0_place yX0_place, Cond.code yX0_place cX0_place 4 none]
def wsX3_takeOut : List Cond := .code yX3_takeOut cX3_takeOut 3 none :: ((wsX3_takeOut_r1 ++ wsX3_takeOut_r2) ++ wsX30 ++ wsX00)
def wsX3_fitsInto_r1 : List Cond := [Cond.fieldLink RX3 25 "JammedBodies$Packing" "size" "I", Cond.methodLink RX3 35 yX3_at, Cond.instanceMethod yX3_at, Cond.selects RX3 yX3_at yX3_at, Cond.initialized RX3, Cond.code yX3_at cX3_at 2 (some (.object "JammedBodies$Body")), Cond.fieldLink RX3 11 "JammedBodies$Packing" "row" "[LJammedBodies$Body;", Cond.fieldLink RX3 18 "JammedBodies$Packing" "nobody" "LJammedBodies$Body;", Cond.methodLink RX3 43 yX0_wallsBeyond, Cond.instanceMethod yX0_wallsBeyond, Cond.selects RX0 yX0_wallsBeyond yX0_wallsBeyond, Cond.initialized RX0, Cond.code yX0_wallsBeyond cX0_wallsBeyond 4 (some .int), Cond.methodLink RX0 33 yX0_left, Cond.instanceMethod yX0_left, Cond.selects RX0 yX0_left yX0_left, Cond.code yX0_left cX0_left 3 (some .int), Cond.fieldLink RX0 18 "JammedBodies$Body" "corners" "I", Cond.methodLink RX0 43 Lib.Math.min.name, Cond.static Lib.Math.min.name, Cond.initialized "java/lang/Math", Cond.code Lib.Math.min.name Lib.Math.min.code 2 (some .int), Cond.methodLink RX0 26 yX0_x, Cond.instanceMethod yX0_x]
def wsX3_fitsInto_r2 : List Cond := [Cond.selects RX0 yX0_x yX0_x, Cond.code yX0_x cX0_x 2 (some .int), Cond.fieldLink RX0 9 "JammedBodies$Body" "xs" "[I", Cond.methodLink RX0 55 yX0_right, Cond.instanceMethod yX0_right, Cond.selects RX0 yX0_right yX0_right, Cond.code yX0_right cX0_right 3 (some .int), Cond.methodLink RX0 49 Lib.Math.max.name, Cond.static Lib.Math.max.name, Cond.code Lib.Math.max.name Lib.Math.max.code 2 (some .int), Cond.methodLink RX0 37 yX0_low, Cond.instanceMethod yX0_low, Cond.selects RX0 yX0_low yX0_low, Cond.code yX0_low cX0_low 3 (some .int), Cond.methodLink RX0 30 yX0_y, Cond.instanceMethod yX0_y, Cond.selects RX0 yX0_y yX0_y, Cond.code yX0_y cX0_y 2 (some .int), Cond.fieldLink RX0 15 "JammedBodies$Body" "ys" "[I", Cond.methodLink RX0 40 yX0_high, Cond.instanceMethod yX0_high, Cond.selects RX0 yX0_high yX0_high, Cond.code yX0_high cX0_high 3 (some .int)]
def wsX3_fitsInto : List Cond := .code yX3_fitsInto cX3_fitsInto 4 (some .boolean) :: ((wsX3_fitsInto_r1 ++ wsX3_fitsInto_r2) ++ wsX30 ++ wsX00)
def wsX3_touching_r1 : List Cond := [Cond.fieldLink RX3 25 "JammedBodies$Packing" "size" "I", Cond.methodLink RX3 51 Lib.Math.min.name, Cond.static Lib.Math.min.name, Cond.initialized "java/lang/Math", Cond.code Lib.Math.min.name Lib.Math.min.code 2 (some .int), Cond.methodLink RX3 35 yX3_at, Cond.instanceMethod yX3_at, Cond.selects RX3 yX3_at yX3_at, Cond.initialized RX3, Cond.code yX3_at cX3_at 2 (some (.object "JammedBodies$Body")), Cond.fieldLink RX3 11 "JammedBodies$Packing" "row" "[LJammedBodies$Body;", Cond.fieldLink RX3 18 "JammedBodies$Packing" "nobody" "LJammedBodies$Body;", Cond.methodLink RX3 47 yX0_leastReach, Cond.instanceMethod yX0_leastReach, Cond.selects RX0 yX0_leastReach yX0_leastReach, Cond.initialized RX0, Cond.code yX0_leastReach cX0_leastReach 4 (some .int), Cond.fieldLink RX0 18 "JammedBodies$Body" "corners" "I", Cond.methodLink RX0 43 Lib.Math.min.name, Cond.methodLink RX0 63 yX0_reach, Cond.instanceMethod yX0_reach, Cond.selects RX0 yX0_reach yX0_reach, Cond.code yX0_reach cX0_reach 10 (some .int), Cond.constant RX0 58 (-1000000)]
def wsX3_touching_r2 : List Cond := [Cond.methodLink RX0 49 Lib.Math.max.name, Cond.static Lib.Math.max.name, Cond.code Lib.Math.max.name Lib.Math.max.code 2 (some .int), Cond.methodLink RX0 52 yX0_following, Cond.instanceMethod yX0_following, Cond.selects RX0 yX0_following yX0_following, Cond.code yX0_following cX0_following 2 (some .int), Cond.methodLink RX0 26 yX0_x, Cond.instanceMethod yX0_x, Cond.selects RX0 yX0_x yX0_x, Cond.code yX0_x cX0_x 2 (some .int), Cond.fieldLink RX0 9 "JammedBodies$Body" "xs" "[I", Cond.methodLink RX0 30 yX0_y, Cond.instanceMethod yX0_y, Cond.selects RX0 yX0_y yX0_y, Cond.code yX0_y cX0_y 2 (some .int), Cond.fieldLink RX0 15 "JammedBodies$Body" "ys" "[I", Cond.static yX4_cross, Cond.initialized RX4, Cond.code yX4_cross cX4_cross 6 (some .int)]
def wsX3_touching : List Cond := .code yX3_touching cX3_touching 5 (some .int) :: ((wsX3_touching_r1 ++ wsX3_touching_r2) ++ wsX30 ++ wsX00)
def wsX3_touchingNone_r1 : List Cond := [Cond.fieldLink RX3 25 "JammedBodies$Packing" "size" "I", Cond.methodLink RX3 56 yX3_touching, Cond.instanceMethod yX3_touching, Cond.selects RX3 yX3_touching yX3_touching, Cond.initialized RX3, Cond.code yX3_touching cX3_touching 5 (some .int), Cond.methodLink RX3 51 Lib.Math.min.name, Cond.static Lib.Math.min.name, Cond.initialized "java/lang/Math", Cond.code Lib.Math.min.name Lib.Math.min.code 2 (some .int), Cond.methodLink RX3 35 yX3_at, Cond.instanceMethod yX3_at, Cond.selects RX3 yX3_at yX3_at, Cond.code yX3_at cX3_at 2 (some (.object "JammedBodies$Body")), Cond.fieldLink RX3 11 "JammedBodies$Packing" "row" "[LJammedBodies$Body;", Cond.fieldLink RX3 18 "JammedBodies$Packing" "nobody" "LJammedBodies$Body;", Cond.methodLink RX3 47 yX0_leastReach, Cond.instanceMethod yX0_leastReach, Cond.selects RX0 yX0_leastReach yX0_leastReach, Cond.initialized RX0, Cond.code yX0_leastReach cX0_leastReach 4 (some .int), Cond.fieldLink RX0 18 "JammedBodies$Body" "corners" "I", Cond.methodLink RX0 43 Lib.Math.min.name, Cond.methodLink RX0 63 yX0_reach]
def wsX3_touchingNone_r2 : List Cond := [Cond.instanceMethod yX0_reach, Cond.selects RX0 yX0_reach yX0_reach, Cond.code yX0_reach cX0_reach 10 (some .int), Cond.constant RX0 58 (-1000000), Cond.methodLink RX0 49 Lib.Math.max.name, Cond.static Lib.Math.max.name, Cond.code Lib.Math.max.name Lib.Math.max.code 2 (some .int), Cond.methodLink RX0 52 yX0_following, Cond.instanceMethod yX0_following, Cond.selects RX0 yX0_following yX0_following, Cond.code yX0_following cX0_following 2 (some .int), Cond.methodLink RX0 26 yX0_x, Cond.instanceMethod yX0_x, Cond.selects RX0 yX0_x yX0_x, Cond.code yX0_x cX0_x 2 (some .int), Cond.fieldLink RX0 9 "JammedBodies$Body" "xs" "[I", Cond.methodLink RX0 30 yX0_y, Cond.instanceMethod yX0_y, Cond.selects RX0 yX0_y yX0_y, Cond.code yX0_y cX0_y 2 (some .int), Cond.fieldLink RX0 15 "JammedBodies$Body" "ys" "[I", Cond.static yX4_cross, Cond.initialized RX4, Cond.code yX4_cross cX4_cross 6 (some .int)]
def wsX3_touchingNone : List Cond := .code yX3_touchingNone cX3_touchingNone 3 (some .int) :: ((wsX3_touchingNone_r1 ++ wsX3_touchingNone_r2) ++ wsX30 ++ wsX00)
def wsJ6_bitCount_0f7a4 : List Cond := .code yJ6_bitCount_0f7a4 cJ6_bitCount_0f7a4 1 (some .int) :: ([.constant RJ6 265 (1431655765), .constant RJ6 266 (858993459), .constant RJ6 267 (252645135)])
def wsX3_touchingPairs_r1 : List Cond := [Cond.fieldLink RX3 25 "JammedBodies$Packing" "size" "I", Cond.methodLink RX3 56 yX3_touching, Cond.instanceMethod yX3_touching, Cond.selects RX3 yX3_touching yX3_touching, Cond.initialized RX3, Cond.code yX3_touching cX3_touching 5 (some .int), Cond.methodLink RX3 51 Lib.Math.min.name, Cond.static Lib.Math.min.name, Cond.initialized "java/lang/Math", Cond.code Lib.Math.min.name Lib.Math.min.code 2 (some .int), Cond.methodLink RX3 35 yX3_at, Cond.instanceMethod yX3_at, Cond.selects RX3 yX3_at yX3_at, Cond.code yX3_at cX3_at 2 (some (.object "JammedBodies$Body")), Cond.fieldLink RX3 11 "JammedBodies$Packing" "row" "[LJammedBodies$Body;", Cond.fieldLink RX3 18 "JammedBodies$Packing" "nobody" "LJammedBodies$Body;", Cond.methodLink RX3 47 yX0_leastReach, Cond.instanceMethod yX0_leastReach, Cond.selects RX0 yX0_leastReach yX0_leastReach, Cond.initialized RX0, Cond.code yX0_leastReach cX0_leastReach 4 (some .int), Cond.fieldLink RX0 18 "JammedBodies$Body" "corners" "I", Cond.methodLink RX0 43 Lib.Math.min.name, Cond.methodLink RX0 63 yX0_reach]
def wsX3_touchingPairs_r2 : List Cond := [Cond.instanceMethod yX0_reach, Cond.selects RX0 yX0_reach yX0_reach, Cond.code yX0_reach cX0_reach 10 (some .int), Cond.constant RX0 58 (-1000000), Cond.methodLink RX0 49 Lib.Math.max.name, Cond.static Lib.Math.max.name, Cond.code Lib.Math.max.name Lib.Math.max.code 2 (some .int), Cond.methodLink RX0 52 yX0_following, Cond.instanceMethod yX0_following, Cond.selects RX0 yX0_following yX0_following, Cond.code yX0_following cX0_following 2 (some .int), Cond.methodLink RX0 26 yX0_x, Cond.instanceMethod yX0_x, Cond.selects RX0 yX0_x yX0_x, Cond.code yX0_x cX0_x 2 (some .int), Cond.fieldLink RX0 9 "JammedBodies$Body" "xs" "[I", Cond.methodLink RX0 30 yX0_y, Cond.instanceMethod yX0_y, Cond.selects RX0 yX0_y yX0_y, Cond.code yX0_y cX0_y 2 (some .int), Cond.fieldLink RX0 15 "JammedBodies$Body" "ys" "[I", Cond.static yX4_cross, Cond.initialized RX4, Cond.code yX4_cross cX4_cross 6 (some .int)]
def wsX3_touchingPairs_r3 : List Cond := [Cond.methodLink RX3 60 yJ6_bitCount_0f7a4, Cond.static yJ6_bitCount_0f7a4, Cond.initialized RJ6, Cond.code yJ6_bitCount_0f7a4 cJ6_bitCount_0f7a4 1 (some .int), Cond.constant RJ6 265 (1431655765), Cond.constant RJ6 266 (858993459), Cond.constant RJ6 267 (252645135)]
def wsX3_touchingPairs : List Cond := .code yX3_touchingPairs cX3_touchingPairs 3 (some .int) :: ((wsX3_touchingPairs_r1 ++ (wsX3_touchingPairs_r2 ++ wsX3_touchingPairs_r3)) ++ wsX30 ++ wsX00)
def wsX3_touchingWalls_r1 : List Cond := [Cond.fieldLink RX3 25 "JammedBodies$Packing" "size" "I", Cond.fieldLink RX3 29 "JammedBodies$Packing" "width" "I", Cond.fieldLink RX3 32 "JammedBodies$Packing" "height" "I", Cond.methodLink RX3 35 yX3_at, Cond.instanceMethod yX3_at, Cond.selects RX3 yX3_at yX3_at, Cond.initialized RX3, Cond.code yX3_at cX3_at 2 (some (.object "JammedBodies$Body")), Cond.fieldLink RX3 11 "JammedBodies$Packing" "row" "[LJammedBodies$Body;", Cond.fieldLink RX3 18 "JammedBodies$Packing" "nobody" "LJammedBodies$Body;", Cond.methodLink RX3 65 yX0_wallsTouched, Cond.instanceMethod yX0_wallsTouched, Cond.selects RX0 yX0_wallsTouched yX0_wallsTouched, Cond.initialized RX0, Cond.code yX0_wallsTouched cX0_wallsTouched 4 (some .int), Cond.methodLink RX0 33 yX0_left, Cond.instanceMethod yX0_left, Cond.selects RX0 yX0_left yX0_left, Cond.code yX0_left cX0_left 3 (some .int), Cond.fieldLink RX0 18 "JammedBodies$Body" "corners" "I", Cond.methodLink RX0 43 Lib.Math.min.name, Cond.static Lib.Math.min.name, Cond.initialized "java/lang/Math", Cond.code Lib.Math.min.name Lib.Math.min.code 2 (some .int)]
def wsX3_touchingWalls_r2 : List Cond := [Cond.methodLink RX0 26 yX0_x, Cond.instanceMethod yX0_x, Cond.selects RX0 yX0_x yX0_x, Cond.code yX0_x cX0_x 2 (some .int), Cond.fieldLink RX0 9 "JammedBodies$Body" "xs" "[I", Cond.methodLink RX0 55 yX0_right, Cond.instanceMethod yX0_right, Cond.selects RX0 yX0_right yX0_right, Cond.code yX0_right cX0_right 3 (some .int), Cond.methodLink RX0 49 Lib.Math.max.name, Cond.static Lib.Math.max.name, Cond.code Lib.Math.max.name Lib.Math.max.code 2 (some .int), Cond.methodLink RX0 37 yX0_low, Cond.instanceMethod yX0_low, Cond.selects RX0 yX0_low yX0_low, Cond.code yX0_low cX0_low 3 (some .int), Cond.methodLink RX0 30 yX0_y, Cond.instanceMethod yX0_y, Cond.selects RX0 yX0_y yX0_y, Cond.code yX0_y cX0_y 2 (some .int), Cond.fieldLink RX0 15 "JammedBodies$Body" "ys" "[I", Cond.methodLink RX0 40 yX0_high, Cond.instanceMethod yX0_high, Cond.selects RX0 yX0_high yX0_high]
def wsX3_touchingWalls_r3 : List Cond := [Cond.code yX0_high cX0_high 3 (some .int)]
def wsX3_touchingWalls : List Cond := .code yX3_touchingWalls cX3_touchingWalls 4 (some .int) :: ((wsX3_touchingWalls_r1 ++ (wsX3_touchingWalls_r2 ++ wsX3_touchingWalls_r3)) ++ wsX30 ++ wsX00)
def wsX3_spread_r1 : List Cond := [Cond.static yX4_lowest, Cond.initialized RX4, Cond.code yX4_lowest cX4_lowest 2 (some .int), Cond.methodLink RX3 56 yX3_touching, Cond.instanceMethod yX3_touching, Cond.selects RX3 yX3_touching yX3_touching, Cond.initialized RX3, Cond.code yX3_touching cX3_touching 5 (some .int), Cond.fieldLink RX3 25 "JammedBodies$Packing" "size" "I", Cond.methodLink RX3 51 Lib.Math.min.name, Cond.static Lib.Math.min.name, Cond.initialized "java/lang/Math", Cond.code Lib.Math.min.name Lib.Math.min.code 2 (some .int), Cond.methodLink RX3 35 yX3_at, Cond.instanceMethod yX3_at, Cond.selects RX3 yX3_at yX3_at, Cond.code yX3_at cX3_at 2 (some (.object "JammedBodies$Body")), Cond.fieldLink RX3 11 "JammedBodies$Packing" "row" "[LJammedBodies$Body;", Cond.fieldLink RX3 18 "JammedBodies$Packing" "nobody" "LJammedBodies$Body;", Cond.methodLink RX3 47 yX0_leastReach, Cond.instanceMethod yX0_leastReach, Cond.selects RX0 yX0_leastReach yX0_leastReach, Cond.initialized RX0, Cond.code yX0_leastReach cX0_leastReach 4 (some .int)]
def wsX3_spread_r2 : List Cond := [Cond.fieldLink RX0 18 "JammedBodies$Body" "corners" "I", Cond.methodLink RX0 43 Lib.Math.min.name, Cond.methodLink RX0 63 yX0_reach, Cond.instanceMethod yX0_reach, Cond.selects RX0 yX0_reach yX0_reach, Cond.code yX0_reach cX0_reach 10 (some .int), Cond.constant RX0 58 (-1000000), Cond.methodLink RX0 49 Lib.Math.max.name, Cond.static Lib.Math.max.name, Cond.code Lib.Math.max.name Lib.Math.max.code 2 (some .int), Cond.methodLink RX0 52 yX0_following, Cond.instanceMethod yX0_following, Cond.selects RX0 yX0_following yX0_following, Cond.code yX0_following cX0_following 2 (some .int), Cond.methodLink RX0 26 yX0_x, Cond.instanceMethod yX0_x, Cond.selects RX0 yX0_x yX0_x, Cond.code yX0_x cX0_x 2 (some .int), Cond.fieldLink RX0 9 "JammedBodies$Body" "xs" "[I", Cond.methodLink RX0 30 yX0_y, Cond.instanceMethod yX0_y, Cond.selects RX0 yX0_y yX0_y, Cond.code yX0_y cX0_y 2 (some .int), Cond.fieldLink RX0 15 "JammedBodies$Body" "ys" "[I"]
def wsX3_spread_r3 : List Cond := [Cond.static yX4_cross, Cond.code yX4_cross cX4_cross 6 (some .int)]
def wsX3_spread : List Cond := .code yX3_spread cX3_spread 6 (some .int) :: ((wsX3_spread_r1 ++ (wsX3_spread_r2 ++ wsX3_spread_r3)) ++ wsX30 ++ wsX00)
def wsX4_stepX : List Cond := .code yX4_stepX cX4_stepX 1 (some .int) :: ([.fieldLink RX4 203 "JammedBodies" "STEP_X" "[I"])
def wsX4_stepY : List Cond := .code yX4_stepY cX4_stepY 1 (some .int) :: ([.fieldLink RX4 207 "JammedBodies" "STEP_Y" "[I"])
def wsX3_freeSteps_r1 : List Cond := [Cond.fieldLink RX3 22 "JammedBodies$Packing" "ghost" "LJammedBodies$Body;", Cond.fieldLink RX3 29 "JammedBodies$Packing" "width" "I", Cond.fieldLink RX3 32 "JammedBodies$Packing" "height" "I", Cond.methodLink RX3 35 yX3_at, Cond.instanceMethod yX3_at, Cond.selects RX3 yX3_at yX3_at, Cond.initialized RX3, Cond.code yX3_at cX3_at 2 (some (.object "JammedBodies$Body")), Cond.fieldLink RX3 11 "JammedBodies$Packing" "row" "[LJammedBodies$Body;", Cond.fieldLink RX3 18 "JammedBodies$Packing" "nobody" "LJammedBodies$Body;", Cond.methodLink RX3 39 yX0_copyFrom, Cond.instanceMethod yX0_copyFrom, Cond.selects RX0 yX0_copyFrom yX0_copyFrom, Cond.initialized RX0, Cond.code yX0_copyFrom cX0_copyFrom 3 none, Cond.fieldLink RX0 18 "JammedBodies$Body" "corners" "I", Cond.methodLink RX0 26 yX0_x, Cond.instanceMethod yX0_x, Cond.selects RX0 yX0_x yX0_x, Cond.code yX0_x cX0_x 2 (some .int), Cond.fieldLink RX0 9 "JammedBodies$Body" "xs" "[I", Cond.methodLink RX0 30 yX0_y, Cond.instanceMethod yX0_y, Cond.selects RX0 yX0_y yX0_y]
def wsX3_freeSteps_r2 : List Cond := [Cond.code yX0_y cX0_y 2 (some .int), Cond.fieldLink RX0 15 "JammedBodies$Body" "ys" "[I", Cond.methodLink RX0 22 yX0_place, Cond.instanceMethod yX0_place, Cond.selects RX0 yX0_place yX0_place, Cond.code yX0_place cX0_place 4 none, Cond.static yX4_stepX, Cond.initialized RX4, Cond.code yX4_stepX cX4_stepX 1 (some .int), Cond.fieldLink RX4 203 "JammedBodies" "STEP_X" "[I", Cond.static yX4_stepY, Cond.code yX4_stepY cX4_stepY 1 (some .int), Cond.fieldLink RX4 207 "JammedBodies" "STEP_Y" "[I", Cond.methodLink RX3 77 yX0_move, Cond.instanceMethod yX0_move, Cond.selects RX0 yX0_move yX0_move, Cond.code yX0_move cX0_move 4 none, Cond.methodLink RX3 43 yX0_wallsBeyond, Cond.instanceMethod yX0_wallsBeyond, Cond.selects RX0 yX0_wallsBeyond yX0_wallsBeyond, Cond.code yX0_wallsBeyond cX0_wallsBeyond 4 (some .int), Cond.methodLink RX0 33 yX0_left, Cond.instanceMethod yX0_left, Cond.selects RX0 yX0_left yX0_left]
def wsX3_freeSteps_r3 : List Cond := [Cond.code yX0_left cX0_left 3 (some .int), Cond.methodLink RX0 43 Lib.Math.min.name, Cond.static Lib.Math.min.name, Cond.initialized "java/lang/Math", Cond.code Lib.Math.min.name Lib.Math.min.code 2 (some .int), Cond.methodLink RX0 55 yX0_right, Cond.instanceMethod yX0_right, Cond.selects RX0 yX0_right yX0_right, Cond.code yX0_right cX0_right 3 (some .int), Cond.methodLink RX0 49 Lib.Math.max.name, Cond.static Lib.Math.max.name, Cond.code Lib.Math.max.name Lib.Math.max.code 2 (some .int), Cond.methodLink RX0 37 yX0_low, Cond.instanceMethod yX0_low, Cond.selects RX0 yX0_low yX0_low, Cond.code yX0_low cX0_low 3 (some .int), Cond.methodLink RX0 40 yX0_high, Cond.instanceMethod yX0_high, Cond.selects RX0 yX0_high yX0_high, Cond.code yX0_high cX0_high 3 (some .int), Cond.methodLink RX3 81 yX3_overlapped, Cond.instanceMethod yX3_overlapped, Cond.selects RX3 yX3_overlapped yX3_overlapped, Cond.code yX3_overlapped cX3_overlapped 5 (some .int)]
def wsX3_freeSteps_r4 : List Cond := [Cond.fieldLink RX3 25 "JammedBodies$Packing" "size" "I", Cond.methodLink RX3 47 yX0_leastReach, Cond.instanceMethod yX0_leastReach, Cond.selects RX0 yX0_leastReach yX0_leastReach, Cond.code yX0_leastReach cX0_leastReach 4 (some .int), Cond.methodLink RX0 63 yX0_reach, Cond.instanceMethod yX0_reach, Cond.selects RX0 yX0_reach yX0_reach, Cond.code yX0_reach cX0_reach 10 (some .int), Cond.constant RX0 58 (-1000000), Cond.methodLink RX0 52 yX0_following, Cond.instanceMethod yX0_following, Cond.selects RX0 yX0_following yX0_following, Cond.code yX0_following cX0_following 2 (some .int), Cond.static yX4_cross, Cond.code yX4_cross cX4_cross 6 (some .int)]
def wsX3_freeSteps : List Cond := .code yX3_freeSteps cX3_freeSteps 5 (some .int) :: ((wsX3_freeSteps_r1 ++ (wsX3_freeSteps_r2 ++ (wsX3_freeSteps_r3 ++ wsX3_freeSteps_r4))) ++ wsX30 ++ wsX00)
def wsX3_freeDirections_r1 : List Cond := [Cond.methodLink RX3 85 yX3_freeSteps, Cond.instanceMethod yX3_freeSteps, Cond.selects RX3 yX3_freeSteps yX3_freeSteps, Cond.initialized RX3, Cond.code yX3_freeSteps cX3_freeSteps 5 (some .int), Cond.fieldLink RX3 22 "JammedBodies$Packing" "ghost" "LJammedBodies$Body;", Cond.fieldLink RX3 29 "JammedBodies$Packing" "width" "I", Cond.fieldLink RX3 32 "JammedBodies$Packing" "height" "I", Cond.methodLink RX3 35 yX3_at, Cond.instanceMethod yX3_at, Cond.selects RX3 yX3_at yX3_at, Cond.code yX3_at cX3_at 2 (some (.object "JammedBodies$Body")), Cond.fieldLink RX3 11 "JammedBodies$Packing" "row" "[LJammedBodies$Body;", Cond.fieldLink RX3 18 "JammedBodies$Packing" "nobody" "LJammedBodies$Body;", Cond.methodLink RX3 39 yX0_copyFrom, Cond.instanceMethod yX0_copyFrom, Cond.selects RX0 yX0_copyFrom yX0_copyFrom, Cond.initialized RX0, Cond.code yX0_copyFrom cX0_copyFrom 3 none, Cond.fieldLink RX0 18 "JammedBodies$Body" "corners" "I", Cond.methodLink RX0 26 yX0_x, Cond.instanceMethod yX0_x, Cond.selects RX0 yX0_x yX0_x, Cond.code yX0_x cX0_x 2 (some .int)]
def wsX3_freeDirections_r2 : List Cond := [Cond.fieldLink RX0 9 "JammedBodies$Body" "xs" "[I", Cond.methodLink RX0 30 yX0_y, Cond.instanceMethod yX0_y, Cond.selects RX0 yX0_y yX0_y, Cond.code yX0_y cX0_y 2 (some .int), Cond.fieldLink RX0 15 "JammedBodies$Body" "ys" "[I", Cond.methodLink RX0 22 yX0_place, Cond.instanceMethod yX0_place, Cond.selects RX0 yX0_place yX0_place, Cond.code yX0_place cX0_place 4 none, Cond.static yX4_stepX, Cond.initialized RX4, Cond.code yX4_stepX cX4_stepX 1 (some .int), Cond.fieldLink RX4 203 "JammedBodies" "STEP_X" "[I", Cond.static yX4_stepY, Cond.code yX4_stepY cX4_stepY 1 (some .int), Cond.fieldLink RX4 207 "JammedBodies" "STEP_Y" "[I", Cond.methodLink RX3 77 yX0_move, Cond.instanceMethod yX0_move, Cond.selects RX0 yX0_move yX0_move, Cond.code yX0_move cX0_move 4 none, Cond.methodLink RX3 43 yX0_wallsBeyond, Cond.instanceMethod yX0_wallsBeyond, Cond.selects RX0 yX0_wallsBeyond yX0_wallsBeyond]
def wsX3_freeDirections_r3 : List Cond := [Cond.code yX0_wallsBeyond cX0_wallsBeyond 4 (some .int), Cond.methodLink RX0 33 yX0_left, Cond.instanceMethod yX0_left, Cond.selects RX0 yX0_left yX0_left, Cond.code yX0_left cX0_left 3 (some .int), Cond.methodLink RX0 43 Lib.Math.min.name, Cond.static Lib.Math.min.name, Cond.initialized "java/lang/Math", Cond.code Lib.Math.min.name Lib.Math.min.code 2 (some .int), Cond.methodLink RX0 55 yX0_right, Cond.instanceMethod yX0_right, Cond.selects RX0 yX0_right yX0_right, Cond.code yX0_right cX0_right 3 (some .int), Cond.methodLink RX0 49 Lib.Math.max.name, Cond.static Lib.Math.max.name, Cond.code Lib.Math.max.name Lib.Math.max.code 2 (some .int), Cond.methodLink RX0 37 yX0_low, Cond.instanceMethod yX0_low, Cond.selects RX0 yX0_low yX0_low, Cond.code yX0_low cX0_low 3 (some .int), Cond.methodLink RX0 40 yX0_high, Cond.instanceMethod yX0_high, Cond.selects RX0 yX0_high yX0_high, Cond.code yX0_high cX0_high 3 (some .int)]
def wsX3_freeDirections_r4 : List Cond := [Cond.methodLink RX3 81 yX3_overlapped, Cond.instanceMethod yX3_overlapped, Cond.selects RX3 yX3_overlapped yX3_overlapped, Cond.code yX3_overlapped cX3_overlapped 5 (some .int), Cond.fieldLink RX3 25 "JammedBodies$Packing" "size" "I", Cond.methodLink RX3 47 yX0_leastReach, Cond.instanceMethod yX0_leastReach, Cond.selects RX0 yX0_leastReach yX0_leastReach, Cond.code yX0_leastReach cX0_leastReach 4 (some .int), Cond.methodLink RX0 63 yX0_reach, Cond.instanceMethod yX0_reach, Cond.selects RX0 yX0_reach yX0_reach, Cond.code yX0_reach cX0_reach 10 (some .int), Cond.constant RX0 58 (-1000000), Cond.methodLink RX0 52 yX0_following, Cond.instanceMethod yX0_following, Cond.selects RX0 yX0_following yX0_following, Cond.code yX0_following cX0_following 2 (some .int), Cond.static yX4_cross, Cond.code yX4_cross cX4_cross 6 (some .int)]
def wsX3_freeDirections : List Cond := .code yX3_freeDirections cX3_freeDirections 4 (some .int) :: ((wsX3_freeDirections_r1 ++ (wsX3_freeDirections_r2 ++ (wsX3_freeDirections_r3 ++ wsX3_freeDirections_r4))) ++ wsX30 ++ wsX00)
def wsX3_jammed_r1 : List Cond := [Cond.fieldLink RX3 25 "JammedBodies$Packing" "size" "I", Cond.methodLink RX3 85 yX3_freeSteps, Cond.instanceMethod yX3_freeSteps, Cond.selects RX3 yX3_freeSteps yX3_freeSteps, Cond.initialized RX3, Cond.code yX3_freeSteps cX3_freeSteps 5 (some .int), Cond.fieldLink RX3 22 "JammedBodies$Packing" "ghost" "LJammedBodies$Body;", Cond.fieldLink RX3 29 "JammedBodies$Packing" "width" "I", Cond.fieldLink RX3 32 "JammedBodies$Packing" "height" "I", Cond.methodLink RX3 35 yX3_at, Cond.instanceMethod yX3_at, Cond.selects RX3 yX3_at yX3_at, Cond.code yX3_at cX3_at 2 (some (.object "JammedBodies$Body")), Cond.fieldLink RX3 11 "JammedBodies$Packing" "row" "[LJammedBodies$Body;", Cond.fieldLink RX3 18 "JammedBodies$Packing" "nobody" "LJammedBodies$Body;", Cond.methodLink RX3 39 yX0_copyFrom, Cond.instanceMethod yX0_copyFrom, Cond.selects RX0 yX0_copyFrom yX0_copyFrom, Cond.initialized RX0, Cond.code yX0_copyFrom cX0_copyFrom 3 none, Cond.fieldLink RX0 18 "JammedBodies$Body" "corners" "I", Cond.methodLink RX0 26 yX0_x, Cond.instanceMethod yX0_x, Cond.selects RX0 yX0_x yX0_x]
def wsX3_jammed_r2 : List Cond := [Cond.code yX0_x cX0_x 2 (some .int), Cond.fieldLink RX0 9 "JammedBodies$Body" "xs" "[I", Cond.methodLink RX0 30 yX0_y, Cond.instanceMethod yX0_y, Cond.selects RX0 yX0_y yX0_y, Cond.code yX0_y cX0_y 2 (some .int), Cond.fieldLink RX0 15 "JammedBodies$Body" "ys" "[I", Cond.methodLink RX0 22 yX0_place, Cond.instanceMethod yX0_place, Cond.selects RX0 yX0_place yX0_place, Cond.code yX0_place cX0_place 4 none, Cond.static yX4_stepX, Cond.initialized RX4, Cond.code yX4_stepX cX4_stepX 1 (some .int), Cond.fieldLink RX4 203 "JammedBodies" "STEP_X" "[I", Cond.static yX4_stepY, Cond.code yX4_stepY cX4_stepY 1 (some .int), Cond.fieldLink RX4 207 "JammedBodies" "STEP_Y" "[I", Cond.methodLink RX3 77 yX0_move, Cond.instanceMethod yX0_move, Cond.selects RX0 yX0_move yX0_move, Cond.code yX0_move cX0_move 4 none, Cond.methodLink RX3 43 yX0_wallsBeyond, Cond.instanceMethod yX0_wallsBeyond]
def wsX3_jammed_r3 : List Cond := [Cond.selects RX0 yX0_wallsBeyond yX0_wallsBeyond, Cond.code yX0_wallsBeyond cX0_wallsBeyond 4 (some .int), Cond.methodLink RX0 33 yX0_left, Cond.instanceMethod yX0_left, Cond.selects RX0 yX0_left yX0_left, Cond.code yX0_left cX0_left 3 (some .int), Cond.methodLink RX0 43 Lib.Math.min.name, Cond.static Lib.Math.min.name, Cond.initialized "java/lang/Math", Cond.code Lib.Math.min.name Lib.Math.min.code 2 (some .int), Cond.methodLink RX0 55 yX0_right, Cond.instanceMethod yX0_right, Cond.selects RX0 yX0_right yX0_right, Cond.code yX0_right cX0_right 3 (some .int), Cond.methodLink RX0 49 Lib.Math.max.name, Cond.static Lib.Math.max.name, Cond.code Lib.Math.max.name Lib.Math.max.code 2 (some .int), Cond.methodLink RX0 37 yX0_low, Cond.instanceMethod yX0_low, Cond.selects RX0 yX0_low yX0_low, Cond.code yX0_low cX0_low 3 (some .int), Cond.methodLink RX0 40 yX0_high, Cond.instanceMethod yX0_high, Cond.selects RX0 yX0_high yX0_high]
def wsX3_jammed_r4 : List Cond := [Cond.code yX0_high cX0_high 3 (some .int), Cond.methodLink RX3 81 yX3_overlapped, Cond.instanceMethod yX3_overlapped, Cond.selects RX3 yX3_overlapped yX3_overlapped, Cond.code yX3_overlapped cX3_overlapped 5 (some .int), Cond.methodLink RX3 47 yX0_leastReach, Cond.instanceMethod yX0_leastReach, Cond.selects RX0 yX0_leastReach yX0_leastReach, Cond.code yX0_leastReach cX0_leastReach 4 (some .int), Cond.methodLink RX0 63 yX0_reach, Cond.instanceMethod yX0_reach, Cond.selects RX0 yX0_reach yX0_reach, Cond.code yX0_reach cX0_reach 10 (some .int), Cond.constant RX0 58 (-1000000), Cond.methodLink RX0 52 yX0_following, Cond.instanceMethod yX0_following, Cond.selects RX0 yX0_following yX0_following, Cond.code yX0_following cX0_following 2 (some .int), Cond.static yX4_cross, Cond.code yX4_cross cX4_cross 6 (some .int)]
def wsX3_jammed : List Cond := .code yX3_jammed cX3_jammed 5 (some .int) :: ((wsX3_jammed_r1 ++ (wsX3_jammed_r2 ++ (wsX3_jammed_r3 ++ wsX3_jammed_r4))) ++ wsX30 ++ wsX00)
def wsX3_shift_r1 : List Cond := [Cond.methodLink RX3 35 yX3_at, Cond.instanceMethod yX3_at, Cond.selects RX3 yX3_at yX3_at, Cond.initialized RX3, Cond.code yX3_at cX3_at 2 (some (.object "JammedBodies$Body")), Cond.fieldLink RX3 11 "JammedBodies$Packing" "row" "[LJammedBodies$Body;", Cond.fieldLink RX3 18 "JammedBodies$Packing" "nobody" "LJammedBodies$Body;", Cond.static yX4_stepX, Cond.initialized RX4, Cond.code yX4_stepX cX4_stepX 1 (some .int), Cond.fieldLink RX4 203 "JammedBodies" "STEP_X" "[I", Cond.static yX4_stepY, Cond.code yX4_stepY cX4_stepY 1 (some .int), Cond.fieldLink RX4 207 "JammedBodies" "STEP_Y" "[I", Cond.methodLink RX3 77 yX0_move, Cond.instanceMethod yX0_move, Cond.selects RX0 yX0_move yX0_move, Cond.initialized RX0, Cond.code yX0_move cX0_move 4 none, Cond.fieldLink RX0 18 "JammedBodies$Body" "corners" "I", Cond.methodLink RX0 26 yX0_x, Cond.instanceMethod yX0_x, Cond.selects RX0 yX0_x yX0_x, Cond.code yX0_x cX0_x 2 (some .int)]
def wsX3_shift_r2 : List Cond := [Cond.fieldLink RX0 9 "JammedBodies$Body" "xs" "[I", Cond.methodLink RX0 30 yX0_y, Cond.instanceMethod yX0_y, Cond.selects RX0 yX0_y yX0_y, Cond.code yX0_y cX0_y 2 (some .int), Cond.fieldLink RX0 15 "JammedBodies$Body" "ys" "[I", Cond.methodLink RX0 22 yX0_place, Cond.instanceMethod yX0_place, Cond.selects RX0 yX0_place yX0_place, Cond.code yX0_place cX0_place 4 none]
def wsX3_shift : List Cond := .code yX3_shift cX3_shift 4 none :: ((wsX3_shift_r1 ++ wsX3_shift_r2) ++ wsX30 ++ wsX00)
def wsX3_shifted_r1 : List Cond := [Cond.fieldLink RX3 22 "JammedBodies$Packing" "ghost" "LJammedBodies$Body;", Cond.methodLink RX3 35 yX3_at, Cond.instanceMethod yX3_at, Cond.selects RX3 yX3_at yX3_at, Cond.initialized RX3, Cond.code yX3_at cX3_at 2 (some (.object "JammedBodies$Body")), Cond.fieldLink RX3 11 "JammedBodies$Packing" "row" "[LJammedBodies$Body;", Cond.fieldLink RX3 18 "JammedBodies$Packing" "nobody" "LJammedBodies$Body;", Cond.methodLink RX3 39 yX0_copyFrom, Cond.instanceMethod yX0_copyFrom, Cond.selects RX0 yX0_copyFrom yX0_copyFrom, Cond.initialized RX0, Cond.code yX0_copyFrom cX0_copyFrom 3 none, Cond.fieldLink RX0 18 "JammedBodies$Body" "corners" "I", Cond.methodLink RX0 26 yX0_x, Cond.instanceMethod yX0_x, Cond.selects RX0 yX0_x yX0_x, Cond.code yX0_x cX0_x 2 (some .int), Cond.fieldLink RX0 9 "JammedBodies$Body" "xs" "[I", Cond.methodLink RX0 30 yX0_y, Cond.instanceMethod yX0_y, Cond.selects RX0 yX0_y yX0_y, Cond.code yX0_y cX0_y 2 (some .int), Cond.fieldLink RX0 15 "JammedBodies$Body" "ys" "[I"]
def wsX3_shifted_r2 : List Cond := [Cond.methodLink RX0 22 yX0_place, Cond.instanceMethod yX0_place, Cond.selects RX0 yX0_place yX0_place, Cond.code yX0_place cX0_place 4 none, Cond.static yX4_stepX, Cond.initialized RX4, Cond.code yX4_stepX cX4_stepX 1 (some .int), Cond.fieldLink RX4 203 "JammedBodies" "STEP_X" "[I", Cond.static yX4_stepY, Cond.code yX4_stepY cX4_stepY 1 (some .int), Cond.fieldLink RX4 207 "JammedBodies" "STEP_Y" "[I", Cond.methodLink RX3 77 yX0_move, Cond.instanceMethod yX0_move, Cond.selects RX0 yX0_move yX0_move, Cond.code yX0_move cX0_move 4 none]
def wsX3_shifted : List Cond := .code yX3_shifted cX3_shifted 4 (some (.object "JammedBodies$Body")) :: ((wsX3_shifted_r1 ++ wsX3_shifted_r2) ++ wsX30 ++ wsX00)
def wsX3_canTurn_r1 : List Cond := [Cond.fieldLink RX3 22 "JammedBodies$Packing" "ghost" "LJammedBodies$Body;", Cond.fieldLink RX3 29 "JammedBodies$Packing" "width" "I", Cond.fieldLink RX3 32 "JammedBodies$Packing" "height" "I", Cond.methodLink RX3 35 yX3_at, Cond.instanceMethod yX3_at, Cond.selects RX3 yX3_at yX3_at, Cond.initialized RX3, Cond.code yX3_at cX3_at 2 (some (.object "JammedBodies$Body")), Cond.fieldLink RX3 11 "JammedBodies$Packing" "row" "[LJammedBodies$Body;", Cond.fieldLink RX3 18 "JammedBodies$Packing" "nobody" "LJammedBodies$Body;", Cond.methodLink RX3 39 yX0_copyFrom, Cond.instanceMethod yX0_copyFrom, Cond.selects RX0 yX0_copyFrom yX0_copyFrom, Cond.initialized RX0, Cond.code yX0_copyFrom cX0_copyFrom 3 none, Cond.fieldLink RX0 18 "JammedBodies$Body" "corners" "I", Cond.methodLink RX0 26 yX0_x, Cond.instanceMethod yX0_x, Cond.selects RX0 yX0_x yX0_x, Cond.code yX0_x cX0_x 2 (some .int), Cond.fieldLink RX0 9 "JammedBodies$Body" "xs" "[I", Cond.methodLink RX0 30 yX0_y, Cond.instanceMethod yX0_y, Cond.selects RX0 yX0_y yX0_y]
def wsX3_canTurn_r2 : List Cond := [Cond.code yX0_y cX0_y 2 (some .int), Cond.fieldLink RX0 15 "JammedBodies$Body" "ys" "[I", Cond.methodLink RX0 22 yX0_place, Cond.instanceMethod yX0_place, Cond.selects RX0 yX0_place yX0_place, Cond.code yX0_place cX0_place 4 none, Cond.methodLink RX3 89 yX0_turnLeft, Cond.instanceMethod yX0_turnLeft, Cond.selects RX0 yX0_turnLeft yX0_turnLeft, Cond.code yX0_turnLeft cX0_turnLeft 5 none, Cond.methodLink RX0 33 yX0_left, Cond.instanceMethod yX0_left, Cond.selects RX0 yX0_left yX0_left, Cond.code yX0_left cX0_left 3 (some .int), Cond.methodLink RX0 43 Lib.Math.min.name, Cond.static Lib.Math.min.name, Cond.initialized "java/lang/Math", Cond.code Lib.Math.min.name Lib.Math.min.code 2 (some .int), Cond.methodLink RX0 37 yX0_low, Cond.instanceMethod yX0_low, Cond.selects RX0 yX0_low yX0_low, Cond.code yX0_low cX0_low 3 (some .int), Cond.methodLink RX0 40 yX0_high, Cond.instanceMethod yX0_high]
def wsX3_canTurn_r3 : List Cond := [Cond.selects RX0 yX0_high yX0_high, Cond.code yX0_high cX0_high 3 (some .int), Cond.methodLink RX0 49 Lib.Math.max.name, Cond.static Lib.Math.max.name, Cond.code Lib.Math.max.name Lib.Math.max.code 2 (some .int), Cond.methodLink RX3 43 yX0_wallsBeyond, Cond.instanceMethod yX0_wallsBeyond, Cond.selects RX0 yX0_wallsBeyond yX0_wallsBeyond, Cond.code yX0_wallsBeyond cX0_wallsBeyond 4 (some .int), Cond.methodLink RX0 55 yX0_right, Cond.instanceMethod yX0_right, Cond.selects RX0 yX0_right yX0_right, Cond.code yX0_right cX0_right 3 (some .int), Cond.methodLink RX3 81 yX3_overlapped, Cond.instanceMethod yX3_overlapped, Cond.selects RX3 yX3_overlapped yX3_overlapped, Cond.code yX3_overlapped cX3_overlapped 5 (some .int), Cond.fieldLink RX3 25 "JammedBodies$Packing" "size" "I", Cond.methodLink RX3 47 yX0_leastReach, Cond.instanceMethod yX0_leastReach, Cond.selects RX0 yX0_leastReach yX0_leastReach, Cond.code yX0_leastReach cX0_leastReach 4 (some .int), Cond.methodLink RX0 63 yX0_reach, Cond.instanceMethod yX0_reach]
def wsX3_canTurn_r4 : List Cond := [Cond.selects RX0 yX0_reach yX0_reach, Cond.code yX0_reach cX0_reach 10 (some .int), Cond.constant RX0 58 (-1000000), Cond.methodLink RX0 52 yX0_following, Cond.instanceMethod yX0_following, Cond.selects RX0 yX0_following yX0_following, Cond.code yX0_following cX0_following 2 (some .int), Cond.static yX4_cross, Cond.initialized RX4, Cond.code yX4_cross cX4_cross 6 (some .int)]
def wsX3_canTurn : List Cond := .code yX3_canTurn cX3_canTurn 2 (some .boolean) :: ((wsX3_canTurn_r1 ++ (wsX3_canTurn_r2 ++ (wsX3_canTurn_r3 ++ wsX3_canTurn_r4))) ++ wsX30 ++ wsX00)
def wsX3_settleAll_r1 : List Cond := [Cond.fieldLink RX3 25 "JammedBodies$Packing" "size" "I", Cond.methodLink RX3 85 yX3_freeSteps, Cond.instanceMethod yX3_freeSteps, Cond.selects RX3 yX3_freeSteps yX3_freeSteps, Cond.initialized RX3, Cond.code yX3_freeSteps cX3_freeSteps 5 (some .int), Cond.fieldLink RX3 22 "JammedBodies$Packing" "ghost" "LJammedBodies$Body;", Cond.fieldLink RX3 29 "JammedBodies$Packing" "width" "I", Cond.fieldLink RX3 32 "JammedBodies$Packing" "height" "I", Cond.methodLink RX3 35 yX3_at, Cond.instanceMethod yX3_at, Cond.selects RX3 yX3_at yX3_at, Cond.code yX3_at cX3_at 2 (some (.object "JammedBodies$Body")), Cond.fieldLink RX3 11 "JammedBodies$Packing" "row" "[LJammedBodies$Body;", Cond.fieldLink RX3 18 "JammedBodies$Packing" "nobody" "LJammedBodies$Body;", Cond.methodLink RX3 39 yX0_copyFrom, Cond.instanceMethod yX0_copyFrom, Cond.selects RX0 yX0_copyFrom yX0_copyFrom, Cond.initialized RX0, Cond.code yX0_copyFrom cX0_copyFrom 3 none, Cond.fieldLink RX0 18 "JammedBodies$Body" "corners" "I", Cond.methodLink RX0 26 yX0_x, Cond.instanceMethod yX0_x, Cond.selects RX0 yX0_x yX0_x]
def wsX3_settleAll_r2 : List Cond := [Cond.code yX0_x cX0_x 2 (some .int), Cond.fieldLink RX0 9 "JammedBodies$Body" "xs" "[I", Cond.methodLink RX0 30 yX0_y, Cond.instanceMethod yX0_y, Cond.selects RX0 yX0_y yX0_y, Cond.code yX0_y cX0_y 2 (some .int), Cond.fieldLink RX0 15 "JammedBodies$Body" "ys" "[I", Cond.methodLink RX0 22 yX0_place, Cond.instanceMethod yX0_place, Cond.selects RX0 yX0_place yX0_place, Cond.code yX0_place cX0_place 4 none, Cond.static yX4_stepX, Cond.initialized RX4, Cond.code yX4_stepX cX4_stepX 1 (some .int), Cond.fieldLink RX4 203 "JammedBodies" "STEP_X" "[I", Cond.static yX4_stepY, Cond.code yX4_stepY cX4_stepY 1 (some .int), Cond.fieldLink RX4 207 "JammedBodies" "STEP_Y" "[I", Cond.methodLink RX3 77 yX0_move, Cond.instanceMethod yX0_move, Cond.selects RX0 yX0_move yX0_move, Cond.code yX0_move cX0_move 4 none, Cond.methodLink RX3 43 yX0_wallsBeyond, Cond.instanceMethod yX0_wallsBeyond]
def wsX3_settleAll_r3 : List Cond := [Cond.selects RX0 yX0_wallsBeyond yX0_wallsBeyond, Cond.code yX0_wallsBeyond cX0_wallsBeyond 4 (some .int), Cond.methodLink RX0 33 yX0_left, Cond.instanceMethod yX0_left, Cond.selects RX0 yX0_left yX0_left, Cond.code yX0_left cX0_left 3 (some .int), Cond.methodLink RX0 43 Lib.Math.min.name, Cond.static Lib.Math.min.name, Cond.initialized "java/lang/Math", Cond.code Lib.Math.min.name Lib.Math.min.code 2 (some .int), Cond.methodLink RX0 55 yX0_right, Cond.instanceMethod yX0_right, Cond.selects RX0 yX0_right yX0_right, Cond.code yX0_right cX0_right 3 (some .int), Cond.methodLink RX0 49 Lib.Math.max.name, Cond.static Lib.Math.max.name, Cond.code Lib.Math.max.name Lib.Math.max.code 2 (some .int), Cond.methodLink RX0 37 yX0_low, Cond.instanceMethod yX0_low, Cond.selects RX0 yX0_low yX0_low, Cond.code yX0_low cX0_low 3 (some .int), Cond.methodLink RX0 40 yX0_high, Cond.instanceMethod yX0_high, Cond.selects RX0 yX0_high yX0_high]
def wsX3_settleAll_r4 : List Cond := [Cond.code yX0_high cX0_high 3 (some .int), Cond.methodLink RX3 81 yX3_overlapped, Cond.instanceMethod yX3_overlapped, Cond.selects RX3 yX3_overlapped yX3_overlapped, Cond.code yX3_overlapped cX3_overlapped 5 (some .int), Cond.methodLink RX3 47 yX0_leastReach, Cond.instanceMethod yX0_leastReach, Cond.selects RX0 yX0_leastReach yX0_leastReach, Cond.code yX0_leastReach cX0_leastReach 4 (some .int), Cond.methodLink RX0 63 yX0_reach, Cond.instanceMethod yX0_reach, Cond.selects RX0 yX0_reach yX0_reach, Cond.code yX0_reach cX0_reach 10 (some .int), Cond.constant RX0 58 (-1000000), Cond.methodLink RX0 52 yX0_following, Cond.instanceMethod yX0_following, Cond.selects RX0 yX0_following yX0_following, Cond.code yX0_following cX0_following 2 (some .int), Cond.static yX4_cross, Cond.code yX4_cross cX4_cross 6 (some .int), Cond.methodLink RX3 92 yX3_shift, Cond.instanceMethod yX3_shift, Cond.selects RX3 yX3_shift yX3_shift, Cond.code yX3_shift cX3_shift 4 none]
def wsX3_settleAll : List Cond := .code yX3_settleAll cX3_settleAll 7 (some .int) :: ((wsX3_settleAll_r1 ++ (wsX3_settleAll_r2 ++ (wsX3_settleAll_r3 ++ wsX3_settleAll_r4))) ++ wsX30 ++ wsX00)
def wsX3_doubleArea_r1 : List Cond := [Cond.fieldLink RX3 25 "JammedBodies$Packing" "size" "I", Cond.methodLink RX3 35 yX3_at, Cond.instanceMethod yX3_at, Cond.selects RX3 yX3_at yX3_at, Cond.initialized RX3, Cond.code yX3_at cX3_at 2 (some (.object "JammedBodies$Body")), Cond.fieldLink RX3 11 "JammedBodies$Packing" "row" "[LJammedBodies$Body;", Cond.fieldLink RX3 18 "JammedBodies$Packing" "nobody" "LJammedBodies$Body;", Cond.methodLink RX3 96 yX0_doubleArea, Cond.instanceMethod yX0_doubleArea, Cond.selects RX0 yX0_doubleArea yX0_doubleArea, Cond.initialized RX0, Cond.code yX0_doubleArea cX0_doubleArea 4 (some .int), Cond.fieldLink RX0 18 "JammedBodies$Body" "corners" "I", Cond.methodLink RX0 52 yX0_following, Cond.instanceMethod yX0_following, Cond.selects RX0 yX0_following yX0_following, Cond.code yX0_following cX0_following 2 (some .int), Cond.methodLink RX0 26 yX0_x, Cond.instanceMethod yX0_x, Cond.selects RX0 yX0_x yX0_x, Cond.code yX0_x cX0_x 2 (some .int), Cond.fieldLink RX0 9 "JammedBodies$Body" "xs" "[I", Cond.methodLink RX0 30 yX0_y]
def wsX3_doubleArea_r2 : List Cond := [Cond.instanceMethod yX0_y, Cond.selects RX0 yX0_y yX0_y, Cond.code yX0_y cX0_y 2 (some .int), Cond.fieldLink RX0 15 "JammedBodies$Body" "ys" "[I"]
def wsX3_doubleArea : List Cond := .code yX3_doubleArea cX3_doubleArea 3 (some .int) :: ((wsX3_doubleArea_r1 ++ wsX3_doubleArea_r2) ++ wsX30 ++ wsX00)
def wsX3_allCorners : List Cond := .code yX3_allCorners cX3_allCorners 3 (some .int) :: ([.fieldLink RX3 25 "JammedBodies$Packing" "size" "I", .fieldLink RX3 100 "JammedBodies$Body" "corners" "I", .methodLink RX3 35 yX3_at, .instanceMethod yX3_at, .selects RX3 yX3_at yX3_at, .initialized RX3, .code yX3_at cX3_at 2 (some (.object "JammedBodies$Body")), .fieldLink RX3 11 "JammedBodies$Packing" "row" "[LJammedBodies$Body;", .fieldLink RX3 18 "JammedBodies$Packing" "nobody" "LJammedBodies$Body;"] ++ wsX30 ++ wsX00)
def wsX4_init_r1 : List Cond := [Cond.methodLink RX4 1 objectInit, Cond.instanceMethod objectInit, Cond.code objectInit ⟨#[0xb1]⟩ 1 none, Cond.classLink RX4 7 RX3, Cond.instantiable RX3 6, Cond.initialized RX3, Cond.fieldLink RX4 10 "JammedBodies" "packing" "LJammedBodies$Packing;", Cond.fieldLink RX4 16 "JammedBodies" "trial" "LJammedBodies$Packing;", Cond.classLink RX4 19 RX2, Cond.instantiable RX2 4, Cond.initialized RX2, Cond.fieldLink RX4 22 "JammedBodies" "history" "LJammedBodies$History;", Cond.classLink RX4 26 RX1, Cond.instantiable RX1 7, Cond.initialized RX1, Cond.fieldLink RX4 29 "JammedBodies" "text" "LJammedBodies$BodyText;", Cond.methodLink RX4 9 yX3_init, Cond.instanceMethod yX3_init, Cond.code yX3_init cX3_init 2 none, Cond.methodLink RX3 3 objectInit, Cond.classLink RX3 9 RX0, Cond.fieldLink RX3 11 "JammedBodies$Packing" "row" "[LJammedBodies$Body;", Cond.instantiable RX0 3, Cond.initialized RX0]
def wsX4_init_r2 : List Cond := [Cond.fieldLink RX3 18 "JammedBodies$Packing" "nobody" "LJammedBodies$Body;", Cond.fieldLink RX3 22 "JammedBodies$Packing" "ghost" "LJammedBodies$Body;", Cond.fieldLink RX3 25 "JammedBodies$Packing" "size" "I", Cond.fieldLink RX3 29 "JammedBodies$Packing" "width" "I", Cond.fieldLink RX3 32 "JammedBodies$Packing" "height" "I", Cond.methodLink RX3 17 yX0_init, Cond.instanceMethod yX0_init, Cond.code yX0_init cX0_init 1 none, Cond.methodLink RX0 3 objectInit, Cond.arrayClass .int, Cond.fieldLink RX0 9 "JammedBodies$Body" "xs" "[I", Cond.fieldLink RX0 15 "JammedBodies$Body" "ys" "[I", Cond.fieldLink RX0 18 "JammedBodies$Body" "corners" "I", Cond.methodLink RX4 21 yX2_init, Cond.instanceMethod yX2_init, Cond.code yX2_init cX2_init 2 none, Cond.methodLink RX2 3 objectInit, Cond.classLink RX2 9 RX3, Cond.fieldLink RX2 11 "JammedBodies$History" "ring" "[LJammedBodies$Packing;", Cond.fieldLink RX2 18 "JammedBodies$History" "none" "LJammedBodies$Packing;", Cond.fieldLink RX2 22 "JammedBodies$History" "oldest" "I", Cond.fieldLink RX2 26 "JammedBodies$History" "size" "I", Cond.methodLink RX2 17 yX3_init, Cond.methodLink RX4 28 yX1_init]
def wsX4_init_r3 : List Cond := [Cond.instanceMethod yX1_init, Cond.code yX1_init cX1_init 1 none, Cond.methodLink RX1 3 objectInit, Cond.arrayClass .char, Cond.fieldLink RX1 9 "JammedBodies$BodyText" "signs" "[C", Cond.classLink RX1 15 RX0, Cond.fieldLink RX1 18 "JammedBodies$BodyText" "told" "LJammedBodies$Body;", Cond.fieldLink RX1 22 "JammedBodies$BodyText" "cursor" "I", Cond.fieldLink RX1 26 "JammedBodies$BodyText" "length" "I", Cond.fieldLink RX1 29 "JammedBodies$BodyText" "place" "I", Cond.fieldLink RX1 32 "JammedBodies$BodyText" "reason" "I", Cond.fieldLink RX1 35 "JammedBodies$BodyText" "cause" "I", Cond.methodLink RX1 17 yX0_init]
def wsX4_init : List Cond := .code yX4_init cX4_init 1 none :: ((wsX4_init_r1 ++ (wsX4_init_r2 ++ wsX4_init_r3)) ++ wsX30 ++ wsX40 ++ wsX20 ++ wsX10 ++ wsX00)
def wsX4_isSize : List Cond := .code yX4_isSize cX4_isSize 1 (some .boolean) :: ([])
def wsX4_box_r1 : List Cond := [Cond.constant RX4 37 (-1000001), Cond.fieldLink RX4 10 "JammedBodies" "packing" "LJammedBodies$Packing;", Cond.constant RX4 42 (-1000002), Cond.fieldLink RX4 22 "JammedBodies" "history" "LJammedBodies$History;", Cond.fieldLink RX4 47 "JammedBodies$Packing" "width" "I", Cond.fieldLink RX4 51 "JammedBodies$Packing" "height" "I", Cond.methodLink RX4 33 yX4_isSize, Cond.static yX4_isSize, Cond.initialized RX4, Cond.code yX4_isSize cX4_isSize 1 (some .boolean), Cond.methodLink RX4 38 yX3_fitsInto, Cond.instanceMethod yX3_fitsInto, Cond.selects RX3 yX3_fitsInto yX3_fitsInto, Cond.initialized RX3, Cond.code yX3_fitsInto cX3_fitsInto 4 (some .boolean), Cond.fieldLink RX3 25 "JammedBodies$Packing" "size" "I", Cond.methodLink RX3 35 yX3_at, Cond.instanceMethod yX3_at, Cond.selects RX3 yX3_at yX3_at, Cond.code yX3_at cX3_at 2 (some (.object "JammedBodies$Body")), Cond.fieldLink RX3 11 "JammedBodies$Packing" "row" "[LJammedBodies$Body;", Cond.fieldLink RX3 18 "JammedBodies$Packing" "nobody" "LJammedBodies$Body;", Cond.methodLink RX3 43 yX0_wallsBeyond, Cond.instanceMethod yX0_wallsBeyond]
def wsX4_box_r2 : List Cond := [Cond.selects RX0 yX0_wallsBeyond yX0_wallsBeyond, Cond.initialized RX0, Cond.code yX0_wallsBeyond cX0_wallsBeyond 4 (some .int), Cond.methodLink RX0 33 yX0_left, Cond.instanceMethod yX0_left, Cond.selects RX0 yX0_left yX0_left, Cond.code yX0_left cX0_left 3 (some .int), Cond.fieldLink RX0 18 "JammedBodies$Body" "corners" "I", Cond.methodLink RX0 43 Lib.Math.min.name, Cond.static Lib.Math.min.name, Cond.initialized "java/lang/Math", Cond.code Lib.Math.min.name Lib.Math.min.code 2 (some .int), Cond.methodLink RX0 26 yX0_x, Cond.instanceMethod yX0_x, Cond.selects RX0 yX0_x yX0_x, Cond.code yX0_x cX0_x 2 (some .int), Cond.fieldLink RX0 9 "JammedBodies$Body" "xs" "[I", Cond.methodLink RX0 55 yX0_right, Cond.instanceMethod yX0_right, Cond.selects RX0 yX0_right yX0_right, Cond.code yX0_right cX0_right 3 (some .int), Cond.methodLink RX0 49 Lib.Math.max.name, Cond.static Lib.Math.max.name, Cond.code Lib.Math.max.name Lib.Math.max.code 2 (some .int)]
def wsX4_box_r3 : List Cond := [Cond.methodLink RX0 37 yX0_low, Cond.instanceMethod yX0_low, Cond.selects RX0 yX0_low yX0_low, Cond.code yX0_low cX0_low 3 (some .int), Cond.methodLink RX0 30 yX0_y, Cond.instanceMethod yX0_y, Cond.selects RX0 yX0_y yX0_y, Cond.code yX0_y cX0_y 2 (some .int), Cond.fieldLink RX0 15 "JammedBodies$Body" "ys" "[I", Cond.methodLink RX0 40 yX0_high, Cond.instanceMethod yX0_high, Cond.selects RX0 yX0_high yX0_high, Cond.code yX0_high cX0_high 3 (some .int), Cond.methodLink RX4 43 yX2_keep, Cond.instanceMethod yX2_keep, Cond.selects RX2 yX2_keep yX2_keep, Cond.initialized RX2, Cond.code yX2_keep cX2_keep 2 none, Cond.fieldLink RX2 26 "JammedBodies$History" "size" "I", Cond.fieldLink RX2 22 "JammedBodies$History" "oldest" "I", Cond.methodLink RX2 29 yX2_at, Cond.instanceMethod yX2_at, Cond.selects RX2 yX2_at yX2_at, Cond.code yX2_at cX2_at 3 (some (.object "JammedBodies$Packing"))]
def wsX4_box_r4 : List Cond := [Cond.fieldLink RX2 11 "JammedBodies$History" "ring" "[LJammedBodies$Packing;", Cond.fieldLink RX2 18 "JammedBodies$History" "none" "LJammedBodies$Packing;", Cond.methodLink RX2 33 yX3_copyFrom, Cond.instanceMethod yX3_copyFrom, Cond.selects RX3 yX3_copyFrom yX3_copyFrom, Cond.code yX3_copyFrom cX3_copyFrom 3 none, Cond.fieldLink RX3 29 "JammedBodies$Packing" "width" "I", Cond.fieldLink RX3 32 "JammedBodies$Packing" "height" "I", Cond.methodLink RX3 39 yX0_copyFrom, Cond.instanceMethod yX0_copyFrom, Cond.selects RX0 yX0_copyFrom yX0_copyFrom, Cond.code yX0_copyFrom cX0_copyFrom 3 none, Cond.methodLink RX0 22 yX0_place, Cond.instanceMethod yX0_place, Cond.selects RX0 yX0_place yX0_place, Cond.code yX0_place cX0_place 4 none]
def wsX4_box : List Cond := .code yX4_box cX4_box 4 (some .int) :: ((wsX4_box_r1 ++ (wsX4_box_r2 ++ (wsX4_box_r3 ++ wsX4_box_r4))) ++ wsX40 ++ wsX30 ++ wsX00 ++ wsX20)
def wsX4_put_r1 : List Cond := [Cond.fieldLink RX4 29 "JammedBodies" "text" "LJammedBodies$BodyText;", Cond.fieldLink RX4 10 "JammedBodies" "packing" "LJammedBodies$Packing;", Cond.fieldLink RX4 57 "JammedBodies$BodyText" "reason" "I", Cond.constant RX4 42 (-1000002), Cond.fieldLink RX4 60 "JammedBodies$Packing" "size" "I", Cond.constant RX4 63 (-1000003), Cond.fieldLink RX4 22 "JammedBodies" "history" "LJammedBodies$History;", Cond.fieldLink RX4 64 "JammedBodies$BodyText" "told" "LJammedBodies$Body;", Cond.methodLink RX4 54 yX1_examine, Cond.instanceMethod yX1_examine, Cond.selects RX1 yX1_examine yX1_examine, Cond.initialized RX1, Cond.code yX1_examine cX1_examine 5 none, Cond.fieldLink RX1 22 "JammedBodies$BodyText" "cursor" "I", Cond.fieldLink RX1 18 "JammedBodies$BodyText" "told" "LJammedBodies$Body;", Cond.fieldLink RX1 46 "JammedBodies$Packing" "width" "I", Cond.fieldLink RX1 51 "JammedBodies$Packing" "height" "I", Cond.methodLink RX1 38 yX1_find, Cond.instanceMethod yX1_find, Cond.selects RX1 yX1_find yX1_find, Cond.code yX1_find cX1_find 4 none, Cond.fieldLink RX1 29 "JammedBodies$BodyText" "place" "I", Cond.fieldLink RX1 32 "JammedBodies$BodyText" "reason" "I", Cond.fieldLink RX1 35 "JammedBodies$BodyText" "cause" "I"]
def wsX4_put_r2 : List Cond := [Cond.methodLink RX1 42 yX1_readForm, Cond.instanceMethod yX1_readForm, Cond.selects RX1 yX1_readForm yX1_readForm, Cond.code yX1_readForm cX1_readForm 4 (some .boolean), Cond.fieldLink RX1 70 "JammedBodies$Body" "corners" "I", Cond.fieldLink RX1 26 "JammedBodies$BodyText" "length" "I", Cond.methodLink RX1 73 yX1_takes, Cond.instanceMethod yX1_takes, Cond.selects RX1 yX1_takes yX1_takes, Cond.code yX1_takes cX1_takes 3 (some .boolean), Cond.methodLink RX1 84 yX1_sign, Cond.instanceMethod yX1_sign, Cond.selects RX1 yX1_sign yX1_sign, Cond.code yX1_sign cX1_sign 1 (some .char), Cond.fieldLink RX1 9 "JammedBodies$BodyText" "signs" "[C", Cond.methodLink RX1 77 yX1_takeNumber, Cond.instanceMethod yX1_takeNumber, Cond.selects RX1 yX1_takeNumber yX1_takeNumber, Cond.code yX1_takeNumber cX1_takeNumber 3 (some .int), Cond.methodLink RX1 88 yX1_takeDigit, Cond.instanceMethod yX1_takeDigit, Cond.selects RX1 yX1_takeDigit yX1_takeDigit, Cond.code yX1_takeDigit cX1_takeDigit 2 (some .int), Cond.methodLink RX1 80 yX0_addCorner]
def wsX4_put_r3 : List Cond := [Cond.instanceMethod yX0_addCorner, Cond.selects RX0 yX0_addCorner yX0_addCorner, Cond.initialized RX0, Cond.code yX0_addCorner cX0_addCorner 3 none, Cond.fieldLink RX0 18 "JammedBodies$Body" "corners" "I", Cond.methodLink RX0 22 yX0_place, Cond.instanceMethod yX0_place, Cond.selects RX0 yX0_place yX0_place, Cond.code yX0_place cX0_place 4 none, Cond.fieldLink RX0 9 "JammedBodies$Body" "xs" "[I", Cond.fieldLink RX0 15 "JammedBodies$Body" "ys" "[I", Cond.methodLink RX1 54 yX0_cornerOutside, Cond.instanceMethod yX0_cornerOutside, Cond.selects RX0 yX0_cornerOutside yX0_cornerOutside, Cond.code yX0_cornerOutside cX0_cornerOutside 4 (some .int), Cond.methodLink RX0 26 yX0_x, Cond.instanceMethod yX0_x, Cond.selects RX0 yX0_x yX0_x, Cond.code yX0_x cX0_x 2 (some .int), Cond.methodLink RX0 30 yX0_y, Cond.instanceMethod yX0_y, Cond.selects RX0 yX0_y yX0_y, Cond.code yX0_y cX0_y 2 (some .int), Cond.methodLink RX1 58 yX0_causeOfShape]
def wsX4_put_r4 : List Cond := [Cond.instanceMethod yX0_causeOfShape, Cond.selects RX0 yX0_causeOfShape yX0_causeOfShape, Cond.code yX0_causeOfShape cX0_causeOfShape 4 (some .int), Cond.methodLink RX0 52 yX0_following, Cond.instanceMethod yX0_following, Cond.selects RX0 yX0_following yX0_following, Cond.code yX0_following cX0_following 2 (some .int), Cond.static yX4_cross, Cond.initialized RX4, Cond.code yX4_cross cX4_cross 6 (some .int), Cond.methodLink RX0 67 yX0_timesRound, Cond.instanceMethod yX0_timesRound, Cond.selects RX0 yX0_timesRound yX0_timesRound, Cond.code yX0_timesRound cX0_timesRound 3 (some .int), Cond.methodLink RX0 70 yX0_pointsUp, Cond.instanceMethod yX0_pointsUp, Cond.selects RX0 yX0_pointsUp yX0_pointsUp, Cond.code yX0_pointsUp cX0_pointsUp 3 (some .boolean), Cond.methodLink RX1 62 yX3_overlapped, Cond.instanceMethod yX3_overlapped, Cond.selects RX3 yX3_overlapped yX3_overlapped, Cond.initialized RX3, Cond.code yX3_overlapped cX3_overlapped 5 (some .int), Cond.fieldLink RX3 25 "JammedBodies$Packing" "size" "I"]
def wsX4_put_r5 : List Cond := [Cond.methodLink RX3 35 yX3_at, Cond.instanceMethod yX3_at, Cond.selects RX3 yX3_at yX3_at, Cond.code yX3_at cX3_at 2 (some (.object "JammedBodies$Body")), Cond.fieldLink RX3 11 "JammedBodies$Packing" "row" "[LJammedBodies$Body;", Cond.fieldLink RX3 18 "JammedBodies$Packing" "nobody" "LJammedBodies$Body;", Cond.methodLink RX3 47 yX0_leastReach, Cond.instanceMethod yX0_leastReach, Cond.selects RX0 yX0_leastReach yX0_leastReach, Cond.code yX0_leastReach cX0_leastReach 4 (some .int), Cond.methodLink RX0 43 Lib.Math.min.name, Cond.static Lib.Math.min.name, Cond.initialized "java/lang/Math", Cond.code Lib.Math.min.name Lib.Math.min.code 2 (some .int), Cond.methodLink RX0 63 yX0_reach, Cond.instanceMethod yX0_reach, Cond.selects RX0 yX0_reach yX0_reach, Cond.code yX0_reach cX0_reach 10 (some .int), Cond.constant RX0 58 (-1000000), Cond.methodLink RX0 49 Lib.Math.max.name, Cond.static Lib.Math.max.name, Cond.code Lib.Math.max.name Lib.Math.max.code 2 (some .int), Cond.static yX4_lowest, Cond.code yX4_lowest cX4_lowest 2 (some .int)]
def wsX4_put_r6 : List Cond := [Cond.methodLink RX4 43 yX2_keep, Cond.instanceMethod yX2_keep, Cond.selects RX2 yX2_keep yX2_keep, Cond.initialized RX2, Cond.code yX2_keep cX2_keep 2 none, Cond.fieldLink RX2 26 "JammedBodies$History" "size" "I", Cond.fieldLink RX2 22 "JammedBodies$History" "oldest" "I", Cond.methodLink RX2 29 yX2_at, Cond.instanceMethod yX2_at, Cond.selects RX2 yX2_at yX2_at, Cond.code yX2_at cX2_at 3 (some (.object "JammedBodies$Packing")), Cond.fieldLink RX2 11 "JammedBodies$History" "ring" "[LJammedBodies$Packing;", Cond.fieldLink RX2 18 "JammedBodies$History" "none" "LJammedBodies$Packing;", Cond.methodLink RX2 33 yX3_copyFrom, Cond.instanceMethod yX3_copyFrom, Cond.selects RX3 yX3_copyFrom yX3_copyFrom, Cond.code yX3_copyFrom cX3_copyFrom 3 none, Cond.fieldLink RX3 29 "JammedBodies$Packing" "width" "I", Cond.fieldLink RX3 32 "JammedBodies$Packing" "height" "I", Cond.methodLink RX3 39 yX0_copyFrom, Cond.instanceMethod yX0_copyFrom, Cond.selects RX0 yX0_copyFrom yX0_copyFrom, Cond.code yX0_copyFrom cX0_copyFrom 3 none, Cond.methodLink RX4 68 yX3_add]
def wsX4_put_r7 : List Cond := [Cond.instanceMethod yX3_add, Cond.selects RX3 yX3_add yX3_add, Cond.code yX3_add cX3_add 2 (some .int)]
def wsX4_put : List Cond := .code yX4_put cX4_put 1 (some .int) :: ((wsX4_put_r1 ++ (wsX4_put_r2 ++ (wsX4_put_r3 ++ (wsX4_put_r4 ++ (wsX4_put_r5 ++ (wsX4_put_r6 ++ wsX4_put_r7)))))) ++ wsX40 ++ wsX10 ++ wsX30 ++ wsX00 ++ wsX20)
def wsX4_remove_r1 : List Cond := [Cond.fieldLink RX4 10 "JammedBodies" "packing" "LJammedBodies$Packing;", Cond.constant RX4 37 (-1000001), Cond.fieldLink RX4 22 "JammedBodies" "history" "LJammedBodies$History;", Cond.fieldLink RX4 60 "JammedBodies$Packing" "size" "I", Cond.methodLink RX4 72 yX3_has, Cond.instanceMethod yX3_has, Cond.selects RX3 yX3_has yX3_has, Cond.initialized RX3, Cond.code yX3_has cX3_has 2 (some .boolean), Cond.fieldLink RX3 25 "JammedBodies$Packing" "size" "I", Cond.methodLink RX4 43 yX2_keep, Cond.instanceMethod yX2_keep, Cond.selects RX2 yX2_keep yX2_keep, Cond.initialized RX2, Cond.code yX2_keep cX2_keep 2 none, Cond.fieldLink RX2 26 "JammedBodies$History" "size" "I", Cond.fieldLink RX2 22 "JammedBodies$History" "oldest" "I", Cond.methodLink RX2 29 yX2_at, Cond.instanceMethod yX2_at, Cond.selects RX2 yX2_at yX2_at, Cond.code yX2_at cX2_at 3 (some (.object "JammedBodies$Packing")), Cond.fieldLink RX2 11 "JammedBodies$History" "ring" "[LJammedBodies$Packing;", Cond.fieldLink RX2 18 "JammedBodies$History" "none" "LJammedBodies$Packing;", Cond.methodLink RX2 33 yX3_copyFrom]
def wsX4_remove_r2 : List Cond := [Cond.instanceMethod yX3_copyFrom, Cond.selects RX3 yX3_copyFrom yX3_copyFrom, Cond.code yX3_copyFrom cX3_copyFrom 3 none, Cond.fieldLink RX3 29 "JammedBodies$Packing" "width" "I", Cond.fieldLink RX3 32 "JammedBodies$Packing" "height" "I", Cond.methodLink RX3 35 yX3_at, Cond.instanceMethod yX3_at, Cond.selects RX3 yX3_at yX3_at, Cond.code yX3_at cX3_at 2 (some (.object "JammedBodies$Body")), Cond.fieldLink RX3 11 "JammedBodies$Packing" "row" "[LJammedBodies$Body;", Cond.fieldLink RX3 18 "JammedBodies$Packing" "nobody" "LJammedBodies$Body;", Cond.methodLink RX3 39 yX0_copyFrom, Cond.instanceMethod yX0_copyFrom, Cond.selects RX0 yX0_copyFrom yX0_copyFrom, Cond.initialized RX0, Cond.code yX0_copyFrom cX0_copyFrom 3 none, Cond.fieldLink RX0 18 "JammedBodies$Body" "corners" "I", Cond.methodLink RX0 26 yX0_x, Cond.instanceMethod yX0_x, Cond.selects RX0 yX0_x yX0_x, Cond.code yX0_x cX0_x 2 (some .int), Cond.fieldLink RX0 9 "JammedBodies$Body" "xs" "[I", Cond.methodLink RX0 30 yX0_y, Cond.instanceMethod yX0_y]
def wsX4_remove_r3 : List Cond := [Cond.selects RX0 yX0_y yX0_y, Cond.code yX0_y cX0_y 2 (some .int), Cond.fieldLink RX0 15 "JammedBodies$Body" "ys" "[I", Cond.methodLink RX0 22 yX0_place, Cond.instanceMethod yX0_place, Cond.selects RX0 yX0_place yX0_place, Cond.code yX0_place cX0_place 4 none, Cond.methodLink RX4 75 yX3_takeOut, Cond.instanceMethod yX3_takeOut, Cond.selects RX3 yX3_takeOut yX3_takeOut, Cond.code yX3_takeOut cX3_takeOut 3 none]
def wsX4_remove : List Cond := .code yX4_remove cX4_remove 2 (some .int) :: ((wsX4_remove_r1 ++ (wsX4_remove_r2 ++ wsX4_remove_r3)) ++ wsX40 ++ wsX30 ++ wsX20 ++ wsX00)
def wsX4_empty_r1 : List Cond := [Cond.fieldLink RX4 22 "JammedBodies" "history" "LJammedBodies$History;", Cond.fieldLink RX4 10 "JammedBodies" "packing" "LJammedBodies$Packing;", Cond.fieldLink RX4 60 "JammedBodies$Packing" "size" "I", Cond.methodLink RX4 43 yX2_keep, Cond.instanceMethod yX2_keep, Cond.selects RX2 yX2_keep yX2_keep, Cond.initialized RX2, Cond.code yX2_keep cX2_keep 2 none, Cond.fieldLink RX2 26 "JammedBodies$History" "size" "I", Cond.fieldLink RX2 22 "JammedBodies$History" "oldest" "I", Cond.methodLink RX2 29 yX2_at, Cond.instanceMethod yX2_at, Cond.selects RX2 yX2_at yX2_at, Cond.code yX2_at cX2_at 3 (some (.object "JammedBodies$Packing")), Cond.fieldLink RX2 11 "JammedBodies$History" "ring" "[LJammedBodies$Packing;", Cond.fieldLink RX2 18 "JammedBodies$History" "none" "LJammedBodies$Packing;", Cond.methodLink RX2 33 yX3_copyFrom, Cond.instanceMethod yX3_copyFrom, Cond.selects RX3 yX3_copyFrom yX3_copyFrom, Cond.initialized RX3, Cond.code yX3_copyFrom cX3_copyFrom 3 none, Cond.fieldLink RX3 25 "JammedBodies$Packing" "size" "I", Cond.fieldLink RX3 29 "JammedBodies$Packing" "width" "I", Cond.fieldLink RX3 32 "JammedBodies$Packing" "height" "I"]
def wsX4_empty_r2 : List Cond := [Cond.methodLink RX3 35 yX3_at, Cond.instanceMethod yX3_at, Cond.selects RX3 yX3_at yX3_at, Cond.code yX3_at cX3_at 2 (some (.object "JammedBodies$Body")), Cond.fieldLink RX3 11 "JammedBodies$Packing" "row" "[LJammedBodies$Body;", Cond.fieldLink RX3 18 "JammedBodies$Packing" "nobody" "LJammedBodies$Body;", Cond.methodLink RX3 39 yX0_copyFrom, Cond.instanceMethod yX0_copyFrom, Cond.selects RX0 yX0_copyFrom yX0_copyFrom, Cond.initialized RX0, Cond.code yX0_copyFrom cX0_copyFrom 3 none, Cond.fieldLink RX0 18 "JammedBodies$Body" "corners" "I", Cond.methodLink RX0 26 yX0_x, Cond.instanceMethod yX0_x, Cond.selects RX0 yX0_x yX0_x, Cond.code yX0_x cX0_x 2 (some .int), Cond.fieldLink RX0 9 "JammedBodies$Body" "xs" "[I", Cond.methodLink RX0 30 yX0_y, Cond.instanceMethod yX0_y, Cond.selects RX0 yX0_y yX0_y, Cond.code yX0_y cX0_y 2 (some .int), Cond.fieldLink RX0 15 "JammedBodies$Body" "ys" "[I", Cond.methodLink RX0 22 yX0_place, Cond.instanceMethod yX0_place]
def wsX4_empty_r3 : List Cond := [Cond.selects RX0 yX0_place yX0_place, Cond.code yX0_place cX0_place 4 none]
def wsX4_empty : List Cond := .code yX4_empty cX4_empty 2 (some .int) :: ((wsX4_empty_r1 ++ (wsX4_empty_r2 ++ wsX4_empty_r3)) ++ wsX40 ++ wsX30 ++ wsX20 ++ wsX00)
def wsX4_isDirection : List Cond := .code yX4_isDirection cX4_isDirection 1 (some .boolean) :: ([])
def wsX4_slide_r1 : List Cond := [Cond.fieldLink RX4 10 "JammedBodies" "packing" "LJammedBodies$Packing;", Cond.constant RX4 37 (-1000001), Cond.constant RX4 42 (-1000002), Cond.fieldLink RX4 22 "JammedBodies" "history" "LJammedBodies$History;", Cond.methodLink RX4 72 yX3_has, Cond.instanceMethod yX3_has, Cond.selects RX3 yX3_has yX3_has, Cond.initialized RX3, Cond.code yX3_has cX3_has 2 (some .boolean), Cond.fieldLink RX3 25 "JammedBodies$Packing" "size" "I", Cond.methodLink RX4 79 yX4_isDirection, Cond.static yX4_isDirection, Cond.initialized RX4, Cond.code yX4_isDirection cX4_isDirection 1 (some .boolean), Cond.methodLink RX4 82 yX3_freeSteps, Cond.instanceMethod yX3_freeSteps, Cond.selects RX3 yX3_freeSteps yX3_freeSteps, Cond.code yX3_freeSteps cX3_freeSteps 5 (some .int), Cond.fieldLink RX3 22 "JammedBodies$Packing" "ghost" "LJammedBodies$Body;", Cond.fieldLink RX3 29 "JammedBodies$Packing" "width" "I", Cond.fieldLink RX3 32 "JammedBodies$Packing" "height" "I", Cond.methodLink RX3 35 yX3_at, Cond.instanceMethod yX3_at, Cond.selects RX3 yX3_at yX3_at]
def wsX4_slide_r2 : List Cond := [Cond.code yX3_at cX3_at 2 (some (.object "JammedBodies$Body")), Cond.fieldLink RX3 11 "JammedBodies$Packing" "row" "[LJammedBodies$Body;", Cond.fieldLink RX3 18 "JammedBodies$Packing" "nobody" "LJammedBodies$Body;", Cond.methodLink RX3 39 yX0_copyFrom, Cond.instanceMethod yX0_copyFrom, Cond.selects RX0 yX0_copyFrom yX0_copyFrom, Cond.initialized RX0, Cond.code yX0_copyFrom cX0_copyFrom 3 none, Cond.fieldLink RX0 18 "JammedBodies$Body" "corners" "I", Cond.methodLink RX0 26 yX0_x, Cond.instanceMethod yX0_x, Cond.selects RX0 yX0_x yX0_x, Cond.code yX0_x cX0_x 2 (some .int), Cond.fieldLink RX0 9 "JammedBodies$Body" "xs" "[I", Cond.methodLink RX0 30 yX0_y, Cond.instanceMethod yX0_y, Cond.selects RX0 yX0_y yX0_y, Cond.code yX0_y cX0_y 2 (some .int), Cond.fieldLink RX0 15 "JammedBodies$Body" "ys" "[I", Cond.methodLink RX0 22 yX0_place, Cond.instanceMethod yX0_place, Cond.selects RX0 yX0_place yX0_place, Cond.code yX0_place cX0_place 4 none, Cond.static yX4_stepX]
def wsX4_slide_r3 : List Cond := [Cond.code yX4_stepX cX4_stepX 1 (some .int), Cond.fieldLink RX4 203 "JammedBodies" "STEP_X" "[I", Cond.static yX4_stepY, Cond.code yX4_stepY cX4_stepY 1 (some .int), Cond.fieldLink RX4 207 "JammedBodies" "STEP_Y" "[I", Cond.methodLink RX3 77 yX0_move, Cond.instanceMethod yX0_move, Cond.selects RX0 yX0_move yX0_move, Cond.code yX0_move cX0_move 4 none, Cond.methodLink RX3 43 yX0_wallsBeyond, Cond.instanceMethod yX0_wallsBeyond, Cond.selects RX0 yX0_wallsBeyond yX0_wallsBeyond, Cond.code yX0_wallsBeyond cX0_wallsBeyond 4 (some .int), Cond.methodLink RX0 33 yX0_left, Cond.instanceMethod yX0_left, Cond.selects RX0 yX0_left yX0_left, Cond.code yX0_left cX0_left 3 (some .int), Cond.methodLink RX0 43 Lib.Math.min.name, Cond.static Lib.Math.min.name, Cond.initialized "java/lang/Math", Cond.code Lib.Math.min.name Lib.Math.min.code 2 (some .int), Cond.methodLink RX0 55 yX0_right, Cond.instanceMethod yX0_right, Cond.selects RX0 yX0_right yX0_right]
def wsX4_slide_r4 : List Cond := [Cond.code yX0_right cX0_right 3 (some .int), Cond.methodLink RX0 49 Lib.Math.max.name, Cond.static Lib.Math.max.name, Cond.code Lib.Math.max.name Lib.Math.max.code 2 (some .int), Cond.methodLink RX0 37 yX0_low, Cond.instanceMethod yX0_low, Cond.selects RX0 yX0_low yX0_low, Cond.code yX0_low cX0_low 3 (some .int), Cond.methodLink RX0 40 yX0_high, Cond.instanceMethod yX0_high, Cond.selects RX0 yX0_high yX0_high, Cond.code yX0_high cX0_high 3 (some .int), Cond.methodLink RX3 81 yX3_overlapped, Cond.instanceMethod yX3_overlapped, Cond.selects RX3 yX3_overlapped yX3_overlapped, Cond.code yX3_overlapped cX3_overlapped 5 (some .int), Cond.methodLink RX3 47 yX0_leastReach, Cond.instanceMethod yX0_leastReach, Cond.selects RX0 yX0_leastReach yX0_leastReach, Cond.code yX0_leastReach cX0_leastReach 4 (some .int), Cond.methodLink RX0 63 yX0_reach, Cond.instanceMethod yX0_reach, Cond.selects RX0 yX0_reach yX0_reach, Cond.code yX0_reach cX0_reach 10 (some .int)]
def wsX4_slide_r5 : List Cond := [Cond.constant RX0 58 (-1000000), Cond.methodLink RX0 52 yX0_following, Cond.instanceMethod yX0_following, Cond.selects RX0 yX0_following yX0_following, Cond.code yX0_following cX0_following 2 (some .int), Cond.static yX4_cross, Cond.code yX4_cross cX4_cross 6 (some .int), Cond.methodLink RX4 43 yX2_keep, Cond.instanceMethod yX2_keep, Cond.selects RX2 yX2_keep yX2_keep, Cond.initialized RX2, Cond.code yX2_keep cX2_keep 2 none, Cond.fieldLink RX2 26 "JammedBodies$History" "size" "I", Cond.fieldLink RX2 22 "JammedBodies$History" "oldest" "I", Cond.methodLink RX2 29 yX2_at, Cond.instanceMethod yX2_at, Cond.selects RX2 yX2_at yX2_at, Cond.code yX2_at cX2_at 3 (some (.object "JammedBodies$Packing")), Cond.fieldLink RX2 11 "JammedBodies$History" "ring" "[LJammedBodies$Packing;", Cond.fieldLink RX2 18 "JammedBodies$History" "none" "LJammedBodies$Packing;", Cond.methodLink RX2 33 yX3_copyFrom, Cond.instanceMethod yX3_copyFrom, Cond.selects RX3 yX3_copyFrom yX3_copyFrom, Cond.code yX3_copyFrom cX3_copyFrom 3 none]
def wsX4_slide_r6 : List Cond := [Cond.methodLink RX4 86 yX3_shift, Cond.instanceMethod yX3_shift, Cond.selects RX3 yX3_shift yX3_shift, Cond.code yX3_shift cX3_shift 4 none]
def wsX4_slide : List Cond := .code yX4_slide cX4_slide 5 (some .int) :: ((wsX4_slide_r1 ++ (wsX4_slide_r2 ++ (wsX4_slide_r3 ++ (wsX4_slide_r4 ++ (wsX4_slide_r5 ++ wsX4_slide_r6))))) ++ wsX40 ++ wsX30 ++ wsX00 ++ wsX20)
def wsX4_turn_r1 : List Cond := [Cond.fieldLink RX4 10 "JammedBodies" "packing" "LJammedBodies$Packing;", Cond.constant RX4 37 (-1000001), Cond.constant RX4 42 (-1000002), Cond.fieldLink RX4 22 "JammedBodies" "history" "LJammedBodies$History;", Cond.methodLink RX4 72 yX3_has, Cond.instanceMethod yX3_has, Cond.selects RX3 yX3_has yX3_has, Cond.initialized RX3, Cond.code yX3_has cX3_has 2 (some .boolean), Cond.fieldLink RX3 25 "JammedBodies$Packing" "size" "I", Cond.methodLink RX4 90 yX3_canTurn, Cond.instanceMethod yX3_canTurn, Cond.selects RX3 yX3_canTurn yX3_canTurn, Cond.code yX3_canTurn cX3_canTurn 2 (some .boolean), Cond.fieldLink RX3 22 "JammedBodies$Packing" "ghost" "LJammedBodies$Body;", Cond.fieldLink RX3 29 "JammedBodies$Packing" "width" "I", Cond.fieldLink RX3 32 "JammedBodies$Packing" "height" "I", Cond.methodLink RX3 35 yX3_at, Cond.instanceMethod yX3_at, Cond.selects RX3 yX3_at yX3_at, Cond.code yX3_at cX3_at 2 (some (.object "JammedBodies$Body")), Cond.fieldLink RX3 11 "JammedBodies$Packing" "row" "[LJammedBodies$Body;", Cond.fieldLink RX3 18 "JammedBodies$Packing" "nobody" "LJammedBodies$Body;", Cond.methodLink RX3 39 yX0_copyFrom]
def wsX4_turn_r2 : List Cond := [Cond.instanceMethod yX0_copyFrom, Cond.selects RX0 yX0_copyFrom yX0_copyFrom, Cond.initialized RX0, Cond.code yX0_copyFrom cX0_copyFrom 3 none, Cond.fieldLink RX0 18 "JammedBodies$Body" "corners" "I", Cond.methodLink RX0 26 yX0_x, Cond.instanceMethod yX0_x, Cond.selects RX0 yX0_x yX0_x, Cond.code yX0_x cX0_x 2 (some .int), Cond.fieldLink RX0 9 "JammedBodies$Body" "xs" "[I", Cond.methodLink RX0 30 yX0_y, Cond.instanceMethod yX0_y, Cond.selects RX0 yX0_y yX0_y, Cond.code yX0_y cX0_y 2 (some .int), Cond.fieldLink RX0 15 "JammedBodies$Body" "ys" "[I", Cond.methodLink RX0 22 yX0_place, Cond.instanceMethod yX0_place, Cond.selects RX0 yX0_place yX0_place, Cond.code yX0_place cX0_place 4 none, Cond.methodLink RX3 89 yX0_turnLeft, Cond.instanceMethod yX0_turnLeft, Cond.selects RX0 yX0_turnLeft yX0_turnLeft, Cond.code yX0_turnLeft cX0_turnLeft 5 none, Cond.methodLink RX0 33 yX0_left]
def wsX4_turn_r3 : List Cond := [Cond.instanceMethod yX0_left, Cond.selects RX0 yX0_left yX0_left, Cond.code yX0_left cX0_left 3 (some .int), Cond.methodLink RX0 43 Lib.Math.min.name, Cond.static Lib.Math.min.name, Cond.initialized "java/lang/Math", Cond.code Lib.Math.min.name Lib.Math.min.code 2 (some .int), Cond.methodLink RX0 37 yX0_low, Cond.instanceMethod yX0_low, Cond.selects RX0 yX0_low yX0_low, Cond.code yX0_low cX0_low 3 (some .int), Cond.methodLink RX0 40 yX0_high, Cond.instanceMethod yX0_high, Cond.selects RX0 yX0_high yX0_high, Cond.code yX0_high cX0_high 3 (some .int), Cond.methodLink RX0 49 Lib.Math.max.name, Cond.static Lib.Math.max.name, Cond.code Lib.Math.max.name Lib.Math.max.code 2 (some .int), Cond.methodLink RX3 43 yX0_wallsBeyond, Cond.instanceMethod yX0_wallsBeyond, Cond.selects RX0 yX0_wallsBeyond yX0_wallsBeyond, Cond.code yX0_wallsBeyond cX0_wallsBeyond 4 (some .int), Cond.methodLink RX0 55 yX0_right, Cond.instanceMethod yX0_right]
def wsX4_turn_r4 : List Cond := [Cond.selects RX0 yX0_right yX0_right, Cond.code yX0_right cX0_right 3 (some .int), Cond.methodLink RX3 81 yX3_overlapped, Cond.instanceMethod yX3_overlapped, Cond.selects RX3 yX3_overlapped yX3_overlapped, Cond.code yX3_overlapped cX3_overlapped 5 (some .int), Cond.methodLink RX3 47 yX0_leastReach, Cond.instanceMethod yX0_leastReach, Cond.selects RX0 yX0_leastReach yX0_leastReach, Cond.code yX0_leastReach cX0_leastReach 4 (some .int), Cond.methodLink RX0 63 yX0_reach, Cond.instanceMethod yX0_reach, Cond.selects RX0 yX0_reach yX0_reach, Cond.code yX0_reach cX0_reach 10 (some .int), Cond.constant RX0 58 (-1000000), Cond.methodLink RX0 52 yX0_following, Cond.instanceMethod yX0_following, Cond.selects RX0 yX0_following yX0_following, Cond.code yX0_following cX0_following 2 (some .int), Cond.static yX4_cross, Cond.initialized RX4, Cond.code yX4_cross cX4_cross 6 (some .int), Cond.methodLink RX4 43 yX2_keep, Cond.instanceMethod yX2_keep]
def wsX4_turn_r5 : List Cond := [Cond.selects RX2 yX2_keep yX2_keep, Cond.initialized RX2, Cond.code yX2_keep cX2_keep 2 none, Cond.fieldLink RX2 26 "JammedBodies$History" "size" "I", Cond.fieldLink RX2 22 "JammedBodies$History" "oldest" "I", Cond.methodLink RX2 29 yX2_at, Cond.instanceMethod yX2_at, Cond.selects RX2 yX2_at yX2_at, Cond.code yX2_at cX2_at 3 (some (.object "JammedBodies$Packing")), Cond.fieldLink RX2 11 "JammedBodies$History" "ring" "[LJammedBodies$Packing;", Cond.fieldLink RX2 18 "JammedBodies$History" "none" "LJammedBodies$Packing;", Cond.methodLink RX2 33 yX3_copyFrom, Cond.instanceMethod yX3_copyFrom, Cond.selects RX3 yX3_copyFrom yX3_copyFrom, Cond.code yX3_copyFrom cX3_copyFrom 3 none, Cond.methodLink RX4 93 yX3_at, Cond.methodLink RX4 97 yX0_turnLeft, Cond.methodLink RX4 102 yX0_right, Cond.methodLink RX4 106 yX0_left]
def wsX4_turn : List Cond := .code yX4_turn cX4_turn 3 (some .int) :: ((wsX4_turn_r1 ++ (wsX4_turn_r2 ++ (wsX4_turn_r3 ++ (wsX4_turn_r4 ++ wsX4_turn_r5)))) ++ wsX40 ++ wsX30 ++ wsX00 ++ wsX20)
def wsX4_settle_r1 : List Cond := [Cond.constant RX4 37 (-1000001), Cond.fieldLink RX4 22 "JammedBodies" "history" "LJammedBodies$History;", Cond.fieldLink RX4 10 "JammedBodies" "packing" "LJammedBodies$Packing;", Cond.methodLink RX4 79 yX4_isDirection, Cond.static yX4_isDirection, Cond.initialized RX4, Cond.code yX4_isDirection cX4_isDirection 1 (some .boolean), Cond.methodLink RX4 43 yX2_keep, Cond.instanceMethod yX2_keep, Cond.selects RX2 yX2_keep yX2_keep, Cond.initialized RX2, Cond.code yX2_keep cX2_keep 2 none, Cond.fieldLink RX2 26 "JammedBodies$History" "size" "I", Cond.fieldLink RX2 22 "JammedBodies$History" "oldest" "I", Cond.methodLink RX2 29 yX2_at, Cond.instanceMethod yX2_at, Cond.selects RX2 yX2_at yX2_at, Cond.code yX2_at cX2_at 3 (some (.object "JammedBodies$Packing")), Cond.fieldLink RX2 11 "JammedBodies$History" "ring" "[LJammedBodies$Packing;", Cond.fieldLink RX2 18 "JammedBodies$History" "none" "LJammedBodies$Packing;", Cond.methodLink RX2 33 yX3_copyFrom, Cond.instanceMethod yX3_copyFrom, Cond.selects RX3 yX3_copyFrom yX3_copyFrom, Cond.initialized RX3]
def wsX4_settle_r2 : List Cond := [Cond.code yX3_copyFrom cX3_copyFrom 3 none, Cond.fieldLink RX3 25 "JammedBodies$Packing" "size" "I", Cond.fieldLink RX3 29 "JammedBodies$Packing" "width" "I", Cond.fieldLink RX3 32 "JammedBodies$Packing" "height" "I", Cond.methodLink RX3 35 yX3_at, Cond.instanceMethod yX3_at, Cond.selects RX3 yX3_at yX3_at, Cond.code yX3_at cX3_at 2 (some (.object "JammedBodies$Body")), Cond.fieldLink RX3 11 "JammedBodies$Packing" "row" "[LJammedBodies$Body;", Cond.fieldLink RX3 18 "JammedBodies$Packing" "nobody" "LJammedBodies$Body;", Cond.methodLink RX3 39 yX0_copyFrom, Cond.instanceMethod yX0_copyFrom, Cond.selects RX0 yX0_copyFrom yX0_copyFrom, Cond.initialized RX0, Cond.code yX0_copyFrom cX0_copyFrom 3 none, Cond.fieldLink RX0 18 "JammedBodies$Body" "corners" "I", Cond.methodLink RX0 26 yX0_x, Cond.instanceMethod yX0_x, Cond.selects RX0 yX0_x yX0_x, Cond.code yX0_x cX0_x 2 (some .int), Cond.fieldLink RX0 9 "JammedBodies$Body" "xs" "[I", Cond.methodLink RX0 30 yX0_y, Cond.instanceMethod yX0_y, Cond.selects RX0 yX0_y yX0_y]
def wsX4_settle_r3 : List Cond := [Cond.code yX0_y cX0_y 2 (some .int), Cond.fieldLink RX0 15 "JammedBodies$Body" "ys" "[I", Cond.methodLink RX0 22 yX0_place, Cond.instanceMethod yX0_place, Cond.selects RX0 yX0_place yX0_place, Cond.code yX0_place cX0_place 4 none, Cond.methodLink RX4 109 yX3_settleAll, Cond.instanceMethod yX3_settleAll, Cond.selects RX3 yX3_settleAll yX3_settleAll, Cond.code yX3_settleAll cX3_settleAll 7 (some .int), Cond.methodLink RX3 85 yX3_freeSteps, Cond.instanceMethod yX3_freeSteps, Cond.selects RX3 yX3_freeSteps yX3_freeSteps, Cond.code yX3_freeSteps cX3_freeSteps 5 (some .int), Cond.fieldLink RX3 22 "JammedBodies$Packing" "ghost" "LJammedBodies$Body;", Cond.static yX4_stepX, Cond.code yX4_stepX cX4_stepX 1 (some .int), Cond.fieldLink RX4 203 "JammedBodies" "STEP_X" "[I", Cond.static yX4_stepY, Cond.code yX4_stepY cX4_stepY 1 (some .int), Cond.fieldLink RX4 207 "JammedBodies" "STEP_Y" "[I", Cond.methodLink RX3 77 yX0_move, Cond.instanceMethod yX0_move, Cond.selects RX0 yX0_move yX0_move]
def wsX4_settle_r4 : List Cond := [Cond.code yX0_move cX0_move 4 none, Cond.methodLink RX3 43 yX0_wallsBeyond, Cond.instanceMethod yX0_wallsBeyond, Cond.selects RX0 yX0_wallsBeyond yX0_wallsBeyond, Cond.code yX0_wallsBeyond cX0_wallsBeyond 4 (some .int), Cond.methodLink RX0 33 yX0_left, Cond.instanceMethod yX0_left, Cond.selects RX0 yX0_left yX0_left, Cond.code yX0_left cX0_left 3 (some .int), Cond.methodLink RX0 43 Lib.Math.min.name, Cond.static Lib.Math.min.name, Cond.initialized "java/lang/Math", Cond.code Lib.Math.min.name Lib.Math.min.code 2 (some .int), Cond.methodLink RX0 55 yX0_right, Cond.instanceMethod yX0_right, Cond.selects RX0 yX0_right yX0_right, Cond.code yX0_right cX0_right 3 (some .int), Cond.methodLink RX0 49 Lib.Math.max.name, Cond.static Lib.Math.max.name, Cond.code Lib.Math.max.name Lib.Math.max.code 2 (some .int), Cond.methodLink RX0 37 yX0_low, Cond.instanceMethod yX0_low, Cond.selects RX0 yX0_low yX0_low, Cond.code yX0_low cX0_low 3 (some .int)]
def wsX4_settle_r5 : List Cond := [Cond.methodLink RX0 40 yX0_high, Cond.instanceMethod yX0_high, Cond.selects RX0 yX0_high yX0_high, Cond.code yX0_high cX0_high 3 (some .int), Cond.methodLink RX3 81 yX3_overlapped, Cond.instanceMethod yX3_overlapped, Cond.selects RX3 yX3_overlapped yX3_overlapped, Cond.code yX3_overlapped cX3_overlapped 5 (some .int), Cond.methodLink RX3 47 yX0_leastReach, Cond.instanceMethod yX0_leastReach, Cond.selects RX0 yX0_leastReach yX0_leastReach, Cond.code yX0_leastReach cX0_leastReach 4 (some .int), Cond.methodLink RX0 63 yX0_reach, Cond.instanceMethod yX0_reach, Cond.selects RX0 yX0_reach yX0_reach, Cond.code yX0_reach cX0_reach 10 (some .int), Cond.constant RX0 58 (-1000000), Cond.methodLink RX0 52 yX0_following, Cond.instanceMethod yX0_following, Cond.selects RX0 yX0_following yX0_following, Cond.code yX0_following cX0_following 2 (some .int), Cond.static yX4_cross, Cond.code yX4_cross cX4_cross 6 (some .int), Cond.methodLink RX3 92 yX3_shift]
def wsX4_settle_r6 : List Cond := [Cond.instanceMethod yX3_shift, Cond.selects RX3 yX3_shift yX3_shift, Cond.code yX3_shift cX3_shift 4 none]
def wsX4_settle : List Cond := .code yX4_settle cX4_settle 2 (some .int) :: ((wsX4_settle_r1 ++ (wsX4_settle_r2 ++ (wsX4_settle_r3 ++ (wsX4_settle_r4 ++ (wsX4_settle_r5 ++ wsX4_settle_r6))))) ++ wsX40 ++ wsX20 ++ wsX30 ++ wsX00)
def wsX4_placeOfCorner : List Cond := .code yX4_placeOfCorner cX4_placeOfCorner 3 (some .int) :: ([.fieldLink RX4 113 "JammedBodies$Body" "corners" "I", .constant RX4 171 (-1000004), .methodLink RX4 210 yX0_x, .instanceMethod yX0_x, .selects RX0 yX0_x yX0_x, .initialized RX0, .code yX0_x cX0_x 2 (some .int), .fieldLink RX0 9 "JammedBodies$Body" "xs" "[I", .methodLink RX4 213 yX0_y, .instanceMethod yX0_y, .selects RX0 yX0_y yX0_y, .code yX0_y cX0_y 2 (some .int), .fieldLink RX0 15 "JammedBodies$Body" "ys" "[I"] ++ wsX00)
def wsX4_bodyOf_r1 : List Cond := [Cond.fieldLink RX4 10 "JammedBodies" "packing" "LJammedBodies$Packing;", Cond.constant RX4 37 (-1000001), Cond.fieldLink RX4 113 "JammedBodies$Body" "corners" "I", Cond.fieldLink RX4 47 "JammedBodies$Packing" "width" "I", Cond.fieldLink RX4 51 "JammedBodies$Packing" "height" "I", Cond.methodLink RX4 72 yX3_has, Cond.instanceMethod yX3_has, Cond.selects RX3 yX3_has yX3_has, Cond.initialized RX3, Cond.code yX3_has cX3_has 2 (some .boolean), Cond.fieldLink RX3 25 "JammedBodies$Packing" "size" "I", Cond.methodLink RX4 93 yX3_at, Cond.instanceMethod yX3_at, Cond.selects RX3 yX3_at yX3_at, Cond.code yX3_at cX3_at 2 (some (.object "JammedBodies$Body")), Cond.fieldLink RX3 11 "JammedBodies$Packing" "row" "[LJammedBodies$Body;", Cond.fieldLink RX3 18 "JammedBodies$Packing" "nobody" "LJammedBodies$Body;", Cond.methodLink RX4 116 yX0_doubleArea, Cond.instanceMethod yX0_doubleArea, Cond.selects RX0 yX0_doubleArea yX0_doubleArea, Cond.initialized RX0, Cond.code yX0_doubleArea cX0_doubleArea 4 (some .int), Cond.fieldLink RX0 18 "JammedBodies$Body" "corners" "I", Cond.methodLink RX0 52 yX0_following]
def wsX4_bodyOf_r2 : List Cond := [Cond.instanceMethod yX0_following, Cond.selects RX0 yX0_following yX0_following, Cond.code yX0_following cX0_following 2 (some .int), Cond.methodLink RX0 26 yX0_x, Cond.instanceMethod yX0_x, Cond.selects RX0 yX0_x yX0_x, Cond.code yX0_x cX0_x 2 (some .int), Cond.fieldLink RX0 9 "JammedBodies$Body" "xs" "[I", Cond.methodLink RX0 30 yX0_y, Cond.instanceMethod yX0_y, Cond.selects RX0 yX0_y yX0_y, Cond.code yX0_y cX0_y 2 (some .int), Cond.fieldLink RX0 15 "JammedBodies$Body" "ys" "[I", Cond.methodLink RX4 106 yX0_left, Cond.instanceMethod yX0_left, Cond.selects RX0 yX0_left yX0_left, Cond.code yX0_left cX0_left 3 (some .int), Cond.methodLink RX0 43 Lib.Math.min.name, Cond.static Lib.Math.min.name, Cond.initialized "java/lang/Math", Cond.code Lib.Math.min.name Lib.Math.min.code 2 (some .int), Cond.methodLink RX4 102 yX0_right, Cond.instanceMethod yX0_right, Cond.selects RX0 yX0_right yX0_right]
def wsX4_bodyOf_r3 : List Cond := [Cond.code yX0_right cX0_right 3 (some .int), Cond.methodLink RX0 49 Lib.Math.max.name, Cond.static Lib.Math.max.name, Cond.code Lib.Math.max.name Lib.Math.max.code 2 (some .int), Cond.methodLink RX4 119 yX0_low, Cond.instanceMethod yX0_low, Cond.selects RX0 yX0_low yX0_low, Cond.code yX0_low cX0_low 3 (some .int), Cond.methodLink RX4 122 yX0_high, Cond.instanceMethod yX0_high, Cond.selects RX0 yX0_high yX0_high, Cond.code yX0_high cX0_high 3 (some .int), Cond.methodLink RX4 125 yX0_wallsTouched, Cond.instanceMethod yX0_wallsTouched, Cond.selects RX0 yX0_wallsTouched yX0_wallsTouched, Cond.code yX0_wallsTouched cX0_wallsTouched 4 (some .int), Cond.methodLink RX0 33 yX0_left, Cond.methodLink RX0 55 yX0_right, Cond.methodLink RX0 37 yX0_low, Cond.methodLink RX0 40 yX0_high, Cond.methodLink RX4 129 yX3_touching, Cond.instanceMethod yX3_touching, Cond.selects RX3 yX3_touching yX3_touching, Cond.code yX3_touching cX3_touching 5 (some .int)]
def wsX4_bodyOf_r4 : List Cond := [Cond.methodLink RX3 51 Lib.Math.min.name, Cond.methodLink RX3 35 yX3_at, Cond.methodLink RX3 47 yX0_leastReach, Cond.instanceMethod yX0_leastReach, Cond.selects RX0 yX0_leastReach yX0_leastReach, Cond.code yX0_leastReach cX0_leastReach 4 (some .int), Cond.methodLink RX0 63 yX0_reach, Cond.instanceMethod yX0_reach, Cond.selects RX0 yX0_reach yX0_reach, Cond.code yX0_reach cX0_reach 10 (some .int), Cond.constant RX0 58 (-1000000), Cond.static yX4_cross, Cond.initialized RX4, Cond.code yX4_cross cX4_cross 6 (some .int), Cond.methodLink RX4 132 yX3_freeDirections, Cond.instanceMethod yX3_freeDirections, Cond.selects RX3 yX3_freeDirections yX3_freeDirections, Cond.code yX3_freeDirections cX3_freeDirections 4 (some .int), Cond.methodLink RX3 85 yX3_freeSteps, Cond.instanceMethod yX3_freeSteps, Cond.selects RX3 yX3_freeSteps yX3_freeSteps, Cond.code yX3_freeSteps cX3_freeSteps 5 (some .int), Cond.fieldLink RX3 22 "JammedBodies$Packing" "ghost" "LJammedBodies$Body;", Cond.fieldLink RX3 29 "JammedBodies$Packing" "width" "I"]
def wsX4_bodyOf_r5 : List Cond := [Cond.fieldLink RX3 32 "JammedBodies$Packing" "height" "I", Cond.methodLink RX3 39 yX0_copyFrom, Cond.instanceMethod yX0_copyFrom, Cond.selects RX0 yX0_copyFrom yX0_copyFrom, Cond.code yX0_copyFrom cX0_copyFrom 3 none, Cond.methodLink RX0 22 yX0_place, Cond.instanceMethod yX0_place, Cond.selects RX0 yX0_place yX0_place, Cond.code yX0_place cX0_place 4 none, Cond.static yX4_stepX, Cond.code yX4_stepX cX4_stepX 1 (some .int), Cond.fieldLink RX4 203 "JammedBodies" "STEP_X" "[I", Cond.static yX4_stepY, Cond.code yX4_stepY cX4_stepY 1 (some .int), Cond.fieldLink RX4 207 "JammedBodies" "STEP_Y" "[I", Cond.methodLink RX3 77 yX0_move, Cond.instanceMethod yX0_move, Cond.selects RX0 yX0_move yX0_move, Cond.code yX0_move cX0_move 4 none, Cond.methodLink RX3 43 yX0_wallsBeyond, Cond.instanceMethod yX0_wallsBeyond, Cond.selects RX0 yX0_wallsBeyond yX0_wallsBeyond, Cond.code yX0_wallsBeyond cX0_wallsBeyond 4 (some .int), Cond.methodLink RX3 81 yX3_overlapped]
def wsX4_bodyOf_r6 : List Cond := [Cond.instanceMethod yX3_overlapped, Cond.selects RX3 yX3_overlapped yX3_overlapped, Cond.code yX3_overlapped cX3_overlapped 5 (some .int), Cond.methodLink RX4 135 yX3_jammed, Cond.instanceMethod yX3_jammed, Cond.selects RX3 yX3_jammed yX3_jammed, Cond.code yX3_jammed cX3_jammed 5 (some .int), Cond.methodLink RX4 138 yX4_placeOfCorner, Cond.static yX4_placeOfCorner, Cond.code yX4_placeOfCorner cX4_placeOfCorner 3 (some .int), Cond.constant RX4 171 (-1000004), Cond.methodLink RX4 210 yX0_x, Cond.methodLink RX4 213 yX0_y]
def wsX4_bodyOf : List Cond := .code yX4_bodyOf cX4_bodyOf 4 (some .int) :: ((wsX4_bodyOf_r1 ++ (wsX4_bodyOf_r2 ++ (wsX4_bodyOf_r3 ++ (wsX4_bodyOf_r4 ++ (wsX4_bodyOf_r5 ++ wsX4_bodyOf_r6))))) ++ wsX40 ++ wsX00 ++ wsX30)
def wsX4_parts_r1 : List Cond := [Cond.fieldLink RX4 10 "JammedBodies" "packing" "LJammedBodies$Packing;", Cond.constant RX4 37 (-1000001), Cond.methodLink RX4 72 yX3_has, Cond.instanceMethod yX3_has, Cond.selects RX3 yX3_has yX3_has, Cond.initialized RX3, Cond.code yX3_has cX3_has 2 (some .boolean), Cond.fieldLink RX3 25 "JammedBodies$Packing" "size" "I", Cond.methodLink RX4 93 yX3_at, Cond.instanceMethod yX3_at, Cond.selects RX3 yX3_at yX3_at, Cond.code yX3_at cX3_at 2 (some (.object "JammedBodies$Body")), Cond.fieldLink RX3 11 "JammedBodies$Packing" "row" "[LJammedBodies$Body;", Cond.fieldLink RX3 18 "JammedBodies$Packing" "nobody" "LJammedBodies$Body;", Cond.methodLink RX4 142 yX0_partingSide, Cond.instanceMethod yX0_partingSide, Cond.selects RX0 yX0_partingSide yX0_partingSide, Cond.initialized RX0, Cond.code yX0_partingSide cX0_partingSide 3 (some .int), Cond.fieldLink RX0 18 "JammedBodies$Body" "corners" "I", Cond.methodLink RX0 63 yX0_reach, Cond.instanceMethod yX0_reach, Cond.selects RX0 yX0_reach yX0_reach, Cond.code yX0_reach cX0_reach 10 (some .int)]
def wsX4_parts_r2 : List Cond := [Cond.constant RX0 58 (-1000000), Cond.methodLink RX0 49 Lib.Math.max.name, Cond.static Lib.Math.max.name, Cond.initialized "java/lang/Math", Cond.code Lib.Math.max.name Lib.Math.max.code 2 (some .int), Cond.methodLink RX0 52 yX0_following, Cond.instanceMethod yX0_following, Cond.selects RX0 yX0_following yX0_following, Cond.code yX0_following cX0_following 2 (some .int), Cond.methodLink RX0 26 yX0_x, Cond.instanceMethod yX0_x, Cond.selects RX0 yX0_x yX0_x, Cond.code yX0_x cX0_x 2 (some .int), Cond.fieldLink RX0 9 "JammedBodies$Body" "xs" "[I", Cond.methodLink RX0 30 yX0_y, Cond.instanceMethod yX0_y, Cond.selects RX0 yX0_y yX0_y, Cond.code yX0_y cX0_y 2 (some .int), Cond.fieldLink RX0 15 "JammedBodies$Body" "ys" "[I", Cond.static yX4_cross, Cond.initialized RX4, Cond.code yX4_cross cX4_cross 6 (some .int), Cond.methodLink RX4 145 yX0_nearestCorner, Cond.instanceMethod yX0_nearestCorner]
def wsX4_parts_r3 : List Cond := [Cond.selects RX0 yX0_nearestCorner yX0_nearestCorner, Cond.code yX0_nearestCorner cX0_nearestCorner 6 (some .int), Cond.methodLink RX4 149 yX0_reach]
def wsX4_parts : List Cond := .code yX4_parts cX4_parts 8 (some .int) :: ((wsX4_parts_r1 ++ (wsX4_parts_r2 ++ wsX4_parts_r3)) ++ wsX40 ++ wsX30 ++ wsX00)
def wsX4_way_r1 : List Cond := [Cond.fieldLink RX4 10 "JammedBodies" "packing" "LJammedBodies$Packing;", Cond.constant RX4 37 (-1000001), Cond.fieldLink RX4 47 "JammedBodies$Packing" "width" "I", Cond.fieldLink RX4 51 "JammedBodies$Packing" "height" "I", Cond.methodLink RX4 72 yX3_has, Cond.instanceMethod yX3_has, Cond.selects RX3 yX3_has yX3_has, Cond.initialized RX3, Cond.code yX3_has cX3_has 2 (some .boolean), Cond.fieldLink RX3 25 "JammedBodies$Packing" "size" "I", Cond.methodLink RX4 79 yX4_isDirection, Cond.static yX4_isDirection, Cond.initialized RX4, Cond.code yX4_isDirection cX4_isDirection 1 (some .boolean), Cond.methodLink RX4 82 yX3_freeSteps, Cond.instanceMethod yX3_freeSteps, Cond.selects RX3 yX3_freeSteps yX3_freeSteps, Cond.code yX3_freeSteps cX3_freeSteps 5 (some .int), Cond.fieldLink RX3 22 "JammedBodies$Packing" "ghost" "LJammedBodies$Body;", Cond.fieldLink RX3 29 "JammedBodies$Packing" "width" "I", Cond.fieldLink RX3 32 "JammedBodies$Packing" "height" "I", Cond.methodLink RX3 35 yX3_at, Cond.instanceMethod yX3_at, Cond.selects RX3 yX3_at yX3_at]
def wsX4_way_r2 : List Cond := [Cond.code yX3_at cX3_at 2 (some (.object "JammedBodies$Body")), Cond.fieldLink RX3 11 "JammedBodies$Packing" "row" "[LJammedBodies$Body;", Cond.fieldLink RX3 18 "JammedBodies$Packing" "nobody" "LJammedBodies$Body;", Cond.methodLink RX3 39 yX0_copyFrom, Cond.instanceMethod yX0_copyFrom, Cond.selects RX0 yX0_copyFrom yX0_copyFrom, Cond.initialized RX0, Cond.code yX0_copyFrom cX0_copyFrom 3 none, Cond.fieldLink RX0 18 "JammedBodies$Body" "corners" "I", Cond.methodLink RX0 26 yX0_x, Cond.instanceMethod yX0_x, Cond.selects RX0 yX0_x yX0_x, Cond.code yX0_x cX0_x 2 (some .int), Cond.fieldLink RX0 9 "JammedBodies$Body" "xs" "[I", Cond.methodLink RX0 30 yX0_y, Cond.instanceMethod yX0_y, Cond.selects RX0 yX0_y yX0_y, Cond.code yX0_y cX0_y 2 (some .int), Cond.fieldLink RX0 15 "JammedBodies$Body" "ys" "[I", Cond.methodLink RX0 22 yX0_place, Cond.instanceMethod yX0_place, Cond.selects RX0 yX0_place yX0_place, Cond.code yX0_place cX0_place 4 none, Cond.static yX4_stepX]
def wsX4_way_r3 : List Cond := [Cond.code yX4_stepX cX4_stepX 1 (some .int), Cond.fieldLink RX4 203 "JammedBodies" "STEP_X" "[I", Cond.static yX4_stepY, Cond.code yX4_stepY cX4_stepY 1 (some .int), Cond.fieldLink RX4 207 "JammedBodies" "STEP_Y" "[I", Cond.methodLink RX3 77 yX0_move, Cond.instanceMethod yX0_move, Cond.selects RX0 yX0_move yX0_move, Cond.code yX0_move cX0_move 4 none, Cond.methodLink RX3 43 yX0_wallsBeyond, Cond.instanceMethod yX0_wallsBeyond, Cond.selects RX0 yX0_wallsBeyond yX0_wallsBeyond, Cond.code yX0_wallsBeyond cX0_wallsBeyond 4 (some .int), Cond.methodLink RX0 33 yX0_left, Cond.instanceMethod yX0_left, Cond.selects RX0 yX0_left yX0_left, Cond.code yX0_left cX0_left 3 (some .int), Cond.methodLink RX0 43 Lib.Math.min.name, Cond.static Lib.Math.min.name, Cond.initialized "java/lang/Math", Cond.code Lib.Math.min.name Lib.Math.min.code 2 (some .int), Cond.methodLink RX0 55 yX0_right, Cond.instanceMethod yX0_right, Cond.selects RX0 yX0_right yX0_right]
def wsX4_way_r4 : List Cond := [Cond.code yX0_right cX0_right 3 (some .int), Cond.methodLink RX0 49 Lib.Math.max.name, Cond.static Lib.Math.max.name, Cond.code Lib.Math.max.name Lib.Math.max.code 2 (some .int), Cond.methodLink RX0 37 yX0_low, Cond.instanceMethod yX0_low, Cond.selects RX0 yX0_low yX0_low, Cond.code yX0_low cX0_low 3 (some .int), Cond.methodLink RX0 40 yX0_high, Cond.instanceMethod yX0_high, Cond.selects RX0 yX0_high yX0_high, Cond.code yX0_high cX0_high 3 (some .int), Cond.methodLink RX3 81 yX3_overlapped, Cond.instanceMethod yX3_overlapped, Cond.selects RX3 yX3_overlapped yX3_overlapped, Cond.code yX3_overlapped cX3_overlapped 5 (some .int), Cond.methodLink RX3 47 yX0_leastReach, Cond.instanceMethod yX0_leastReach, Cond.selects RX0 yX0_leastReach yX0_leastReach, Cond.code yX0_leastReach cX0_leastReach 4 (some .int), Cond.methodLink RX0 63 yX0_reach, Cond.instanceMethod yX0_reach, Cond.selects RX0 yX0_reach yX0_reach, Cond.code yX0_reach cX0_reach 10 (some .int)]
def wsX4_way_r5 : List Cond := [Cond.constant RX0 58 (-1000000), Cond.methodLink RX0 52 yX0_following, Cond.instanceMethod yX0_following, Cond.selects RX0 yX0_following yX0_following, Cond.code yX0_following cX0_following 2 (some .int), Cond.static yX4_cross, Cond.code yX4_cross cX4_cross 6 (some .int), Cond.methodLink RX4 152 yX3_shifted, Cond.instanceMethod yX3_shifted, Cond.selects RX3 yX3_shifted yX3_shifted, Cond.code yX3_shifted cX3_shifted 4 (some (.object "JammedBodies$Body")), Cond.methodLink RX4 156 yX3_overlapped, Cond.methodLink RX4 159 yX0_wallsBeyond]
def wsX4_way : List Cond := .code yX4_way cX4_way 6 (some .int) :: ((wsX4_way_r1 ++ (wsX4_way_r2 ++ (wsX4_way_r3 ++ (wsX4_way_r4 ++ wsX4_way_r5)))) ++ wsX40 ++ wsX30 ++ wsX00)
def wsX4_bodies_r1 : List Cond := [Cond.fieldLink RX4 10 "JammedBodies" "packing" "LJammedBodies$Packing;", Cond.constant RX4 37 (-1000001), Cond.methodLink RX4 135 yX3_jammed, Cond.instanceMethod yX3_jammed, Cond.selects RX3 yX3_jammed yX3_jammed, Cond.initialized RX3, Cond.code yX3_jammed cX3_jammed 5 (some .int), Cond.fieldLink RX3 25 "JammedBodies$Packing" "size" "I", Cond.methodLink RX3 85 yX3_freeSteps, Cond.instanceMethod yX3_freeSteps, Cond.selects RX3 yX3_freeSteps yX3_freeSteps, Cond.code yX3_freeSteps cX3_freeSteps 5 (some .int), Cond.fieldLink RX3 22 "JammedBodies$Packing" "ghost" "LJammedBodies$Body;", Cond.fieldLink RX3 29 "JammedBodies$Packing" "width" "I", Cond.fieldLink RX3 32 "JammedBodies$Packing" "height" "I", Cond.methodLink RX3 35 yX3_at, Cond.instanceMethod yX3_at, Cond.selects RX3 yX3_at yX3_at, Cond.code yX3_at cX3_at 2 (some (.object "JammedBodies$Body")), Cond.fieldLink RX3 11 "JammedBodies$Packing" "row" "[LJammedBodies$Body;", Cond.fieldLink RX3 18 "JammedBodies$Packing" "nobody" "LJammedBodies$Body;", Cond.methodLink RX3 39 yX0_copyFrom, Cond.instanceMethod yX0_copyFrom, Cond.selects RX0 yX0_copyFrom yX0_copyFrom]
def wsX4_bodies_r2 : List Cond := [Cond.initialized RX0, Cond.code yX0_copyFrom cX0_copyFrom 3 none, Cond.fieldLink RX0 18 "JammedBodies$Body" "corners" "I", Cond.methodLink RX0 26 yX0_x, Cond.instanceMethod yX0_x, Cond.selects RX0 yX0_x yX0_x, Cond.code yX0_x cX0_x 2 (some .int), Cond.fieldLink RX0 9 "JammedBodies$Body" "xs" "[I", Cond.methodLink RX0 30 yX0_y, Cond.instanceMethod yX0_y, Cond.selects RX0 yX0_y yX0_y, Cond.code yX0_y cX0_y 2 (some .int), Cond.fieldLink RX0 15 "JammedBodies$Body" "ys" "[I", Cond.methodLink RX0 22 yX0_place, Cond.instanceMethod yX0_place, Cond.selects RX0 yX0_place yX0_place, Cond.code yX0_place cX0_place 4 none, Cond.static yX4_stepX, Cond.initialized RX4, Cond.code yX4_stepX cX4_stepX 1 (some .int), Cond.fieldLink RX4 203 "JammedBodies" "STEP_X" "[I", Cond.static yX4_stepY, Cond.code yX4_stepY cX4_stepY 1 (some .int), Cond.fieldLink RX4 207 "JammedBodies" "STEP_Y" "[I"]
def wsX4_bodies_r3 : List Cond := [Cond.methodLink RX3 77 yX0_move, Cond.instanceMethod yX0_move, Cond.selects RX0 yX0_move yX0_move, Cond.code yX0_move cX0_move 4 none, Cond.methodLink RX3 43 yX0_wallsBeyond, Cond.instanceMethod yX0_wallsBeyond, Cond.selects RX0 yX0_wallsBeyond yX0_wallsBeyond, Cond.code yX0_wallsBeyond cX0_wallsBeyond 4 (some .int), Cond.methodLink RX0 33 yX0_left, Cond.instanceMethod yX0_left, Cond.selects RX0 yX0_left yX0_left, Cond.code yX0_left cX0_left 3 (some .int), Cond.methodLink RX0 43 Lib.Math.min.name, Cond.static Lib.Math.min.name, Cond.initialized "java/lang/Math", Cond.code Lib.Math.min.name Lib.Math.min.code 2 (some .int), Cond.methodLink RX0 55 yX0_right, Cond.instanceMethod yX0_right, Cond.selects RX0 yX0_right yX0_right, Cond.code yX0_right cX0_right 3 (some .int), Cond.methodLink RX0 49 Lib.Math.max.name, Cond.static Lib.Math.max.name, Cond.code Lib.Math.max.name Lib.Math.max.code 2 (some .int), Cond.methodLink RX0 37 yX0_low]
def wsX4_bodies_r4 : List Cond := [Cond.instanceMethod yX0_low, Cond.selects RX0 yX0_low yX0_low, Cond.code yX0_low cX0_low 3 (some .int), Cond.methodLink RX0 40 yX0_high, Cond.instanceMethod yX0_high, Cond.selects RX0 yX0_high yX0_high, Cond.code yX0_high cX0_high 3 (some .int), Cond.methodLink RX3 81 yX3_overlapped, Cond.instanceMethod yX3_overlapped, Cond.selects RX3 yX3_overlapped yX3_overlapped, Cond.code yX3_overlapped cX3_overlapped 5 (some .int), Cond.methodLink RX3 47 yX0_leastReach, Cond.instanceMethod yX0_leastReach, Cond.selects RX0 yX0_leastReach yX0_leastReach, Cond.code yX0_leastReach cX0_leastReach 4 (some .int), Cond.methodLink RX0 63 yX0_reach, Cond.instanceMethod yX0_reach, Cond.selects RX0 yX0_reach yX0_reach, Cond.code yX0_reach cX0_reach 10 (some .int), Cond.constant RX0 58 (-1000000), Cond.methodLink RX0 52 yX0_following, Cond.instanceMethod yX0_following, Cond.selects RX0 yX0_following yX0_following, Cond.code yX0_following cX0_following 2 (some .int)]
def wsX4_bodies_r5 : List Cond := [Cond.static yX4_cross, Cond.code yX4_cross cX4_cross 6 (some .int), Cond.methodLink RX4 162 yX3_touchingNone, Cond.instanceMethod yX3_touchingNone, Cond.selects RX3 yX3_touchingNone yX3_touchingNone, Cond.code yX3_touchingNone cX3_touchingNone 3 (some .int), Cond.methodLink RX3 56 yX3_touching, Cond.instanceMethod yX3_touching, Cond.selects RX3 yX3_touching yX3_touching, Cond.code yX3_touching cX3_touching 5 (some .int), Cond.methodLink RX3 51 Lib.Math.min.name, Cond.methodLink RX4 165 yX3_touchingWalls, Cond.instanceMethod yX3_touchingWalls, Cond.selects RX3 yX3_touchingWalls yX3_touchingWalls, Cond.code yX3_touchingWalls cX3_touchingWalls 4 (some .int), Cond.methodLink RX3 65 yX0_wallsTouched, Cond.instanceMethod yX0_wallsTouched, Cond.selects RX0 yX0_wallsTouched yX0_wallsTouched, Cond.code yX0_wallsTouched cX0_wallsTouched 4 (some .int), Cond.methodLink RX4 168 yX3_spread, Cond.instanceMethod yX3_spread, Cond.selects RX3 yX3_spread yX3_spread, Cond.code yX3_spread cX3_spread 6 (some .int), Cond.static yX4_lowest]
def wsX4_bodies_r6 : List Cond := [Cond.code yX4_lowest cX4_lowest 2 (some .int)]
def wsX4_bodies : List Cond := .code yX4_bodies cX4_bodies 2 (some .int) :: ((wsX4_bodies_r1 ++ (wsX4_bodies_r2 ++ (wsX4_bodies_r3 ++ (wsX4_bodies_r4 ++ (wsX4_bodies_r5 ++ wsX4_bodies_r6))))) ++ wsX40 ++ wsX30 ++ wsX00)
def wsX4_group_r1 : List Cond := [Cond.constant RX4 37 (-1000001), Cond.fieldLink RX4 10 "JammedBodies" "packing" "LJammedBodies$Packing;", Cond.fieldLink RX4 60 "JammedBodies$Packing" "size" "I", Cond.constant RX4 171 (-1000004), Cond.methodLink RX4 168 yX3_spread, Cond.instanceMethod yX3_spread, Cond.selects RX3 yX3_spread yX3_spread, Cond.initialized RX3, Cond.code yX3_spread cX3_spread 6 (some .int), Cond.static yX4_lowest, Cond.initialized RX4, Cond.code yX4_lowest cX4_lowest 2 (some .int), Cond.methodLink RX3 56 yX3_touching, Cond.instanceMethod yX3_touching, Cond.selects RX3 yX3_touching yX3_touching, Cond.code yX3_touching cX3_touching 5 (some .int), Cond.fieldLink RX3 25 "JammedBodies$Packing" "size" "I", Cond.methodLink RX3 51 Lib.Math.min.name, Cond.static Lib.Math.min.name, Cond.initialized "java/lang/Math", Cond.code Lib.Math.min.name Lib.Math.min.code 2 (some .int), Cond.methodLink RX3 35 yX3_at, Cond.instanceMethod yX3_at, Cond.selects RX3 yX3_at yX3_at]
def wsX4_group_r2 : List Cond := [Cond.code yX3_at cX3_at 2 (some (.object "JammedBodies$Body")), Cond.fieldLink RX3 11 "JammedBodies$Packing" "row" "[LJammedBodies$Body;", Cond.fieldLink RX3 18 "JammedBodies$Packing" "nobody" "LJammedBodies$Body;", Cond.methodLink RX3 47 yX0_leastReach, Cond.instanceMethod yX0_leastReach, Cond.selects RX0 yX0_leastReach yX0_leastReach, Cond.initialized RX0, Cond.code yX0_leastReach cX0_leastReach 4 (some .int), Cond.fieldLink RX0 18 "JammedBodies$Body" "corners" "I", Cond.methodLink RX0 43 Lib.Math.min.name, Cond.methodLink RX0 63 yX0_reach, Cond.instanceMethod yX0_reach, Cond.selects RX0 yX0_reach yX0_reach, Cond.code yX0_reach cX0_reach 10 (some .int), Cond.constant RX0 58 (-1000000), Cond.methodLink RX0 49 Lib.Math.max.name, Cond.static Lib.Math.max.name, Cond.code Lib.Math.max.name Lib.Math.max.code 2 (some .int), Cond.methodLink RX0 52 yX0_following, Cond.instanceMethod yX0_following, Cond.selects RX0 yX0_following yX0_following, Cond.code yX0_following cX0_following 2 (some .int), Cond.methodLink RX0 26 yX0_x, Cond.instanceMethod yX0_x]
def wsX4_group_r3 : List Cond := [Cond.selects RX0 yX0_x yX0_x, Cond.code yX0_x cX0_x 2 (some .int), Cond.fieldLink RX0 9 "JammedBodies$Body" "xs" "[I", Cond.methodLink RX0 30 yX0_y, Cond.instanceMethod yX0_y, Cond.selects RX0 yX0_y yX0_y, Cond.code yX0_y cX0_y 2 (some .int), Cond.fieldLink RX0 15 "JammedBodies$Body" "ys" "[I", Cond.static yX4_cross, Cond.code yX4_cross cX4_cross 6 (some .int)]
def wsX4_group : List Cond := .code yX4_group cX4_group 6 (some .int) :: ((wsX4_group_r1 ++ (wsX4_group_r2 ++ wsX4_group_r3)) ++ wsX40 ++ wsX30 ++ wsX00)
def wsX4_bitsOfShare : List Cond := .code yX4_bitsOfShare cX4_bitsOfShare 3 (some .int) :: ([.constantFloat RX4 216 (1258291200)])
def wsX4_density_r1 : List Cond := [Cond.fieldLink RX4 10 "JammedBodies" "packing" "LJammedBodies$Packing;", Cond.fieldLink RX4 47 "JammedBodies$Packing" "width" "I", Cond.fieldLink RX4 51 "JammedBodies$Packing" "height" "I", Cond.methodLink RX4 172 yX3_doubleArea, Cond.instanceMethod yX3_doubleArea, Cond.selects RX3 yX3_doubleArea yX3_doubleArea, Cond.initialized RX3, Cond.code yX3_doubleArea cX3_doubleArea 3 (some .int), Cond.fieldLink RX3 25 "JammedBodies$Packing" "size" "I", Cond.methodLink RX3 35 yX3_at, Cond.instanceMethod yX3_at, Cond.selects RX3 yX3_at yX3_at, Cond.code yX3_at cX3_at 2 (some (.object "JammedBodies$Body")), Cond.fieldLink RX3 11 "JammedBodies$Packing" "row" "[LJammedBodies$Body;", Cond.fieldLink RX3 18 "JammedBodies$Packing" "nobody" "LJammedBodies$Body;", Cond.methodLink RX3 96 yX0_doubleArea, Cond.instanceMethod yX0_doubleArea, Cond.selects RX0 yX0_doubleArea yX0_doubleArea, Cond.initialized RX0, Cond.code yX0_doubleArea cX0_doubleArea 4 (some .int), Cond.fieldLink RX0 18 "JammedBodies$Body" "corners" "I", Cond.methodLink RX0 52 yX0_following, Cond.instanceMethod yX0_following, Cond.selects RX0 yX0_following yX0_following]
def wsX4_density_r2 : List Cond := [Cond.code yX0_following cX0_following 2 (some .int), Cond.methodLink RX0 26 yX0_x, Cond.instanceMethod yX0_x, Cond.selects RX0 yX0_x yX0_x, Cond.code yX0_x cX0_x 2 (some .int), Cond.fieldLink RX0 9 "JammedBodies$Body" "xs" "[I", Cond.methodLink RX0 30 yX0_y, Cond.instanceMethod yX0_y, Cond.selects RX0 yX0_y yX0_y, Cond.code yX0_y cX0_y 2 (some .int), Cond.fieldLink RX0 15 "JammedBodies$Body" "ys" "[I", Cond.methodLink RX4 173 yX4_bitsOfShare, Cond.static yX4_bitsOfShare, Cond.initialized RX4, Cond.code yX4_bitsOfShare cX4_bitsOfShare 3 (some .int), Cond.constantFloat RX4 216 (1258291200)]
def wsX4_density : List Cond := .code yX4_density cX4_density 3 (some .int) :: ((wsX4_density_r1 ++ wsX4_density_r2) ++ wsX40 ++ wsX30 ++ wsX00)
def wsX4_keystone_r1 : List Cond := [Cond.constant RX4 37 (-1000001), Cond.constant RX4 171 (-1000004), Cond.fieldLink RX4 10 "JammedBodies" "packing" "LJammedBodies$Packing;", Cond.fieldLink RX4 60 "JammedBodies$Packing" "size" "I", Cond.fieldLink RX4 16 "JammedBodies" "trial" "LJammedBodies$Packing;", Cond.methodLink RX4 79 yX4_isDirection, Cond.static yX4_isDirection, Cond.initialized RX4, Cond.code yX4_isDirection cX4_isDirection 1 (some .boolean), Cond.methodLink RX4 177 yX3_copyFrom, Cond.instanceMethod yX3_copyFrom, Cond.selects RX3 yX3_copyFrom yX3_copyFrom, Cond.initialized RX3, Cond.code yX3_copyFrom cX3_copyFrom 3 none, Cond.fieldLink RX3 25 "JammedBodies$Packing" "size" "I", Cond.fieldLink RX3 29 "JammedBodies$Packing" "width" "I", Cond.fieldLink RX3 32 "JammedBodies$Packing" "height" "I", Cond.methodLink RX3 35 yX3_at, Cond.instanceMethod yX3_at, Cond.selects RX3 yX3_at yX3_at, Cond.code yX3_at cX3_at 2 (some (.object "JammedBodies$Body")), Cond.fieldLink RX3 11 "JammedBodies$Packing" "row" "[LJammedBodies$Body;", Cond.fieldLink RX3 18 "JammedBodies$Packing" "nobody" "LJammedBodies$Body;", Cond.methodLink RX3 39 yX0_copyFrom]
def wsX4_keystone_r2 : List Cond := [Cond.instanceMethod yX0_copyFrom, Cond.selects RX0 yX0_copyFrom yX0_copyFrom, Cond.initialized RX0, Cond.code yX0_copyFrom cX0_copyFrom 3 none, Cond.fieldLink RX0 18 "JammedBodies$Body" "corners" "I", Cond.methodLink RX0 26 yX0_x, Cond.instanceMethod yX0_x, Cond.selects RX0 yX0_x yX0_x, Cond.code yX0_x cX0_x 2 (some .int), Cond.fieldLink RX0 9 "JammedBodies$Body" "xs" "[I", Cond.methodLink RX0 30 yX0_y, Cond.instanceMethod yX0_y, Cond.selects RX0 yX0_y yX0_y, Cond.code yX0_y cX0_y 2 (some .int), Cond.fieldLink RX0 15 "JammedBodies$Body" "ys" "[I", Cond.methodLink RX0 22 yX0_place, Cond.instanceMethod yX0_place, Cond.selects RX0 yX0_place yX0_place, Cond.code yX0_place cX0_place 4 none, Cond.methodLink RX4 75 yX3_takeOut, Cond.instanceMethod yX3_takeOut, Cond.selects RX3 yX3_takeOut yX3_takeOut, Cond.code yX3_takeOut cX3_takeOut 3 none, Cond.methodLink RX4 109 yX3_settleAll]
def wsX4_keystone_r3 : List Cond := [Cond.instanceMethod yX3_settleAll, Cond.selects RX3 yX3_settleAll yX3_settleAll, Cond.code yX3_settleAll cX3_settleAll 7 (some .int), Cond.methodLink RX3 85 yX3_freeSteps, Cond.instanceMethod yX3_freeSteps, Cond.selects RX3 yX3_freeSteps yX3_freeSteps, Cond.code yX3_freeSteps cX3_freeSteps 5 (some .int), Cond.fieldLink RX3 22 "JammedBodies$Packing" "ghost" "LJammedBodies$Body;", Cond.static yX4_stepX, Cond.code yX4_stepX cX4_stepX 1 (some .int), Cond.fieldLink RX4 203 "JammedBodies" "STEP_X" "[I", Cond.static yX4_stepY, Cond.code yX4_stepY cX4_stepY 1 (some .int), Cond.fieldLink RX4 207 "JammedBodies" "STEP_Y" "[I", Cond.methodLink RX3 77 yX0_move, Cond.instanceMethod yX0_move, Cond.selects RX0 yX0_move yX0_move, Cond.code yX0_move cX0_move 4 none, Cond.methodLink RX3 43 yX0_wallsBeyond, Cond.instanceMethod yX0_wallsBeyond, Cond.selects RX0 yX0_wallsBeyond yX0_wallsBeyond, Cond.code yX0_wallsBeyond cX0_wallsBeyond 4 (some .int), Cond.methodLink RX0 33 yX0_left, Cond.instanceMethod yX0_left]
def wsX4_keystone_r4 : List Cond := [Cond.selects RX0 yX0_left yX0_left, Cond.code yX0_left cX0_left 3 (some .int), Cond.methodLink RX0 43 Lib.Math.min.name, Cond.static Lib.Math.min.name, Cond.initialized "java/lang/Math", Cond.code Lib.Math.min.name Lib.Math.min.code 2 (some .int), Cond.methodLink RX0 55 yX0_right, Cond.instanceMethod yX0_right, Cond.selects RX0 yX0_right yX0_right, Cond.code yX0_right cX0_right 3 (some .int), Cond.methodLink RX0 49 Lib.Math.max.name, Cond.static Lib.Math.max.name, Cond.code Lib.Math.max.name Lib.Math.max.code 2 (some .int), Cond.methodLink RX0 37 yX0_low, Cond.instanceMethod yX0_low, Cond.selects RX0 yX0_low yX0_low, Cond.code yX0_low cX0_low 3 (some .int), Cond.methodLink RX0 40 yX0_high, Cond.instanceMethod yX0_high, Cond.selects RX0 yX0_high yX0_high, Cond.code yX0_high cX0_high 3 (some .int), Cond.methodLink RX3 81 yX3_overlapped, Cond.instanceMethod yX3_overlapped, Cond.selects RX3 yX3_overlapped yX3_overlapped]
def wsX4_keystone_r5 : List Cond := [Cond.code yX3_overlapped cX3_overlapped 5 (some .int), Cond.methodLink RX3 47 yX0_leastReach, Cond.instanceMethod yX0_leastReach, Cond.selects RX0 yX0_leastReach yX0_leastReach, Cond.code yX0_leastReach cX0_leastReach 4 (some .int), Cond.methodLink RX0 63 yX0_reach, Cond.instanceMethod yX0_reach, Cond.selects RX0 yX0_reach yX0_reach, Cond.code yX0_reach cX0_reach 10 (some .int), Cond.constant RX0 58 (-1000000), Cond.methodLink RX0 52 yX0_following, Cond.instanceMethod yX0_following, Cond.selects RX0 yX0_following yX0_following, Cond.code yX0_following cX0_following 2 (some .int), Cond.static yX4_cross, Cond.code yX4_cross cX4_cross 6 (some .int), Cond.methodLink RX3 92 yX3_shift, Cond.instanceMethod yX3_shift, Cond.selects RX3 yX3_shift yX3_shift, Cond.code yX3_shift cX3_shift 4 none]
def wsX4_keystone : List Cond := .code yX4_keystone cX4_keystone 7 (some .int) :: ((wsX4_keystone_r1 ++ (wsX4_keystone_r2 ++ (wsX4_keystone_r3 ++ (wsX4_keystone_r4 ++ wsX4_keystone_r5)))) ++ wsX40 ++ wsX30 ++ wsX00)
def wsX4_count_r1 : List Cond := [Cond.fieldLink RX4 10 "JammedBodies" "packing" "LJammedBodies$Packing;", Cond.fieldLink RX4 60 "JammedBodies$Packing" "size" "I", Cond.fieldLink RX4 47 "JammedBodies$Packing" "width" "I", Cond.fieldLink RX4 51 "JammedBodies$Packing" "height" "I", Cond.fieldLink RX4 22 "JammedBodies" "history" "LJammedBodies$History;", Cond.fieldLink RX4 186 "JammedBodies$History" "size" "I", Cond.fieldLink RX4 29 "JammedBodies" "text" "LJammedBodies$BodyText;", Cond.fieldLink RX4 187 "JammedBodies$BodyText" "length" "I", Cond.constant RX4 37 (-1000001), Cond.methodLink RX4 172 yX3_doubleArea, Cond.instanceMethod yX3_doubleArea, Cond.selects RX3 yX3_doubleArea yX3_doubleArea, Cond.initialized RX3, Cond.code yX3_doubleArea cX3_doubleArea 3 (some .int), Cond.fieldLink RX3 25 "JammedBodies$Packing" "size" "I", Cond.methodLink RX3 35 yX3_at, Cond.instanceMethod yX3_at, Cond.selects RX3 yX3_at yX3_at, Cond.code yX3_at cX3_at 2 (some (.object "JammedBodies$Body")), Cond.fieldLink RX3 11 "JammedBodies$Packing" "row" "[LJammedBodies$Body;", Cond.fieldLink RX3 18 "JammedBodies$Packing" "nobody" "LJammedBodies$Body;", Cond.methodLink RX3 96 yX0_doubleArea, Cond.instanceMethod yX0_doubleArea, Cond.selects RX0 yX0_doubleArea yX0_doubleArea]
def wsX4_count_r2 : List Cond := [Cond.initialized RX0, Cond.code yX0_doubleArea cX0_doubleArea 4 (some .int), Cond.fieldLink RX0 18 "JammedBodies$Body" "corners" "I", Cond.methodLink RX0 52 yX0_following, Cond.instanceMethod yX0_following, Cond.selects RX0 yX0_following yX0_following, Cond.code yX0_following cX0_following 2 (some .int), Cond.methodLink RX0 26 yX0_x, Cond.instanceMethod yX0_x, Cond.selects RX0 yX0_x yX0_x, Cond.code yX0_x cX0_x 2 (some .int), Cond.fieldLink RX0 9 "JammedBodies$Body" "xs" "[I", Cond.methodLink RX0 30 yX0_y, Cond.instanceMethod yX0_y, Cond.selects RX0 yX0_y yX0_y, Cond.code yX0_y cX0_y 2 (some .int), Cond.fieldLink RX0 15 "JammedBodies$Body" "ys" "[I", Cond.methodLink RX4 180 yX3_allCorners, Cond.instanceMethod yX3_allCorners, Cond.selects RX3 yX3_allCorners yX3_allCorners, Cond.code yX3_allCorners cX3_allCorners 3 (some .int), Cond.fieldLink RX3 100 "JammedBodies$Body" "corners" "I", Cond.methodLink RX4 183 yX3_touchingPairs, Cond.instanceMethod yX3_touchingPairs]
def wsX4_count_r3 : List Cond := [Cond.selects RX3 yX3_touchingPairs yX3_touchingPairs, Cond.code yX3_touchingPairs cX3_touchingPairs 3 (some .int), Cond.methodLink RX3 56 yX3_touching, Cond.instanceMethod yX3_touching, Cond.selects RX3 yX3_touching yX3_touching, Cond.code yX3_touching cX3_touching 5 (some .int), Cond.methodLink RX3 51 Lib.Math.min.name, Cond.static Lib.Math.min.name, Cond.initialized "java/lang/Math", Cond.code Lib.Math.min.name Lib.Math.min.code 2 (some .int), Cond.methodLink RX3 47 yX0_leastReach, Cond.instanceMethod yX0_leastReach, Cond.selects RX0 yX0_leastReach yX0_leastReach, Cond.code yX0_leastReach cX0_leastReach 4 (some .int), Cond.methodLink RX0 43 Lib.Math.min.name, Cond.methodLink RX0 63 yX0_reach, Cond.instanceMethod yX0_reach, Cond.selects RX0 yX0_reach yX0_reach, Cond.code yX0_reach cX0_reach 10 (some .int), Cond.constant RX0 58 (-1000000), Cond.methodLink RX0 49 Lib.Math.max.name, Cond.static Lib.Math.max.name, Cond.code Lib.Math.max.name Lib.Math.max.code 2 (some .int), Cond.static yX4_cross]
def wsX4_count_r4 : List Cond := [Cond.initialized RX4, Cond.code yX4_cross cX4_cross 6 (some .int), Cond.methodLink RX3 60 yJ6_bitCount_0f7a4, Cond.static yJ6_bitCount_0f7a4, Cond.initialized RJ6, Cond.code yJ6_bitCount_0f7a4 cJ6_bitCount_0f7a4 1 (some .int), Cond.constant RJ6 265 (1431655765), Cond.constant RJ6 266 (858993459), Cond.constant RJ6 267 (252645135)]
def wsX4_count : List Cond := .code yX4_count cX4_count 2 (some .int) :: ((wsX4_count_r1 ++ (wsX4_count_r2 ++ (wsX4_count_r3 ++ wsX4_count_r4))) ++ wsX40 ++ wsX30 ++ wsX20 ++ wsX10 ++ wsX00)
def wsX4_undo_r1 : List Cond := [Cond.fieldLink RX4 22 "JammedBodies" "history" "LJammedBodies$History;", Cond.fieldLink RX4 186 "JammedBodies$History" "size" "I", Cond.constant RX4 42 (-1000002), Cond.fieldLink RX4 10 "JammedBodies" "packing" "LJammedBodies$Packing;", Cond.methodLink RX4 190 yX2_restore, Cond.instanceMethod yX2_restore, Cond.selects RX2 yX2_restore yX2_restore, Cond.initialized RX2, Cond.code yX2_restore cX2_restore 2 none, Cond.fieldLink RX2 26 "JammedBodies$History" "size" "I", Cond.methodLink RX2 29 yX2_at, Cond.instanceMethod yX2_at, Cond.selects RX2 yX2_at yX2_at, Cond.code yX2_at cX2_at 3 (some (.object "JammedBodies$Packing")), Cond.fieldLink RX2 22 "JammedBodies$History" "oldest" "I", Cond.fieldLink RX2 11 "JammedBodies$History" "ring" "[LJammedBodies$Packing;", Cond.fieldLink RX2 18 "JammedBodies$History" "none" "LJammedBodies$Packing;", Cond.methodLink RX2 33 yX3_copyFrom, Cond.instanceMethod yX3_copyFrom, Cond.selects RX3 yX3_copyFrom yX3_copyFrom, Cond.initialized RX3, Cond.code yX3_copyFrom cX3_copyFrom 3 none, Cond.fieldLink RX3 25 "JammedBodies$Packing" "size" "I", Cond.fieldLink RX3 29 "JammedBodies$Packing" "width" "I"]
def wsX4_undo_r2 : List Cond := [Cond.fieldLink RX3 32 "JammedBodies$Packing" "height" "I", Cond.methodLink RX3 35 yX3_at, Cond.instanceMethod yX3_at, Cond.selects RX3 yX3_at yX3_at, Cond.code yX3_at cX3_at 2 (some (.object "JammedBodies$Body")), Cond.fieldLink RX3 11 "JammedBodies$Packing" "row" "[LJammedBodies$Body;", Cond.fieldLink RX3 18 "JammedBodies$Packing" "nobody" "LJammedBodies$Body;", Cond.methodLink RX3 39 yX0_copyFrom, Cond.instanceMethod yX0_copyFrom, Cond.selects RX0 yX0_copyFrom yX0_copyFrom, Cond.initialized RX0, Cond.code yX0_copyFrom cX0_copyFrom 3 none, Cond.fieldLink RX0 18 "JammedBodies$Body" "corners" "I", Cond.methodLink RX0 26 yX0_x, Cond.instanceMethod yX0_x, Cond.selects RX0 yX0_x yX0_x, Cond.code yX0_x cX0_x 2 (some .int), Cond.fieldLink RX0 9 "JammedBodies$Body" "xs" "[I", Cond.methodLink RX0 30 yX0_y, Cond.instanceMethod yX0_y, Cond.selects RX0 yX0_y yX0_y, Cond.code yX0_y cX0_y 2 (some .int), Cond.fieldLink RX0 15 "JammedBodies$Body" "ys" "[I", Cond.methodLink RX0 22 yX0_place]
def wsX4_undo_r3 : List Cond := [Cond.instanceMethod yX0_place, Cond.selects RX0 yX0_place yX0_place, Cond.code yX0_place cX0_place 4 none]
def wsX4_undo : List Cond := .code yX4_undo cX4_undo 1 (some .int) :: ((wsX4_undo_r1 ++ (wsX4_undo_r2 ++ wsX4_undo_r3)) ++ wsX40 ++ wsX20 ++ wsX30 ++ wsX00)
def wsX4_type : List Cond := .code yX4_type cX4_type 2 (some .int) :: ([.constant RX4 37 (-1000001), .fieldLink RX4 29 "JammedBodies" "text" "LJammedBodies$BodyText;", .fieldLink RX4 187 "JammedBodies$BodyText" "length" "I", .constant RX4 63 (-1000003), .methodLink RX4 193 yX1_append, .instanceMethod yX1_append, .selects RX1 yX1_append yX1_append, .initialized RX1, .code yX1_append cX1_append 2 none, .fieldLink RX1 26 "JammedBodies$BodyText" "length" "I", .fieldLink RX1 9 "JammedBodies$BodyText" "signs" "[C"] ++ wsX40 ++ wsX10)
def wsX4_clearText : List Cond := .code yX4_clearText cX4_clearText 2 (some .int) :: ([.fieldLink RX4 29 "JammedBodies" "text" "LJammedBodies$BodyText;", .fieldLink RX4 187 "JammedBodies$BodyText" "length" "I"] ++ wsX40 ++ wsX10)
def wsX4_fault_r1 : List Cond := [Cond.constant RX4 37 (-1000001), Cond.fieldLink RX4 29 "JammedBodies" "text" "LJammedBodies$BodyText;", Cond.fieldLink RX4 10 "JammedBodies" "packing" "LJammedBodies$Packing;", Cond.fieldLink RX4 57 "JammedBodies$BodyText" "reason" "I", Cond.constant RX4 171 (-1000004), Cond.fieldLink RX4 197 "JammedBodies$BodyText" "place" "I", Cond.fieldLink RX4 200 "JammedBodies$BodyText" "cause" "I", Cond.methodLink RX4 54 yX1_examine, Cond.instanceMethod yX1_examine, Cond.selects RX1 yX1_examine yX1_examine, Cond.initialized RX1, Cond.code yX1_examine cX1_examine 5 none, Cond.fieldLink RX1 22 "JammedBodies$BodyText" "cursor" "I", Cond.fieldLink RX1 18 "JammedBodies$BodyText" "told" "LJammedBodies$Body;", Cond.fieldLink RX1 46 "JammedBodies$Packing" "width" "I", Cond.fieldLink RX1 51 "JammedBodies$Packing" "height" "I", Cond.methodLink RX1 38 yX1_find, Cond.instanceMethod yX1_find, Cond.selects RX1 yX1_find yX1_find, Cond.code yX1_find cX1_find 4 none, Cond.fieldLink RX1 29 "JammedBodies$BodyText" "place" "I", Cond.fieldLink RX1 32 "JammedBodies$BodyText" "reason" "I", Cond.fieldLink RX1 35 "JammedBodies$BodyText" "cause" "I", Cond.methodLink RX1 42 yX1_readForm]
def wsX4_fault_r2 : List Cond := [Cond.instanceMethod yX1_readForm, Cond.selects RX1 yX1_readForm yX1_readForm, Cond.code yX1_readForm cX1_readForm 4 (some .boolean), Cond.fieldLink RX1 70 "JammedBodies$Body" "corners" "I", Cond.fieldLink RX1 26 "JammedBodies$BodyText" "length" "I", Cond.methodLink RX1 73 yX1_takes, Cond.instanceMethod yX1_takes, Cond.selects RX1 yX1_takes yX1_takes, Cond.code yX1_takes cX1_takes 3 (some .boolean), Cond.methodLink RX1 84 yX1_sign, Cond.instanceMethod yX1_sign, Cond.selects RX1 yX1_sign yX1_sign, Cond.code yX1_sign cX1_sign 1 (some .char), Cond.fieldLink RX1 9 "JammedBodies$BodyText" "signs" "[C", Cond.methodLink RX1 77 yX1_takeNumber, Cond.instanceMethod yX1_takeNumber, Cond.selects RX1 yX1_takeNumber yX1_takeNumber, Cond.code yX1_takeNumber cX1_takeNumber 3 (some .int), Cond.methodLink RX1 88 yX1_takeDigit, Cond.instanceMethod yX1_takeDigit, Cond.selects RX1 yX1_takeDigit yX1_takeDigit, Cond.code yX1_takeDigit cX1_takeDigit 2 (some .int), Cond.methodLink RX1 80 yX0_addCorner, Cond.instanceMethod yX0_addCorner]
def wsX4_fault_r3 : List Cond := [Cond.selects RX0 yX0_addCorner yX0_addCorner, Cond.initialized RX0, Cond.code yX0_addCorner cX0_addCorner 3 none, Cond.fieldLink RX0 18 "JammedBodies$Body" "corners" "I", Cond.methodLink RX0 22 yX0_place, Cond.instanceMethod yX0_place, Cond.selects RX0 yX0_place yX0_place, Cond.code yX0_place cX0_place 4 none, Cond.fieldLink RX0 9 "JammedBodies$Body" "xs" "[I", Cond.fieldLink RX0 15 "JammedBodies$Body" "ys" "[I", Cond.methodLink RX1 54 yX0_cornerOutside, Cond.instanceMethod yX0_cornerOutside, Cond.selects RX0 yX0_cornerOutside yX0_cornerOutside, Cond.code yX0_cornerOutside cX0_cornerOutside 4 (some .int), Cond.methodLink RX0 26 yX0_x, Cond.instanceMethod yX0_x, Cond.selects RX0 yX0_x yX0_x, Cond.code yX0_x cX0_x 2 (some .int), Cond.methodLink RX0 30 yX0_y, Cond.instanceMethod yX0_y, Cond.selects RX0 yX0_y yX0_y, Cond.code yX0_y cX0_y 2 (some .int), Cond.methodLink RX1 58 yX0_causeOfShape, Cond.instanceMethod yX0_causeOfShape]
def wsX4_fault_r4 : List Cond := [Cond.selects RX0 yX0_causeOfShape yX0_causeOfShape, Cond.code yX0_causeOfShape cX0_causeOfShape 4 (some .int), Cond.methodLink RX0 52 yX0_following, Cond.instanceMethod yX0_following, Cond.selects RX0 yX0_following yX0_following, Cond.code yX0_following cX0_following 2 (some .int), Cond.static yX4_cross, Cond.initialized RX4, Cond.code yX4_cross cX4_cross 6 (some .int), Cond.methodLink RX0 67 yX0_timesRound, Cond.instanceMethod yX0_timesRound, Cond.selects RX0 yX0_timesRound yX0_timesRound, Cond.code yX0_timesRound cX0_timesRound 3 (some .int), Cond.methodLink RX0 70 yX0_pointsUp, Cond.instanceMethod yX0_pointsUp, Cond.selects RX0 yX0_pointsUp yX0_pointsUp, Cond.code yX0_pointsUp cX0_pointsUp 3 (some .boolean), Cond.methodLink RX1 62 yX3_overlapped, Cond.instanceMethod yX3_overlapped, Cond.selects RX3 yX3_overlapped yX3_overlapped, Cond.initialized RX3, Cond.code yX3_overlapped cX3_overlapped 5 (some .int), Cond.fieldLink RX3 25 "JammedBodies$Packing" "size" "I", Cond.methodLink RX3 35 yX3_at]
def wsX4_fault_r5 : List Cond := [Cond.instanceMethod yX3_at, Cond.selects RX3 yX3_at yX3_at, Cond.code yX3_at cX3_at 2 (some (.object "JammedBodies$Body")), Cond.fieldLink RX3 11 "JammedBodies$Packing" "row" "[LJammedBodies$Body;", Cond.fieldLink RX3 18 "JammedBodies$Packing" "nobody" "LJammedBodies$Body;", Cond.methodLink RX3 47 yX0_leastReach, Cond.instanceMethod yX0_leastReach, Cond.selects RX0 yX0_leastReach yX0_leastReach, Cond.code yX0_leastReach cX0_leastReach 4 (some .int), Cond.methodLink RX0 43 Lib.Math.min.name, Cond.static Lib.Math.min.name, Cond.initialized "java/lang/Math", Cond.code Lib.Math.min.name Lib.Math.min.code 2 (some .int), Cond.methodLink RX0 63 yX0_reach, Cond.instanceMethod yX0_reach, Cond.selects RX0 yX0_reach yX0_reach, Cond.code yX0_reach cX0_reach 10 (some .int), Cond.constant RX0 58 (-1000000), Cond.methodLink RX0 49 Lib.Math.max.name, Cond.static Lib.Math.max.name, Cond.code Lib.Math.max.name Lib.Math.max.code 2 (some .int), Cond.static yX4_lowest, Cond.code yX4_lowest cX4_lowest 2 (some .int)]
def wsX4_fault : List Cond := .code yX4_fault cX4_fault 2 (some .int) :: ((wsX4_fault_r1 ++ (wsX4_fault_r2 ++ (wsX4_fault_r3 ++ (wsX4_fault_r4 ++ wsX4_fault_r5)))) ++ wsX40 ++ wsX10 ++ wsX30 ++ wsX00)
def wsX5_init : List Cond := .code yX5_init cX5_init 1 none :: ([.methodLink RX5 1 objectInit, .instanceMethod objectInit, .code objectInit ⟨#[0xb1]⟩ 1 none, .arrayClass .int, .fieldLink RX5 7 "JammedBodiesModel" "all" "[I", .fieldLink RX5 13 "JammedBodiesModel" "history" "[I", .fieldLink RX5 16 "JammedBodiesModel" "kept" "[I", .fieldLink RX5 19 "JammedBodiesModel" "text" "[I"] ++ wsX50)
def wsX5_in : List Cond := .code yX5_in cX5_in 6 (some .boolean) :: ([])
def wsX5_keep : List Cond := .code yX5_keep cX5_keep 2 none :: ([.fieldLink RX5 16 "JammedBodiesModel" "kept" "[I", .fieldLink RX5 7 "JammedBodiesModel" "all" "[I"] ++ wsX50)
def wsX5_giveBack : List Cond := .code yX5_giveBack cX5_giveBack 2 none :: ([.fieldLink RX5 7 "JammedBodiesModel" "all" "[I", .fieldLink RX5 16 "JammedBodiesModel" "kept" "[I"] ++ wsX50)
def wsX5_changed : List Cond := .code yX5_changed cX5_changed 3 (some .int) :: ([.fieldLink RX5 22 "JammedBodiesModel" "historyLong" "I", .fieldLink RX5 13 "JammedBodiesModel" "history" "[I", .fieldLink RX5 16 "JammedBodiesModel" "kept" "[I"] ++ wsX50)
def wsX5_isBody : List Cond := .code yX5_isBody cX5_isBody 2 (some .boolean) :: ([.fieldLink RX5 7 "JammedBodiesModel" "all" "[I", .methodLink RX5 26 yX5_in, .static yX5_in, .initialized RX5, .code yX5_in cX5_in 6 (some .boolean)] ++ wsX50)
def wsX5_corners : List Cond := .code yX5_corners cX5_corners 2 (some .int) :: ([.fieldLink RX5 7 "JammedBodiesModel" "all" "[I"] ++ wsX50)
def wsX5_x : List Cond := .code yX5_x cX5_x 3 (some .int) :: ([.fieldLink RX5 7 "JammedBodiesModel" "all" "[I", .methodLink RX5 30 yX5_corners, .instanceMethod yX5_corners, .selects RX5 yX5_corners yX5_corners, .initialized RX5, .code yX5_corners cX5_corners 2 (some .int)] ++ wsX50)
def wsX5_y : List Cond := .code yX5_y cX5_y 3 (some .int) :: ([.fieldLink RX5 7 "JammedBodiesModel" "all" "[I", .methodLink RX5 30 yX5_corners, .instanceMethod yX5_corners, .selects RX5 yX5_corners yX5_corners, .initialized RX5, .code yX5_corners cX5_corners 2 (some .int)] ++ wsX50)
def wsX5_moves : List Cond := .code yX5_moves cX5_moves 5 none :: ([.fieldLink RX5 7 "JammedBodiesModel" "all" "[I", .methodLink RX5 30 yX5_corners, .instanceMethod yX5_corners, .selects RX5 yX5_corners yX5_corners, .initialized RX5, .code yX5_corners cX5_corners 2 (some .int)] ++ wsX50)
def wsX5_side : List Cond := .code yX5_side cX5_side 7 (some .int) :: ([.methodLink RX5 34 yX5_x, .instanceMethod yX5_x, .selects RX5 yX5_x yX5_x, .initialized RX5, .code yX5_x cX5_x 3 (some .int), .fieldLink RX5 7 "JammedBodiesModel" "all" "[I", .methodLink RX5 30 yX5_corners, .instanceMethod yX5_corners, .selects RX5 yX5_corners yX5_corners, .code yX5_corners cX5_corners 2 (some .int), .methodLink RX5 38 yX5_y, .instanceMethod yX5_y, .selects RX5 yX5_y yX5_y, .code yX5_y cX5_y 3 (some .int)] ++ wsX50)
def wsX5_nearest : List Cond := .code yX5_nearest cX5_nearest 6 (some .int) :: ([.methodLink RX5 30 yX5_corners, .instanceMethod yX5_corners, .selects RX5 yX5_corners yX5_corners, .initialized RX5, .code yX5_corners cX5_corners 2 (some .int), .fieldLink RX5 7 "JammedBodiesModel" "all" "[I", .methodLink RX5 41 yX5_side, .instanceMethod yX5_side, .selects RX5 yX5_side yX5_side, .code yX5_side cX5_side 7 (some .int), .methodLink RX5 34 yX5_x, .instanceMethod yX5_x, .selects RX5 yX5_x yX5_x, .code yX5_x cX5_x 3 (some .int), .methodLink RX5 38 yX5_y, .instanceMethod yX5_y, .selects RX5 yX5_y yX5_y, .code yX5_y cX5_y 3 (some .int)] ++ wsX50)
def wsX5_parting : List Cond := .code yX5_parting cX5_parting 5 (some .int) :: ([.methodLink RX5 30 yX5_corners, .instanceMethod yX5_corners, .selects RX5 yX5_corners yX5_corners, .initialized RX5, .code yX5_corners cX5_corners 2 (some .int), .fieldLink RX5 7 "JammedBodiesModel" "all" "[I", .methodLink RX5 45 yX5_nearest, .instanceMethod yX5_nearest, .selects RX5 yX5_nearest yX5_nearest, .code yX5_nearest cX5_nearest 6 (some .int), .methodLink RX5 41 yX5_side, .instanceMethod yX5_side, .selects RX5 yX5_side yX5_side, .code yX5_side cX5_side 7 (some .int), .methodLink RX5 34 yX5_x, .instanceMethod yX5_x, .selects RX5 yX5_x yX5_x, .code yX5_x cX5_x 3 (some .int), .methodLink RX5 38 yX5_y, .instanceMethod yX5_y, .selects RX5 yX5_y yX5_y, .code yX5_y cX5_y 3 (some .int)] ++ wsX50)
def wsX5_isParted_r1 : List Cond := [Cond.methodLink RX5 49 yX5_parting, Cond.instanceMethod yX5_parting, Cond.selects RX5 yX5_parting yX5_parting, Cond.initialized RX5, Cond.code yX5_parting cX5_parting 5 (some .int), Cond.methodLink RX5 30 yX5_corners, Cond.instanceMethod yX5_corners, Cond.selects RX5 yX5_corners yX5_corners, Cond.code yX5_corners cX5_corners 2 (some .int), Cond.fieldLink RX5 7 "JammedBodiesModel" "all" "[I", Cond.methodLink RX5 45 yX5_nearest, Cond.instanceMethod yX5_nearest, Cond.selects RX5 yX5_nearest yX5_nearest, Cond.code yX5_nearest cX5_nearest 6 (some .int), Cond.methodLink RX5 41 yX5_side, Cond.instanceMethod yX5_side, Cond.selects RX5 yX5_side yX5_side, Cond.code yX5_side cX5_side 7 (some .int), Cond.methodLink RX5 34 yX5_x, Cond.instanceMethod yX5_x, Cond.selects RX5 yX5_x yX5_x, Cond.code yX5_x cX5_x 3 (some .int), Cond.methodLink RX5 38 yX5_y, Cond.instanceMethod yX5_y]
def wsX5_isParted_r2 : List Cond := [Cond.selects RX5 yX5_y yX5_y, Cond.code yX5_y cX5_y 3 (some .int)]
def wsX5_isParted : List Cond := .code yX5_isParted cX5_isParted 4 (some .boolean) :: ((wsX5_isParted_r1 ++ wsX5_isParted_r2) ++ wsX50)
def wsX5_touch_r1 : List Cond := [Cond.methodLink RX5 52 yX5_isParted, Cond.instanceMethod yX5_isParted, Cond.selects RX5 yX5_isParted yX5_isParted, Cond.initialized RX5, Cond.code yX5_isParted cX5_isParted 4 (some .boolean), Cond.methodLink RX5 49 yX5_parting, Cond.instanceMethod yX5_parting, Cond.selects RX5 yX5_parting yX5_parting, Cond.code yX5_parting cX5_parting 5 (some .int), Cond.methodLink RX5 30 yX5_corners, Cond.instanceMethod yX5_corners, Cond.selects RX5 yX5_corners yX5_corners, Cond.code yX5_corners cX5_corners 2 (some .int), Cond.fieldLink RX5 7 "JammedBodiesModel" "all" "[I", Cond.methodLink RX5 45 yX5_nearest, Cond.instanceMethod yX5_nearest, Cond.selects RX5 yX5_nearest yX5_nearest, Cond.code yX5_nearest cX5_nearest 6 (some .int), Cond.methodLink RX5 41 yX5_side, Cond.instanceMethod yX5_side, Cond.selects RX5 yX5_side yX5_side, Cond.code yX5_side cX5_side 7 (some .int), Cond.methodLink RX5 34 yX5_x, Cond.instanceMethod yX5_x]
def wsX5_touch_r2 : List Cond := [Cond.selects RX5 yX5_x yX5_x, Cond.code yX5_x cX5_x 3 (some .int), Cond.methodLink RX5 38 yX5_y, Cond.instanceMethod yX5_y, Cond.selects RX5 yX5_y yX5_y, Cond.code yX5_y cX5_y 3 (some .int)]
def wsX5_touch : List Cond := .code yX5_touch cX5_touch 3 (some .boolean) :: ((wsX5_touch_r1 ++ wsX5_touch_r2) ++ wsX50)
def wsX5_overlapped_r1 : List Cond := [Cond.fieldLink RX5 7 "JammedBodiesModel" "all" "[I", Cond.methodLink RX5 52 yX5_isParted, Cond.instanceMethod yX5_isParted, Cond.selects RX5 yX5_isParted yX5_isParted, Cond.initialized RX5, Cond.code yX5_isParted cX5_isParted 4 (some .boolean), Cond.methodLink RX5 49 yX5_parting, Cond.instanceMethod yX5_parting, Cond.selects RX5 yX5_parting yX5_parting, Cond.code yX5_parting cX5_parting 5 (some .int), Cond.methodLink RX5 30 yX5_corners, Cond.instanceMethod yX5_corners, Cond.selects RX5 yX5_corners yX5_corners, Cond.code yX5_corners cX5_corners 2 (some .int), Cond.methodLink RX5 45 yX5_nearest, Cond.instanceMethod yX5_nearest, Cond.selects RX5 yX5_nearest yX5_nearest, Cond.code yX5_nearest cX5_nearest 6 (some .int), Cond.methodLink RX5 41 yX5_side, Cond.instanceMethod yX5_side, Cond.selects RX5 yX5_side yX5_side, Cond.code yX5_side cX5_side 7 (some .int), Cond.methodLink RX5 34 yX5_x, Cond.instanceMethod yX5_x]
def wsX5_overlapped_r2 : List Cond := [Cond.selects RX5 yX5_x yX5_x, Cond.code yX5_x cX5_x 3 (some .int), Cond.methodLink RX5 38 yX5_y, Cond.instanceMethod yX5_y, Cond.selects RX5 yX5_y yX5_y, Cond.code yX5_y cX5_y 3 (some .int)]
def wsX5_overlapped : List Cond := .code yX5_overlapped cX5_overlapped 4 (some .int) :: ((wsX5_overlapped_r1 ++ wsX5_overlapped_r2) ++ wsX50)
def wsX5_touched_r1 : List Cond := [Cond.fieldLink RX5 7 "JammedBodiesModel" "all" "[I", Cond.methodLink RX5 56 yX5_touch, Cond.instanceMethod yX5_touch, Cond.selects RX5 yX5_touch yX5_touch, Cond.initialized RX5, Cond.code yX5_touch cX5_touch 3 (some .boolean), Cond.methodLink RX5 52 yX5_isParted, Cond.instanceMethod yX5_isParted, Cond.selects RX5 yX5_isParted yX5_isParted, Cond.code yX5_isParted cX5_isParted 4 (some .boolean), Cond.methodLink RX5 49 yX5_parting, Cond.instanceMethod yX5_parting, Cond.selects RX5 yX5_parting yX5_parting, Cond.code yX5_parting cX5_parting 5 (some .int), Cond.methodLink RX5 30 yX5_corners, Cond.instanceMethod yX5_corners, Cond.selects RX5 yX5_corners yX5_corners, Cond.code yX5_corners cX5_corners 2 (some .int), Cond.methodLink RX5 45 yX5_nearest, Cond.instanceMethod yX5_nearest, Cond.selects RX5 yX5_nearest yX5_nearest, Cond.code yX5_nearest cX5_nearest 6 (some .int), Cond.methodLink RX5 41 yX5_side, Cond.instanceMethod yX5_side]
def wsX5_touched_r2 : List Cond := [Cond.selects RX5 yX5_side yX5_side, Cond.code yX5_side cX5_side 7 (some .int), Cond.methodLink RX5 34 yX5_x, Cond.instanceMethod yX5_x, Cond.selects RX5 yX5_x yX5_x, Cond.code yX5_x cX5_x 3 (some .int), Cond.methodLink RX5 38 yX5_y, Cond.instanceMethod yX5_y, Cond.selects RX5 yX5_y yX5_y, Cond.code yX5_y cX5_y 3 (some .int)]
def wsX5_touched : List Cond := .code yX5_touched cX5_touched 4 (some .int) :: ((wsX5_touched_r1 ++ wsX5_touched_r2) ++ wsX50)
def wsX5_extreme : List Cond := .code yX5_extreme cX5_extreme 7 (some .int) :: ([.fieldLink RX5 7 "JammedBodiesModel" "all" "[I", .methodLink RX5 30 yX5_corners, .instanceMethod yX5_corners, .selects RX5 yX5_corners yX5_corners, .initialized RX5, .code yX5_corners cX5_corners 2 (some .int)] ++ wsX50)
def wsX5_leastX : List Cond := .code yX5_leastX cX5_leastX 2 (some .int) :: ([.methodLink RX5 60 yX5_extreme, .instanceMethod yX5_extreme, .selects RX5 yX5_extreme yX5_extreme, .initialized RX5, .code yX5_extreme cX5_extreme 7 (some .int), .fieldLink RX5 7 "JammedBodiesModel" "all" "[I", .methodLink RX5 30 yX5_corners, .instanceMethod yX5_corners, .selects RX5 yX5_corners yX5_corners, .code yX5_corners cX5_corners 2 (some .int)] ++ wsX50)
def wsX5_greatestX : List Cond := .code yX5_greatestX cX5_greatestX 2 (some .int) :: ([.methodLink RX5 60 yX5_extreme, .instanceMethod yX5_extreme, .selects RX5 yX5_extreme yX5_extreme, .initialized RX5, .code yX5_extreme cX5_extreme 7 (some .int), .fieldLink RX5 7 "JammedBodiesModel" "all" "[I", .methodLink RX5 30 yX5_corners, .instanceMethod yX5_corners, .selects RX5 yX5_corners yX5_corners, .code yX5_corners cX5_corners 2 (some .int)] ++ wsX50)
def wsX5_leastY : List Cond := .code yX5_leastY cX5_leastY 2 (some .int) :: ([.methodLink RX5 60 yX5_extreme, .instanceMethod yX5_extreme, .selects RX5 yX5_extreme yX5_extreme, .initialized RX5, .code yX5_extreme cX5_extreme 7 (some .int), .fieldLink RX5 7 "JammedBodiesModel" "all" "[I", .methodLink RX5 30 yX5_corners, .instanceMethod yX5_corners, .selects RX5 yX5_corners yX5_corners, .code yX5_corners cX5_corners 2 (some .int)] ++ wsX50)
def wsX5_greatestY : List Cond := .code yX5_greatestY cX5_greatestY 2 (some .int) :: ([.methodLink RX5 60 yX5_extreme, .instanceMethod yX5_extreme, .selects RX5 yX5_extreme yX5_extreme, .initialized RX5, .code yX5_extreme cX5_extreme 7 (some .int), .fieldLink RX5 7 "JammedBodiesModel" "all" "[I", .methodLink RX5 30 yX5_corners, .instanceMethod yX5_corners, .selects RX5 yX5_corners yX5_corners, .code yX5_corners cX5_corners 2 (some .int)] ++ wsX50)
def wsX5_wallsBy_r1 : List Cond := [Cond.fieldLink RX5 7 "JammedBodiesModel" "all" "[I", Cond.methodLink RX5 63 yX5_leastX, Cond.instanceMethod yX5_leastX, Cond.selects RX5 yX5_leastX yX5_leastX, Cond.initialized RX5, Cond.code yX5_leastX cX5_leastX 2 (some .int), Cond.methodLink RX5 60 yX5_extreme, Cond.instanceMethod yX5_extreme, Cond.selects RX5 yX5_extreme yX5_extreme, Cond.code yX5_extreme cX5_extreme 7 (some .int), Cond.methodLink RX5 30 yX5_corners, Cond.instanceMethod yX5_corners, Cond.selects RX5 yX5_corners yX5_corners, Cond.code yX5_corners cX5_corners 2 (some .int), Cond.methodLink RX5 66 yX5_greatestX, Cond.instanceMethod yX5_greatestX, Cond.selects RX5 yX5_greatestX yX5_greatestX, Cond.code yX5_greatestX cX5_greatestX 2 (some .int), Cond.methodLink RX5 69 yX5_leastY, Cond.instanceMethod yX5_leastY, Cond.selects RX5 yX5_leastY yX5_leastY, Cond.code yX5_leastY cX5_leastY 2 (some .int), Cond.methodLink RX5 72 yX5_greatestY, Cond.instanceMethod yX5_greatestY]
def wsX5_wallsBy_r2 : List Cond := [Cond.selects RX5 yX5_greatestY yX5_greatestY, Cond.code yX5_greatestY cX5_greatestY 2 (some .int)]
def wsX5_wallsBy : List Cond := .code yX5_wallsBy cX5_wallsBy 4 (some .int) :: ((wsX5_wallsBy_r1 ++ wsX5_wallsBy_r2) ++ wsX50)
def wsX5_fits_r1 : List Cond := [Cond.methodLink RX5 75 yX5_wallsBy, Cond.instanceMethod yX5_wallsBy, Cond.selects RX5 yX5_wallsBy yX5_wallsBy, Cond.initialized RX5, Cond.code yX5_wallsBy cX5_wallsBy 4 (some .int), Cond.fieldLink RX5 7 "JammedBodiesModel" "all" "[I", Cond.methodLink RX5 63 yX5_leastX, Cond.instanceMethod yX5_leastX, Cond.selects RX5 yX5_leastX yX5_leastX, Cond.code yX5_leastX cX5_leastX 2 (some .int), Cond.methodLink RX5 60 yX5_extreme, Cond.instanceMethod yX5_extreme, Cond.selects RX5 yX5_extreme yX5_extreme, Cond.code yX5_extreme cX5_extreme 7 (some .int), Cond.methodLink RX5 30 yX5_corners, Cond.instanceMethod yX5_corners, Cond.selects RX5 yX5_corners yX5_corners, Cond.code yX5_corners cX5_corners 2 (some .int), Cond.methodLink RX5 66 yX5_greatestX, Cond.instanceMethod yX5_greatestX, Cond.selects RX5 yX5_greatestX yX5_greatestX, Cond.code yX5_greatestX cX5_greatestX 2 (some .int), Cond.methodLink RX5 69 yX5_leastY, Cond.instanceMethod yX5_leastY]
def wsX5_fits_r2 : List Cond := [Cond.selects RX5 yX5_leastY yX5_leastY, Cond.code yX5_leastY cX5_leastY 2 (some .int), Cond.methodLink RX5 72 yX5_greatestY, Cond.instanceMethod yX5_greatestY, Cond.selects RX5 yX5_greatestY yX5_greatestY, Cond.code yX5_greatestY cX5_greatestY 2 (some .int), Cond.methodLink RX5 78 yX5_overlapped, Cond.instanceMethod yX5_overlapped, Cond.selects RX5 yX5_overlapped yX5_overlapped, Cond.code yX5_overlapped cX5_overlapped 4 (some .int), Cond.methodLink RX5 52 yX5_isParted, Cond.instanceMethod yX5_isParted, Cond.selects RX5 yX5_isParted yX5_isParted, Cond.code yX5_isParted cX5_isParted 4 (some .boolean), Cond.methodLink RX5 49 yX5_parting, Cond.instanceMethod yX5_parting, Cond.selects RX5 yX5_parting yX5_parting, Cond.code yX5_parting cX5_parting 5 (some .int), Cond.methodLink RX5 45 yX5_nearest, Cond.instanceMethod yX5_nearest, Cond.selects RX5 yX5_nearest yX5_nearest, Cond.code yX5_nearest cX5_nearest 6 (some .int), Cond.methodLink RX5 41 yX5_side, Cond.instanceMethod yX5_side]
def wsX5_fits_r3 : List Cond := [Cond.selects RX5 yX5_side yX5_side, Cond.code yX5_side cX5_side 7 (some .int), Cond.methodLink RX5 34 yX5_x, Cond.instanceMethod yX5_x, Cond.selects RX5 yX5_x yX5_x, Cond.code yX5_x cX5_x 3 (some .int), Cond.methodLink RX5 38 yX5_y, Cond.instanceMethod yX5_y, Cond.selects RX5 yX5_y yX5_y, Cond.code yX5_y cX5_y 3 (some .int)]
def wsX5_fits : List Cond := .code yX5_fits cX5_fits 2 (some .boolean) :: ((wsX5_fits_r1 ++ (wsX5_fits_r2 ++ wsX5_fits_r3)) ++ wsX50)
def wsX5_dx : List Cond := .code yX5_dx cX5_dx 1 (some .int) :: ([])
def wsX5_dy : List Cond := .code yX5_dy cX5_dy 1 (some .int) :: ([])
def wsX5_steps_r1 : List Cond := [Cond.methodLink RX5 81 yX5_dx, Cond.static yX5_dx, Cond.initialized RX5, Cond.code yX5_dx cX5_dx 1 (some .int), Cond.methodLink RX5 84 yX5_dy, Cond.static yX5_dy, Cond.code yX5_dy cX5_dy 1 (some .int), Cond.methodLink RX5 87 yX5_moves, Cond.instanceMethod yX5_moves, Cond.selects RX5 yX5_moves yX5_moves, Cond.code yX5_moves cX5_moves 5 none, Cond.fieldLink RX5 7 "JammedBodiesModel" "all" "[I", Cond.methodLink RX5 30 yX5_corners, Cond.instanceMethod yX5_corners, Cond.selects RX5 yX5_corners yX5_corners, Cond.code yX5_corners cX5_corners 2 (some .int), Cond.methodLink RX5 91 yX5_fits, Cond.instanceMethod yX5_fits, Cond.selects RX5 yX5_fits yX5_fits, Cond.code yX5_fits cX5_fits 2 (some .boolean), Cond.methodLink RX5 75 yX5_wallsBy, Cond.instanceMethod yX5_wallsBy, Cond.selects RX5 yX5_wallsBy yX5_wallsBy, Cond.code yX5_wallsBy cX5_wallsBy 4 (some .int)]
def wsX5_steps_r2 : List Cond := [Cond.methodLink RX5 63 yX5_leastX, Cond.instanceMethod yX5_leastX, Cond.selects RX5 yX5_leastX yX5_leastX, Cond.code yX5_leastX cX5_leastX 2 (some .int), Cond.methodLink RX5 60 yX5_extreme, Cond.instanceMethod yX5_extreme, Cond.selects RX5 yX5_extreme yX5_extreme, Cond.code yX5_extreme cX5_extreme 7 (some .int), Cond.methodLink RX5 66 yX5_greatestX, Cond.instanceMethod yX5_greatestX, Cond.selects RX5 yX5_greatestX yX5_greatestX, Cond.code yX5_greatestX cX5_greatestX 2 (some .int), Cond.methodLink RX5 69 yX5_leastY, Cond.instanceMethod yX5_leastY, Cond.selects RX5 yX5_leastY yX5_leastY, Cond.code yX5_leastY cX5_leastY 2 (some .int), Cond.methodLink RX5 72 yX5_greatestY, Cond.instanceMethod yX5_greatestY, Cond.selects RX5 yX5_greatestY yX5_greatestY, Cond.code yX5_greatestY cX5_greatestY 2 (some .int), Cond.methodLink RX5 78 yX5_overlapped, Cond.instanceMethod yX5_overlapped, Cond.selects RX5 yX5_overlapped yX5_overlapped, Cond.code yX5_overlapped cX5_overlapped 4 (some .int)]
def wsX5_steps_r3 : List Cond := [Cond.methodLink RX5 52 yX5_isParted, Cond.instanceMethod yX5_isParted, Cond.selects RX5 yX5_isParted yX5_isParted, Cond.code yX5_isParted cX5_isParted 4 (some .boolean), Cond.methodLink RX5 49 yX5_parting, Cond.instanceMethod yX5_parting, Cond.selects RX5 yX5_parting yX5_parting, Cond.code yX5_parting cX5_parting 5 (some .int), Cond.methodLink RX5 45 yX5_nearest, Cond.instanceMethod yX5_nearest, Cond.selects RX5 yX5_nearest yX5_nearest, Cond.code yX5_nearest cX5_nearest 6 (some .int), Cond.methodLink RX5 41 yX5_side, Cond.instanceMethod yX5_side, Cond.selects RX5 yX5_side yX5_side, Cond.code yX5_side cX5_side 7 (some .int), Cond.methodLink RX5 34 yX5_x, Cond.instanceMethod yX5_x, Cond.selects RX5 yX5_x yX5_x, Cond.code yX5_x cX5_x 3 (some .int), Cond.methodLink RX5 38 yX5_y, Cond.instanceMethod yX5_y, Cond.selects RX5 yX5_y yX5_y, Cond.code yX5_y cX5_y 3 (some .int)]
def wsX5_steps : List Cond := .code yX5_steps cX5_steps 3 (some .boolean) :: ((wsX5_steps_r1 ++ (wsX5_steps_r2 ++ wsX5_steps_r3)) ++ wsX50)
def wsX5_isFree_r1 : List Cond := [Cond.methodLink RX5 95 yX5_steps, Cond.instanceMethod yX5_steps, Cond.selects RX5 yX5_steps yX5_steps, Cond.initialized RX5, Cond.code yX5_steps cX5_steps 3 (some .boolean), Cond.methodLink RX5 81 yX5_dx, Cond.static yX5_dx, Cond.code yX5_dx cX5_dx 1 (some .int), Cond.methodLink RX5 84 yX5_dy, Cond.static yX5_dy, Cond.code yX5_dy cX5_dy 1 (some .int), Cond.methodLink RX5 87 yX5_moves, Cond.instanceMethod yX5_moves, Cond.selects RX5 yX5_moves yX5_moves, Cond.code yX5_moves cX5_moves 5 none, Cond.fieldLink RX5 7 "JammedBodiesModel" "all" "[I", Cond.methodLink RX5 30 yX5_corners, Cond.instanceMethod yX5_corners, Cond.selects RX5 yX5_corners yX5_corners, Cond.code yX5_corners cX5_corners 2 (some .int), Cond.methodLink RX5 91 yX5_fits, Cond.instanceMethod yX5_fits, Cond.selects RX5 yX5_fits yX5_fits, Cond.code yX5_fits cX5_fits 2 (some .boolean)]
def wsX5_isFree_r2 : List Cond := [Cond.methodLink RX5 75 yX5_wallsBy, Cond.instanceMethod yX5_wallsBy, Cond.selects RX5 yX5_wallsBy yX5_wallsBy, Cond.code yX5_wallsBy cX5_wallsBy 4 (some .int), Cond.methodLink RX5 63 yX5_leastX, Cond.instanceMethod yX5_leastX, Cond.selects RX5 yX5_leastX yX5_leastX, Cond.code yX5_leastX cX5_leastX 2 (some .int), Cond.methodLink RX5 60 yX5_extreme, Cond.instanceMethod yX5_extreme, Cond.selects RX5 yX5_extreme yX5_extreme, Cond.code yX5_extreme cX5_extreme 7 (some .int), Cond.methodLink RX5 66 yX5_greatestX, Cond.instanceMethod yX5_greatestX, Cond.selects RX5 yX5_greatestX yX5_greatestX, Cond.code yX5_greatestX cX5_greatestX 2 (some .int), Cond.methodLink RX5 69 yX5_leastY, Cond.instanceMethod yX5_leastY, Cond.selects RX5 yX5_leastY yX5_leastY, Cond.code yX5_leastY cX5_leastY 2 (some .int), Cond.methodLink RX5 72 yX5_greatestY, Cond.instanceMethod yX5_greatestY, Cond.selects RX5 yX5_greatestY yX5_greatestY, Cond.code yX5_greatestY cX5_greatestY 2 (some .int)]
def wsX5_isFree_r3 : List Cond := [Cond.methodLink RX5 78 yX5_overlapped, Cond.instanceMethod yX5_overlapped, Cond.selects RX5 yX5_overlapped yX5_overlapped, Cond.code yX5_overlapped cX5_overlapped 4 (some .int), Cond.methodLink RX5 52 yX5_isParted, Cond.instanceMethod yX5_isParted, Cond.selects RX5 yX5_isParted yX5_isParted, Cond.code yX5_isParted cX5_isParted 4 (some .boolean), Cond.methodLink RX5 49 yX5_parting, Cond.instanceMethod yX5_parting, Cond.selects RX5 yX5_parting yX5_parting, Cond.code yX5_parting cX5_parting 5 (some .int), Cond.methodLink RX5 45 yX5_nearest, Cond.instanceMethod yX5_nearest, Cond.selects RX5 yX5_nearest yX5_nearest, Cond.code yX5_nearest cX5_nearest 6 (some .int), Cond.methodLink RX5 41 yX5_side, Cond.instanceMethod yX5_side, Cond.selects RX5 yX5_side yX5_side, Cond.code yX5_side cX5_side 7 (some .int), Cond.methodLink RX5 34 yX5_x, Cond.instanceMethod yX5_x, Cond.selects RX5 yX5_x yX5_x, Cond.code yX5_x cX5_x 3 (some .int)]
def wsX5_isFree_r4 : List Cond := [Cond.methodLink RX5 38 yX5_y, Cond.instanceMethod yX5_y, Cond.selects RX5 yX5_y yX5_y, Cond.code yX5_y cX5_y 3 (some .int)]
def wsX5_isFree : List Cond := .code yX5_isFree cX5_isFree 4 (some .boolean) :: ((wsX5_isFree_r1 ++ (wsX5_isFree_r2 ++ (wsX5_isFree_r3 ++ wsX5_isFree_r4))) ++ wsX50)
def wsX5_freeDirections_r1 : List Cond := [Cond.methodLink RX5 98 yX5_isFree, Cond.instanceMethod yX5_isFree, Cond.selects RX5 yX5_isFree yX5_isFree, Cond.initialized RX5, Cond.code yX5_isFree cX5_isFree 4 (some .boolean), Cond.methodLink RX5 95 yX5_steps, Cond.instanceMethod yX5_steps, Cond.selects RX5 yX5_steps yX5_steps, Cond.code yX5_steps cX5_steps 3 (some .boolean), Cond.methodLink RX5 81 yX5_dx, Cond.static yX5_dx, Cond.code yX5_dx cX5_dx 1 (some .int), Cond.methodLink RX5 84 yX5_dy, Cond.static yX5_dy, Cond.code yX5_dy cX5_dy 1 (some .int), Cond.methodLink RX5 87 yX5_moves, Cond.instanceMethod yX5_moves, Cond.selects RX5 yX5_moves yX5_moves, Cond.code yX5_moves cX5_moves 5 none, Cond.fieldLink RX5 7 "JammedBodiesModel" "all" "[I", Cond.methodLink RX5 30 yX5_corners, Cond.instanceMethod yX5_corners, Cond.selects RX5 yX5_corners yX5_corners, Cond.code yX5_corners cX5_corners 2 (some .int)]
def wsX5_freeDirections_r2 : List Cond := [Cond.methodLink RX5 91 yX5_fits, Cond.instanceMethod yX5_fits, Cond.selects RX5 yX5_fits yX5_fits, Cond.code yX5_fits cX5_fits 2 (some .boolean), Cond.methodLink RX5 75 yX5_wallsBy, Cond.instanceMethod yX5_wallsBy, Cond.selects RX5 yX5_wallsBy yX5_wallsBy, Cond.code yX5_wallsBy cX5_wallsBy 4 (some .int), Cond.methodLink RX5 63 yX5_leastX, Cond.instanceMethod yX5_leastX, Cond.selects RX5 yX5_leastX yX5_leastX, Cond.code yX5_leastX cX5_leastX 2 (some .int), Cond.methodLink RX5 60 yX5_extreme, Cond.instanceMethod yX5_extreme, Cond.selects RX5 yX5_extreme yX5_extreme, Cond.code yX5_extreme cX5_extreme 7 (some .int), Cond.methodLink RX5 66 yX5_greatestX, Cond.instanceMethod yX5_greatestX, Cond.selects RX5 yX5_greatestX yX5_greatestX, Cond.code yX5_greatestX cX5_greatestX 2 (some .int), Cond.methodLink RX5 69 yX5_leastY, Cond.instanceMethod yX5_leastY, Cond.selects RX5 yX5_leastY yX5_leastY, Cond.code yX5_leastY cX5_leastY 2 (some .int)]
def wsX5_freeDirections_r3 : List Cond := [Cond.methodLink RX5 72 yX5_greatestY, Cond.instanceMethod yX5_greatestY, Cond.selects RX5 yX5_greatestY yX5_greatestY, Cond.code yX5_greatestY cX5_greatestY 2 (some .int), Cond.methodLink RX5 78 yX5_overlapped, Cond.instanceMethod yX5_overlapped, Cond.selects RX5 yX5_overlapped yX5_overlapped, Cond.code yX5_overlapped cX5_overlapped 4 (some .int), Cond.methodLink RX5 52 yX5_isParted, Cond.instanceMethod yX5_isParted, Cond.selects RX5 yX5_isParted yX5_isParted, Cond.code yX5_isParted cX5_isParted 4 (some .boolean), Cond.methodLink RX5 49 yX5_parting, Cond.instanceMethod yX5_parting, Cond.selects RX5 yX5_parting yX5_parting, Cond.code yX5_parting cX5_parting 5 (some .int), Cond.methodLink RX5 45 yX5_nearest, Cond.instanceMethod yX5_nearest, Cond.selects RX5 yX5_nearest yX5_nearest, Cond.code yX5_nearest cX5_nearest 6 (some .int), Cond.methodLink RX5 41 yX5_side, Cond.instanceMethod yX5_side, Cond.selects RX5 yX5_side yX5_side, Cond.code yX5_side cX5_side 7 (some .int)]
def wsX5_freeDirections_r4 : List Cond := [Cond.methodLink RX5 34 yX5_x, Cond.instanceMethod yX5_x, Cond.selects RX5 yX5_x yX5_x, Cond.code yX5_x cX5_x 3 (some .int), Cond.methodLink RX5 38 yX5_y, Cond.instanceMethod yX5_y, Cond.selects RX5 yX5_y yX5_y, Cond.code yX5_y cX5_y 3 (some .int)]
def wsX5_freeDirections : List Cond := .code yX5_freeDirections cX5_freeDirections 4 (some .int) :: ((wsX5_freeDirections_r1 ++ (wsX5_freeDirections_r2 ++ (wsX5_freeDirections_r3 ++ wsX5_freeDirections_r4))) ++ wsX50)
def wsX5_isJammed_r1 : List Cond := [Cond.methodLink RX5 101 yX5_freeDirections, Cond.instanceMethod yX5_freeDirections, Cond.selects RX5 yX5_freeDirections yX5_freeDirections, Cond.initialized RX5, Cond.code yX5_freeDirections cX5_freeDirections 4 (some .int), Cond.methodLink RX5 98 yX5_isFree, Cond.instanceMethod yX5_isFree, Cond.selects RX5 yX5_isFree yX5_isFree, Cond.code yX5_isFree cX5_isFree 4 (some .boolean), Cond.methodLink RX5 95 yX5_steps, Cond.instanceMethod yX5_steps, Cond.selects RX5 yX5_steps yX5_steps, Cond.code yX5_steps cX5_steps 3 (some .boolean), Cond.methodLink RX5 81 yX5_dx, Cond.static yX5_dx, Cond.code yX5_dx cX5_dx 1 (some .int), Cond.methodLink RX5 84 yX5_dy, Cond.static yX5_dy, Cond.code yX5_dy cX5_dy 1 (some .int), Cond.methodLink RX5 87 yX5_moves, Cond.instanceMethod yX5_moves, Cond.selects RX5 yX5_moves yX5_moves, Cond.code yX5_moves cX5_moves 5 none, Cond.fieldLink RX5 7 "JammedBodiesModel" "all" "[I"]
def wsX5_isJammed_r2 : List Cond := [Cond.methodLink RX5 30 yX5_corners, Cond.instanceMethod yX5_corners, Cond.selects RX5 yX5_corners yX5_corners, Cond.code yX5_corners cX5_corners 2 (some .int), Cond.methodLink RX5 91 yX5_fits, Cond.instanceMethod yX5_fits, Cond.selects RX5 yX5_fits yX5_fits, Cond.code yX5_fits cX5_fits 2 (some .boolean), Cond.methodLink RX5 75 yX5_wallsBy, Cond.instanceMethod yX5_wallsBy, Cond.selects RX5 yX5_wallsBy yX5_wallsBy, Cond.code yX5_wallsBy cX5_wallsBy 4 (some .int), Cond.methodLink RX5 63 yX5_leastX, Cond.instanceMethod yX5_leastX, Cond.selects RX5 yX5_leastX yX5_leastX, Cond.code yX5_leastX cX5_leastX 2 (some .int), Cond.methodLink RX5 60 yX5_extreme, Cond.instanceMethod yX5_extreme, Cond.selects RX5 yX5_extreme yX5_extreme, Cond.code yX5_extreme cX5_extreme 7 (some .int), Cond.methodLink RX5 66 yX5_greatestX, Cond.instanceMethod yX5_greatestX, Cond.selects RX5 yX5_greatestX yX5_greatestX, Cond.code yX5_greatestX cX5_greatestX 2 (some .int)]
def wsX5_isJammed_r3 : List Cond := [Cond.methodLink RX5 69 yX5_leastY, Cond.instanceMethod yX5_leastY, Cond.selects RX5 yX5_leastY yX5_leastY, Cond.code yX5_leastY cX5_leastY 2 (some .int), Cond.methodLink RX5 72 yX5_greatestY, Cond.instanceMethod yX5_greatestY, Cond.selects RX5 yX5_greatestY yX5_greatestY, Cond.code yX5_greatestY cX5_greatestY 2 (some .int), Cond.methodLink RX5 78 yX5_overlapped, Cond.instanceMethod yX5_overlapped, Cond.selects RX5 yX5_overlapped yX5_overlapped, Cond.code yX5_overlapped cX5_overlapped 4 (some .int), Cond.methodLink RX5 52 yX5_isParted, Cond.instanceMethod yX5_isParted, Cond.selects RX5 yX5_isParted yX5_isParted, Cond.code yX5_isParted cX5_isParted 4 (some .boolean), Cond.methodLink RX5 49 yX5_parting, Cond.instanceMethod yX5_parting, Cond.selects RX5 yX5_parting yX5_parting, Cond.code yX5_parting cX5_parting 5 (some .int), Cond.methodLink RX5 45 yX5_nearest, Cond.instanceMethod yX5_nearest, Cond.selects RX5 yX5_nearest yX5_nearest, Cond.code yX5_nearest cX5_nearest 6 (some .int)]
def wsX5_isJammed_r4 : List Cond := [Cond.methodLink RX5 41 yX5_side, Cond.instanceMethod yX5_side, Cond.selects RX5 yX5_side yX5_side, Cond.code yX5_side cX5_side 7 (some .int), Cond.methodLink RX5 34 yX5_x, Cond.instanceMethod yX5_x, Cond.selects RX5 yX5_x yX5_x, Cond.code yX5_x cX5_x 3 (some .int), Cond.methodLink RX5 38 yX5_y, Cond.instanceMethod yX5_y, Cond.selects RX5 yX5_y yX5_y, Cond.code yX5_y cX5_y 3 (some .int)]
def wsX5_isJammed : List Cond := .code yX5_isJammed cX5_isJammed 2 (some .boolean) :: ((wsX5_isJammed_r1 ++ (wsX5_isJammed_r2 ++ (wsX5_isJammed_r3 ++ wsX5_isJammed_r4))) ++ wsX50)
def wsX5_slides_r1 : List Cond := [Cond.methodLink RX5 95 yX5_steps, Cond.instanceMethod yX5_steps, Cond.selects RX5 yX5_steps yX5_steps, Cond.initialized RX5, Cond.code yX5_steps cX5_steps 3 (some .boolean), Cond.methodLink RX5 81 yX5_dx, Cond.static yX5_dx, Cond.code yX5_dx cX5_dx 1 (some .int), Cond.methodLink RX5 84 yX5_dy, Cond.static yX5_dy, Cond.code yX5_dy cX5_dy 1 (some .int), Cond.methodLink RX5 87 yX5_moves, Cond.instanceMethod yX5_moves, Cond.selects RX5 yX5_moves yX5_moves, Cond.code yX5_moves cX5_moves 5 none, Cond.fieldLink RX5 7 "JammedBodiesModel" "all" "[I", Cond.methodLink RX5 30 yX5_corners, Cond.instanceMethod yX5_corners, Cond.selects RX5 yX5_corners yX5_corners, Cond.code yX5_corners cX5_corners 2 (some .int), Cond.methodLink RX5 91 yX5_fits, Cond.instanceMethod yX5_fits, Cond.selects RX5 yX5_fits yX5_fits, Cond.code yX5_fits cX5_fits 2 (some .boolean)]
def wsX5_slides_r2 : List Cond := [Cond.methodLink RX5 75 yX5_wallsBy, Cond.instanceMethod yX5_wallsBy, Cond.selects RX5 yX5_wallsBy yX5_wallsBy, Cond.code yX5_wallsBy cX5_wallsBy 4 (some .int), Cond.methodLink RX5 63 yX5_leastX, Cond.instanceMethod yX5_leastX, Cond.selects RX5 yX5_leastX yX5_leastX, Cond.code yX5_leastX cX5_leastX 2 (some .int), Cond.methodLink RX5 60 yX5_extreme, Cond.instanceMethod yX5_extreme, Cond.selects RX5 yX5_extreme yX5_extreme, Cond.code yX5_extreme cX5_extreme 7 (some .int), Cond.methodLink RX5 66 yX5_greatestX, Cond.instanceMethod yX5_greatestX, Cond.selects RX5 yX5_greatestX yX5_greatestX, Cond.code yX5_greatestX cX5_greatestX 2 (some .int), Cond.methodLink RX5 69 yX5_leastY, Cond.instanceMethod yX5_leastY, Cond.selects RX5 yX5_leastY yX5_leastY, Cond.code yX5_leastY cX5_leastY 2 (some .int), Cond.methodLink RX5 72 yX5_greatestY, Cond.instanceMethod yX5_greatestY, Cond.selects RX5 yX5_greatestY yX5_greatestY, Cond.code yX5_greatestY cX5_greatestY 2 (some .int)]
def wsX5_slides_r3 : List Cond := [Cond.methodLink RX5 78 yX5_overlapped, Cond.instanceMethod yX5_overlapped, Cond.selects RX5 yX5_overlapped yX5_overlapped, Cond.code yX5_overlapped cX5_overlapped 4 (some .int), Cond.methodLink RX5 52 yX5_isParted, Cond.instanceMethod yX5_isParted, Cond.selects RX5 yX5_isParted yX5_isParted, Cond.code yX5_isParted cX5_isParted 4 (some .boolean), Cond.methodLink RX5 49 yX5_parting, Cond.instanceMethod yX5_parting, Cond.selects RX5 yX5_parting yX5_parting, Cond.code yX5_parting cX5_parting 5 (some .int), Cond.methodLink RX5 45 yX5_nearest, Cond.instanceMethod yX5_nearest, Cond.selects RX5 yX5_nearest yX5_nearest, Cond.code yX5_nearest cX5_nearest 6 (some .int), Cond.methodLink RX5 41 yX5_side, Cond.instanceMethod yX5_side, Cond.selects RX5 yX5_side yX5_side, Cond.code yX5_side cX5_side 7 (some .int), Cond.methodLink RX5 34 yX5_x, Cond.instanceMethod yX5_x, Cond.selects RX5 yX5_x yX5_x, Cond.code yX5_x cX5_x 3 (some .int)]
def wsX5_slides_r4 : List Cond := [Cond.methodLink RX5 38 yX5_y, Cond.instanceMethod yX5_y, Cond.selects RX5 yX5_y yX5_y, Cond.code yX5_y cX5_y 3 (some .int)]
def wsX5_slides : List Cond := .code yX5_slides cX5_slides 5 (some .int) :: ((wsX5_slides_r1 ++ (wsX5_slides_r2 ++ (wsX5_slides_r3 ++ wsX5_slides_r4))) ++ wsX50)
def wsX5_isDirection : List Cond := .code yX5_isDirection cX5_isDirection 1 (some .boolean) :: ([.constantLong RX5 104 (7), .methodLink RX5 26 yX5_in, .static yX5_in, .initialized RX5, .code yX5_in cX5_in 6 (some .boolean)])
def wsX5_settles_r1 : List Cond := [Cond.fieldLink RX5 7 "JammedBodiesModel" "all" "[I", Cond.methodLink RX5 106 yX5_slides, Cond.instanceMethod yX5_slides, Cond.selects RX5 yX5_slides yX5_slides, Cond.initialized RX5, Cond.code yX5_slides cX5_slides 5 (some .int), Cond.methodLink RX5 95 yX5_steps, Cond.instanceMethod yX5_steps, Cond.selects RX5 yX5_steps yX5_steps, Cond.code yX5_steps cX5_steps 3 (some .boolean), Cond.methodLink RX5 81 yX5_dx, Cond.static yX5_dx, Cond.code yX5_dx cX5_dx 1 (some .int), Cond.methodLink RX5 84 yX5_dy, Cond.static yX5_dy, Cond.code yX5_dy cX5_dy 1 (some .int), Cond.methodLink RX5 87 yX5_moves, Cond.instanceMethod yX5_moves, Cond.selects RX5 yX5_moves yX5_moves, Cond.code yX5_moves cX5_moves 5 none, Cond.methodLink RX5 30 yX5_corners, Cond.instanceMethod yX5_corners, Cond.selects RX5 yX5_corners yX5_corners, Cond.code yX5_corners cX5_corners 2 (some .int)]
def wsX5_settles_r2 : List Cond := [Cond.methodLink RX5 91 yX5_fits, Cond.instanceMethod yX5_fits, Cond.selects RX5 yX5_fits yX5_fits, Cond.code yX5_fits cX5_fits 2 (some .boolean), Cond.methodLink RX5 75 yX5_wallsBy, Cond.instanceMethod yX5_wallsBy, Cond.selects RX5 yX5_wallsBy yX5_wallsBy, Cond.code yX5_wallsBy cX5_wallsBy 4 (some .int), Cond.methodLink RX5 63 yX5_leastX, Cond.instanceMethod yX5_leastX, Cond.selects RX5 yX5_leastX yX5_leastX, Cond.code yX5_leastX cX5_leastX 2 (some .int), Cond.methodLink RX5 60 yX5_extreme, Cond.instanceMethod yX5_extreme, Cond.selects RX5 yX5_extreme yX5_extreme, Cond.code yX5_extreme cX5_extreme 7 (some .int), Cond.methodLink RX5 66 yX5_greatestX, Cond.instanceMethod yX5_greatestX, Cond.selects RX5 yX5_greatestX yX5_greatestX, Cond.code yX5_greatestX cX5_greatestX 2 (some .int), Cond.methodLink RX5 69 yX5_leastY, Cond.instanceMethod yX5_leastY, Cond.selects RX5 yX5_leastY yX5_leastY, Cond.code yX5_leastY cX5_leastY 2 (some .int)]
def wsX5_settles_r3 : List Cond := [Cond.methodLink RX5 72 yX5_greatestY, Cond.instanceMethod yX5_greatestY, Cond.selects RX5 yX5_greatestY yX5_greatestY, Cond.code yX5_greatestY cX5_greatestY 2 (some .int), Cond.methodLink RX5 78 yX5_overlapped, Cond.instanceMethod yX5_overlapped, Cond.selects RX5 yX5_overlapped yX5_overlapped, Cond.code yX5_overlapped cX5_overlapped 4 (some .int), Cond.methodLink RX5 52 yX5_isParted, Cond.instanceMethod yX5_isParted, Cond.selects RX5 yX5_isParted yX5_isParted, Cond.code yX5_isParted cX5_isParted 4 (some .boolean), Cond.methodLink RX5 49 yX5_parting, Cond.instanceMethod yX5_parting, Cond.selects RX5 yX5_parting yX5_parting, Cond.code yX5_parting cX5_parting 5 (some .int), Cond.methodLink RX5 45 yX5_nearest, Cond.instanceMethod yX5_nearest, Cond.selects RX5 yX5_nearest yX5_nearest, Cond.code yX5_nearest cX5_nearest 6 (some .int), Cond.methodLink RX5 41 yX5_side, Cond.instanceMethod yX5_side, Cond.selects RX5 yX5_side yX5_side, Cond.code yX5_side cX5_side 7 (some .int)]
def wsX5_settles_r4 : List Cond := [Cond.methodLink RX5 34 yX5_x, Cond.instanceMethod yX5_x, Cond.selects RX5 yX5_x yX5_x, Cond.code yX5_x cX5_x 3 (some .int), Cond.methodLink RX5 38 yX5_y, Cond.instanceMethod yX5_y, Cond.selects RX5 yX5_y yX5_y, Cond.code yX5_y cX5_y 3 (some .int)]
def wsX5_settles : List Cond := .code yX5_settles cX5_settles 5 (some .int) :: ((wsX5_settles_r1 ++ (wsX5_settles_r2 ++ (wsX5_settles_r3 ++ wsX5_settles_r4))) ++ wsX50)
def wsX5_area : List Cond := .code yX5_area cX5_area 4 (some .int) :: ([.methodLink RX5 30 yX5_corners, .instanceMethod yX5_corners, .selects RX5 yX5_corners yX5_corners, .initialized RX5, .code yX5_corners cX5_corners 2 (some .int), .fieldLink RX5 7 "JammedBodiesModel" "all" "[I", .methodLink RX5 34 yX5_x, .instanceMethod yX5_x, .selects RX5 yX5_x yX5_x, .code yX5_x cX5_x 3 (some .int), .methodLink RX5 38 yX5_y, .instanceMethod yX5_y, .selects RX5 yX5_y yX5_y, .code yX5_y cX5_y 3 (some .int)] ++ wsX50)
def wsX5_areas : List Cond := .code yX5_areas cX5_areas 3 (some .int) :: ([.fieldLink RX5 7 "JammedBodiesModel" "all" "[I", .methodLink RX5 109 yX5_area, .instanceMethod yX5_area, .selects RX5 yX5_area yX5_area, .initialized RX5, .code yX5_area cX5_area 4 (some .int), .methodLink RX5 30 yX5_corners, .instanceMethod yX5_corners, .selects RX5 yX5_corners yX5_corners, .code yX5_corners cX5_corners 2 (some .int), .methodLink RX5 34 yX5_x, .instanceMethod yX5_x, .selects RX5 yX5_x yX5_x, .code yX5_x cX5_x 3 (some .int), .methodLink RX5 38 yX5_y, .instanceMethod yX5_y, .selects RX5 yX5_y yX5_y, .code yX5_y cX5_y 3 (some .int)] ++ wsX50)
def wsX5_copyBody : List Cond := .code yX5_copyBody cX5_copyBody 4 none :: ([.fieldLink RX5 7 "JammedBodiesModel" "all" "[I"] ++ wsX50)
def wsX5_takesOut : List Cond := .code yX5_takesOut cX5_takesOut 3 none :: ([.fieldLink RX5 7 "JammedBodiesModel" "all" "[I", .methodLink RX5 112 yX5_copyBody, .instanceMethod yX5_copyBody, .selects RX5 yX5_copyBody yX5_copyBody, .initialized RX5, .code yX5_copyBody cX5_copyBody 4 none] ++ wsX50)
def wsX5_box_r1 : List Cond := [Cond.constantLong RX5 116 (10), Cond.constantLong RX5 118 (60), Cond.constant RX5 120 (-1000001), Cond.fieldLink RX5 7 "JammedBodiesModel" "all" "[I", Cond.constant RX5 121 (-1000002), Cond.methodLink RX5 26 yX5_in, Cond.static yX5_in, Cond.initialized RX5, Cond.code yX5_in cX5_in 6 (some .boolean), Cond.methodLink RX5 66 yX5_greatestX, Cond.instanceMethod yX5_greatestX, Cond.selects RX5 yX5_greatestX yX5_greatestX, Cond.code yX5_greatestX cX5_greatestX 2 (some .int), Cond.methodLink RX5 60 yX5_extreme, Cond.instanceMethod yX5_extreme, Cond.selects RX5 yX5_extreme yX5_extreme, Cond.code yX5_extreme cX5_extreme 7 (some .int), Cond.methodLink RX5 30 yX5_corners, Cond.instanceMethod yX5_corners, Cond.selects RX5 yX5_corners yX5_corners, Cond.code yX5_corners cX5_corners 2 (some .int), Cond.methodLink RX5 72 yX5_greatestY, Cond.instanceMethod yX5_greatestY, Cond.selects RX5 yX5_greatestY yX5_greatestY]
def wsX5_box_r2 : List Cond := [Cond.code yX5_greatestY cX5_greatestY 2 (some .int), Cond.methodLink RX5 122 yX5_keep, Cond.instanceMethod yX5_keep, Cond.selects RX5 yX5_keep yX5_keep, Cond.code yX5_keep cX5_keep 2 none, Cond.fieldLink RX5 16 "JammedBodiesModel" "kept" "[I", Cond.methodLink RX5 125 yX5_changed, Cond.instanceMethod yX5_changed, Cond.selects RX5 yX5_changed yX5_changed, Cond.code yX5_changed cX5_changed 3 (some .int), Cond.fieldLink RX5 22 "JammedBodiesModel" "historyLong" "I", Cond.fieldLink RX5 13 "JammedBodiesModel" "history" "[I"]
def wsX5_box : List Cond := .code yX5_box cX5_box 4 (some .int) :: ((wsX5_box_r1 ++ wsX5_box_r2) ++ wsX50)
def wsX5_takesNumber : List Cond := .code yX5_takesNumber cX5_takesNumber 3 (some .boolean) :: ([.fieldLink RX5 195 "JammedBodiesModel" "spot" "I", .fieldLink RX5 7 "JammedBodiesModel" "all" "[I", .fieldLink RX5 188 "JammedBodiesModel" "textLong" "I", .fieldLink RX5 19 "JammedBodiesModel" "text" "[I", .constantLong RX5 198 (48), .constantLong RX5 200 (57), .methodLink RX5 26 yX5_in, .static yX5_in, .initialized RX5, .code yX5_in cX5_in 6 (some .boolean)] ++ wsX50)
def wsX5_takes : List Cond := .code yX5_takes cX5_takes 3 (some .boolean) :: ([.fieldLink RX5 195 "JammedBodiesModel" "spot" "I", .fieldLink RX5 188 "JammedBodiesModel" "textLong" "I", .fieldLink RX5 19 "JammedBodiesModel" "text" "[I"] ++ wsX50)
def wsX5_reads : List Cond := .code yX5_reads cX5_reads 3 (some .boolean) :: ([.fieldLink RX5 195 "JammedBodiesModel" "spot" "I", .fieldLink RX5 7 "JammedBodiesModel" "all" "[I", .fieldLink RX5 188 "JammedBodiesModel" "textLong" "I", .methodLink RX5 202 yX5_takesNumber, .instanceMethod yX5_takesNumber, .selects RX5 yX5_takesNumber yX5_takesNumber, .initialized RX5, .code yX5_takesNumber cX5_takesNumber 3 (some .boolean), .fieldLink RX5 19 "JammedBodiesModel" "text" "[I", .constantLong RX5 198 (48), .constantLong RX5 200 (57), .methodLink RX5 26 yX5_in, .static yX5_in, .code yX5_in cX5_in 6 (some .boolean), .methodLink RX5 205 yX5_takes, .instanceMethod yX5_takes, .selects RX5 yX5_takes yX5_takes, .code yX5_takes cX5_takes 3 (some .boolean)] ++ wsX50)
def wsX5_notes : List Cond := .code yX5_notes cX5_notes 4 (some .boolean) :: ([.fieldLink RX5 211 "JammedBodiesModel" "faultAt" "I", .fieldLink RX5 214 "JammedBodiesModel" "faultWhy" "I", .fieldLink RX5 217 "JammedBodiesModel" "faultCause" "I"] ++ wsX50)
def wsX5_cornerOutside : List Cond := .code yX5_cornerOutside cX5_cornerOutside 2 (some .int) :: ([.fieldLink RX5 7 "JammedBodiesModel" "all" "[I", .methodLink RX5 30 yX5_corners, .instanceMethod yX5_corners, .selects RX5 yX5_corners yX5_corners, .initialized RX5, .code yX5_corners cX5_corners 2 (some .int), .methodLink RX5 34 yX5_x, .instanceMethod yX5_x, .selects RX5 yX5_x yX5_x, .code yX5_x cX5_x 3 (some .int), .methodLink RX5 38 yX5_y, .instanceMethod yX5_y, .selects RX5 yX5_y yX5_y, .code yX5_y cX5_y 3 (some .int)] ++ wsX50)
def wsX5_goesUp : List Cond := .code yX5_goesUp cX5_goesUp 3 (some .boolean) :: ([.methodLink RX5 38 yX5_y, .instanceMethod yX5_y, .selects RX5 yX5_y yX5_y, .initialized RX5, .code yX5_y cX5_y 3 (some .int), .fieldLink RX5 7 "JammedBodiesModel" "all" "[I", .methodLink RX5 30 yX5_corners, .instanceMethod yX5_corners, .selects RX5 yX5_corners yX5_corners, .code yX5_corners cX5_corners 2 (some .int), .methodLink RX5 34 yX5_x, .instanceMethod yX5_x, .selects RX5 yX5_x yX5_x, .code yX5_x cX5_x 3 (some .int)] ++ wsX50)
def wsX5_badCorner : List Cond := .code yX5_badCorner cX5_badCorner 4 (some .int) :: ([.methodLink RX5 30 yX5_corners, .instanceMethod yX5_corners, .selects RX5 yX5_corners yX5_corners, .initialized RX5, .code yX5_corners cX5_corners 2 (some .int), .fieldLink RX5 7 "JammedBodiesModel" "all" "[I", .methodLink RX5 41 yX5_side, .instanceMethod yX5_side, .selects RX5 yX5_side yX5_side, .code yX5_side cX5_side 7 (some .int), .methodLink RX5 34 yX5_x, .instanceMethod yX5_x, .selects RX5 yX5_x yX5_x, .code yX5_x cX5_x 3 (some .int), .methodLink RX5 38 yX5_y, .instanceMethod yX5_y, .selects RX5 yX5_y yX5_y, .code yX5_y cX5_y 3 (some .int), .methodLink RX5 208 yX5_goesUp, .instanceMethod yX5_goesUp, .selects RX5 yX5_goesUp yX5_goesUp, .code yX5_goesUp cX5_goesUp 3 (some .boolean)] ++ wsX50)
def wsX5_hasFault_r1 : List Cond := [Cond.fieldLink RX5 195 "JammedBodiesModel" "spot" "I", Cond.methodLink RX5 220 yX5_reads, Cond.instanceMethod yX5_reads, Cond.selects RX5 yX5_reads yX5_reads, Cond.initialized RX5, Cond.code yX5_reads cX5_reads 3 (some .boolean), Cond.fieldLink RX5 7 "JammedBodiesModel" "all" "[I", Cond.fieldLink RX5 188 "JammedBodiesModel" "textLong" "I", Cond.methodLink RX5 202 yX5_takesNumber, Cond.instanceMethod yX5_takesNumber, Cond.selects RX5 yX5_takesNumber yX5_takesNumber, Cond.code yX5_takesNumber cX5_takesNumber 3 (some .boolean), Cond.fieldLink RX5 19 "JammedBodiesModel" "text" "[I", Cond.constantLong RX5 198 (48), Cond.constantLong RX5 200 (57), Cond.methodLink RX5 26 yX5_in, Cond.static yX5_in, Cond.code yX5_in cX5_in 6 (some .boolean), Cond.methodLink RX5 205 yX5_takes, Cond.instanceMethod yX5_takes, Cond.selects RX5 yX5_takes yX5_takes, Cond.code yX5_takes cX5_takes 3 (some .boolean), Cond.methodLink RX5 223 yX5_notes, Cond.instanceMethod yX5_notes]
def wsX5_hasFault_r2 : List Cond := [Cond.selects RX5 yX5_notes yX5_notes, Cond.code yX5_notes cX5_notes 4 (some .boolean), Cond.fieldLink RX5 211 "JammedBodiesModel" "faultAt" "I", Cond.fieldLink RX5 214 "JammedBodiesModel" "faultWhy" "I", Cond.fieldLink RX5 217 "JammedBodiesModel" "faultCause" "I", Cond.methodLink RX5 226 yX5_cornerOutside, Cond.instanceMethod yX5_cornerOutside, Cond.selects RX5 yX5_cornerOutside yX5_cornerOutside, Cond.code yX5_cornerOutside cX5_cornerOutside 2 (some .int), Cond.methodLink RX5 30 yX5_corners, Cond.instanceMethod yX5_corners, Cond.selects RX5 yX5_corners yX5_corners, Cond.code yX5_corners cX5_corners 2 (some .int), Cond.methodLink RX5 34 yX5_x, Cond.instanceMethod yX5_x, Cond.selects RX5 yX5_x yX5_x, Cond.code yX5_x cX5_x 3 (some .int), Cond.methodLink RX5 38 yX5_y, Cond.instanceMethod yX5_y, Cond.selects RX5 yX5_y yX5_y, Cond.code yX5_y cX5_y 3 (some .int), Cond.methodLink RX5 229 yX5_badCorner, Cond.instanceMethod yX5_badCorner, Cond.selects RX5 yX5_badCorner yX5_badCorner]
def wsX5_hasFault_r3 : List Cond := [Cond.code yX5_badCorner cX5_badCorner 4 (some .int), Cond.methodLink RX5 41 yX5_side, Cond.instanceMethod yX5_side, Cond.selects RX5 yX5_side yX5_side, Cond.code yX5_side cX5_side 7 (some .int), Cond.methodLink RX5 208 yX5_goesUp, Cond.instanceMethod yX5_goesUp, Cond.selects RX5 yX5_goesUp yX5_goesUp, Cond.code yX5_goesUp cX5_goesUp 3 (some .boolean), Cond.methodLink RX5 78 yX5_overlapped, Cond.instanceMethod yX5_overlapped, Cond.selects RX5 yX5_overlapped yX5_overlapped, Cond.code yX5_overlapped cX5_overlapped 4 (some .int), Cond.methodLink RX5 52 yX5_isParted, Cond.instanceMethod yX5_isParted, Cond.selects RX5 yX5_isParted yX5_isParted, Cond.code yX5_isParted cX5_isParted 4 (some .boolean), Cond.methodLink RX5 49 yX5_parting, Cond.instanceMethod yX5_parting, Cond.selects RX5 yX5_parting yX5_parting, Cond.code yX5_parting cX5_parting 5 (some .int), Cond.methodLink RX5 45 yX5_nearest, Cond.instanceMethod yX5_nearest, Cond.selects RX5 yX5_nearest yX5_nearest]
def wsX5_hasFault_r4 : List Cond := [Cond.code yX5_nearest cX5_nearest 6 (some .int)]
def wsX5_hasFault : List Cond := .code yX5_hasFault cX5_hasFault 5 (some .boolean) :: ((wsX5_hasFault_r1 ++ (wsX5_hasFault_r2 ++ (wsX5_hasFault_r3 ++ wsX5_hasFault_r4))) ++ wsX50)
def wsX5_put_r1 : List Cond := [Cond.constant RX5 121 (-1000002), Cond.fieldLink RX5 7 "JammedBodiesModel" "all" "[I", Cond.constant RX5 132 (-1000003), Cond.methodLink RX5 128 yX5_hasFault, Cond.instanceMethod yX5_hasFault, Cond.selects RX5 yX5_hasFault yX5_hasFault, Cond.initialized RX5, Cond.code yX5_hasFault cX5_hasFault 5 (some .boolean), Cond.fieldLink RX5 195 "JammedBodiesModel" "spot" "I", Cond.methodLink RX5 220 yX5_reads, Cond.instanceMethod yX5_reads, Cond.selects RX5 yX5_reads yX5_reads, Cond.code yX5_reads cX5_reads 3 (some .boolean), Cond.fieldLink RX5 188 "JammedBodiesModel" "textLong" "I", Cond.methodLink RX5 202 yX5_takesNumber, Cond.instanceMethod yX5_takesNumber, Cond.selects RX5 yX5_takesNumber yX5_takesNumber, Cond.code yX5_takesNumber cX5_takesNumber 3 (some .boolean), Cond.fieldLink RX5 19 "JammedBodiesModel" "text" "[I", Cond.constantLong RX5 198 (48), Cond.constantLong RX5 200 (57), Cond.methodLink RX5 26 yX5_in, Cond.static yX5_in, Cond.code yX5_in cX5_in 6 (some .boolean)]
def wsX5_put_r2 : List Cond := [Cond.methodLink RX5 205 yX5_takes, Cond.instanceMethod yX5_takes, Cond.selects RX5 yX5_takes yX5_takes, Cond.code yX5_takes cX5_takes 3 (some .boolean), Cond.methodLink RX5 223 yX5_notes, Cond.instanceMethod yX5_notes, Cond.selects RX5 yX5_notes yX5_notes, Cond.code yX5_notes cX5_notes 4 (some .boolean), Cond.fieldLink RX5 211 "JammedBodiesModel" "faultAt" "I", Cond.fieldLink RX5 214 "JammedBodiesModel" "faultWhy" "I", Cond.fieldLink RX5 217 "JammedBodiesModel" "faultCause" "I", Cond.methodLink RX5 226 yX5_cornerOutside, Cond.instanceMethod yX5_cornerOutside, Cond.selects RX5 yX5_cornerOutside yX5_cornerOutside, Cond.code yX5_cornerOutside cX5_cornerOutside 2 (some .int), Cond.methodLink RX5 30 yX5_corners, Cond.instanceMethod yX5_corners, Cond.selects RX5 yX5_corners yX5_corners, Cond.code yX5_corners cX5_corners 2 (some .int), Cond.methodLink RX5 34 yX5_x, Cond.instanceMethod yX5_x, Cond.selects RX5 yX5_x yX5_x, Cond.code yX5_x cX5_x 3 (some .int), Cond.methodLink RX5 38 yX5_y]
def wsX5_put_r3 : List Cond := [Cond.instanceMethod yX5_y, Cond.selects RX5 yX5_y yX5_y, Cond.code yX5_y cX5_y 3 (some .int), Cond.methodLink RX5 229 yX5_badCorner, Cond.instanceMethod yX5_badCorner, Cond.selects RX5 yX5_badCorner yX5_badCorner, Cond.code yX5_badCorner cX5_badCorner 4 (some .int), Cond.methodLink RX5 41 yX5_side, Cond.instanceMethod yX5_side, Cond.selects RX5 yX5_side yX5_side, Cond.code yX5_side cX5_side 7 (some .int), Cond.methodLink RX5 208 yX5_goesUp, Cond.instanceMethod yX5_goesUp, Cond.selects RX5 yX5_goesUp yX5_goesUp, Cond.code yX5_goesUp cX5_goesUp 3 (some .boolean), Cond.methodLink RX5 78 yX5_overlapped, Cond.instanceMethod yX5_overlapped, Cond.selects RX5 yX5_overlapped yX5_overlapped, Cond.code yX5_overlapped cX5_overlapped 4 (some .int), Cond.methodLink RX5 52 yX5_isParted, Cond.instanceMethod yX5_isParted, Cond.selects RX5 yX5_isParted yX5_isParted, Cond.code yX5_isParted cX5_isParted 4 (some .boolean), Cond.methodLink RX5 49 yX5_parting]
def wsX5_put_r4 : List Cond := [Cond.instanceMethod yX5_parting, Cond.selects RX5 yX5_parting yX5_parting, Cond.code yX5_parting cX5_parting 5 (some .int), Cond.methodLink RX5 45 yX5_nearest, Cond.instanceMethod yX5_nearest, Cond.selects RX5 yX5_nearest yX5_nearest, Cond.code yX5_nearest cX5_nearest 6 (some .int), Cond.methodLink RX5 122 yX5_keep, Cond.instanceMethod yX5_keep, Cond.selects RX5 yX5_keep yX5_keep, Cond.code yX5_keep cX5_keep 2 none, Cond.fieldLink RX5 16 "JammedBodiesModel" "kept" "[I", Cond.methodLink RX5 112 yX5_copyBody, Cond.instanceMethod yX5_copyBody, Cond.selects RX5 yX5_copyBody yX5_copyBody, Cond.code yX5_copyBody cX5_copyBody 4 none, Cond.methodLink RX5 125 yX5_changed, Cond.instanceMethod yX5_changed, Cond.selects RX5 yX5_changed yX5_changed, Cond.code yX5_changed cX5_changed 3 (some .int), Cond.fieldLink RX5 22 "JammedBodiesModel" "historyLong" "I", Cond.fieldLink RX5 13 "JammedBodiesModel" "history" "[I"]
def wsX5_put : List Cond := .code yX5_put cX5_put 1 (some .int) :: ((wsX5_put_r1 ++ (wsX5_put_r2 ++ (wsX5_put_r3 ++ wsX5_put_r4))) ++ wsX50)
def wsX5_remove_r1 : List Cond := [Cond.constant RX5 120 (-1000001), Cond.fieldLink RX5 7 "JammedBodiesModel" "all" "[I", Cond.methodLink RX5 133 yX5_isBody, Cond.instanceMethod yX5_isBody, Cond.selects RX5 yX5_isBody yX5_isBody, Cond.initialized RX5, Cond.code yX5_isBody cX5_isBody 2 (some .boolean), Cond.methodLink RX5 26 yX5_in, Cond.static yX5_in, Cond.code yX5_in cX5_in 6 (some .boolean), Cond.methodLink RX5 122 yX5_keep, Cond.instanceMethod yX5_keep, Cond.selects RX5 yX5_keep yX5_keep, Cond.code yX5_keep cX5_keep 2 none, Cond.fieldLink RX5 16 "JammedBodiesModel" "kept" "[I", Cond.methodLink RX5 136 yX5_takesOut, Cond.instanceMethod yX5_takesOut, Cond.selects RX5 yX5_takesOut yX5_takesOut, Cond.code yX5_takesOut cX5_takesOut 3 none, Cond.methodLink RX5 112 yX5_copyBody, Cond.instanceMethod yX5_copyBody, Cond.selects RX5 yX5_copyBody yX5_copyBody, Cond.code yX5_copyBody cX5_copyBody 4 none, Cond.methodLink RX5 125 yX5_changed]
def wsX5_remove_r2 : List Cond := [Cond.instanceMethod yX5_changed, Cond.selects RX5 yX5_changed yX5_changed, Cond.code yX5_changed cX5_changed 3 (some .int), Cond.fieldLink RX5 22 "JammedBodiesModel" "historyLong" "I", Cond.fieldLink RX5 13 "JammedBodiesModel" "history" "[I"]
def wsX5_remove : List Cond := .code yX5_remove cX5_remove 2 (some .int) :: ((wsX5_remove_r1 ++ wsX5_remove_r2) ++ wsX50)
def wsX5_empty : List Cond := .code yX5_empty cX5_empty 2 (some .int) :: ([.fieldLink RX5 7 "JammedBodiesModel" "all" "[I", .methodLink RX5 122 yX5_keep, .instanceMethod yX5_keep, .selects RX5 yX5_keep yX5_keep, .initialized RX5, .code yX5_keep cX5_keep 2 none, .fieldLink RX5 16 "JammedBodiesModel" "kept" "[I", .methodLink RX5 125 yX5_changed, .instanceMethod yX5_changed, .selects RX5 yX5_changed yX5_changed, .code yX5_changed cX5_changed 3 (some .int), .fieldLink RX5 22 "JammedBodiesModel" "historyLong" "I", .fieldLink RX5 13 "JammedBodiesModel" "history" "[I"] ++ wsX50)
def wsX5_slide_r1 : List Cond := [Cond.constantLong RX5 118 (60), Cond.constant RX5 120 (-1000001), Cond.constant RX5 121 (-1000002), Cond.methodLink RX5 133 yX5_isBody, Cond.instanceMethod yX5_isBody, Cond.selects RX5 yX5_isBody yX5_isBody, Cond.initialized RX5, Cond.code yX5_isBody cX5_isBody 2 (some .boolean), Cond.fieldLink RX5 7 "JammedBodiesModel" "all" "[I", Cond.methodLink RX5 26 yX5_in, Cond.static yX5_in, Cond.code yX5_in cX5_in 6 (some .boolean), Cond.methodLink RX5 140 yX5_isDirection, Cond.static yX5_isDirection, Cond.code yX5_isDirection cX5_isDirection 1 (some .boolean), Cond.constantLong RX5 104 (7), Cond.methodLink RX5 122 yX5_keep, Cond.instanceMethod yX5_keep, Cond.selects RX5 yX5_keep yX5_keep, Cond.code yX5_keep cX5_keep 2 none, Cond.fieldLink RX5 16 "JammedBodiesModel" "kept" "[I", Cond.methodLink RX5 106 yX5_slides, Cond.instanceMethod yX5_slides, Cond.selects RX5 yX5_slides yX5_slides]
def wsX5_slide_r2 : List Cond := [Cond.code yX5_slides cX5_slides 5 (some .int), Cond.methodLink RX5 95 yX5_steps, Cond.instanceMethod yX5_steps, Cond.selects RX5 yX5_steps yX5_steps, Cond.code yX5_steps cX5_steps 3 (some .boolean), Cond.methodLink RX5 81 yX5_dx, Cond.static yX5_dx, Cond.code yX5_dx cX5_dx 1 (some .int), Cond.methodLink RX5 84 yX5_dy, Cond.static yX5_dy, Cond.code yX5_dy cX5_dy 1 (some .int), Cond.methodLink RX5 87 yX5_moves, Cond.instanceMethod yX5_moves, Cond.selects RX5 yX5_moves yX5_moves, Cond.code yX5_moves cX5_moves 5 none, Cond.methodLink RX5 30 yX5_corners, Cond.instanceMethod yX5_corners, Cond.selects RX5 yX5_corners yX5_corners, Cond.code yX5_corners cX5_corners 2 (some .int), Cond.methodLink RX5 91 yX5_fits, Cond.instanceMethod yX5_fits, Cond.selects RX5 yX5_fits yX5_fits, Cond.code yX5_fits cX5_fits 2 (some .boolean), Cond.methodLink RX5 75 yX5_wallsBy]
def wsX5_slide_r3 : List Cond := [Cond.instanceMethod yX5_wallsBy, Cond.selects RX5 yX5_wallsBy yX5_wallsBy, Cond.code yX5_wallsBy cX5_wallsBy 4 (some .int), Cond.methodLink RX5 63 yX5_leastX, Cond.instanceMethod yX5_leastX, Cond.selects RX5 yX5_leastX yX5_leastX, Cond.code yX5_leastX cX5_leastX 2 (some .int), Cond.methodLink RX5 60 yX5_extreme, Cond.instanceMethod yX5_extreme, Cond.selects RX5 yX5_extreme yX5_extreme, Cond.code yX5_extreme cX5_extreme 7 (some .int), Cond.methodLink RX5 66 yX5_greatestX, Cond.instanceMethod yX5_greatestX, Cond.selects RX5 yX5_greatestX yX5_greatestX, Cond.code yX5_greatestX cX5_greatestX 2 (some .int), Cond.methodLink RX5 69 yX5_leastY, Cond.instanceMethod yX5_leastY, Cond.selects RX5 yX5_leastY yX5_leastY, Cond.code yX5_leastY cX5_leastY 2 (some .int), Cond.methodLink RX5 72 yX5_greatestY, Cond.instanceMethod yX5_greatestY, Cond.selects RX5 yX5_greatestY yX5_greatestY, Cond.code yX5_greatestY cX5_greatestY 2 (some .int), Cond.methodLink RX5 78 yX5_overlapped]
def wsX5_slide_r4 : List Cond := [Cond.instanceMethod yX5_overlapped, Cond.selects RX5 yX5_overlapped yX5_overlapped, Cond.code yX5_overlapped cX5_overlapped 4 (some .int), Cond.methodLink RX5 52 yX5_isParted, Cond.instanceMethod yX5_isParted, Cond.selects RX5 yX5_isParted yX5_isParted, Cond.code yX5_isParted cX5_isParted 4 (some .boolean), Cond.methodLink RX5 49 yX5_parting, Cond.instanceMethod yX5_parting, Cond.selects RX5 yX5_parting yX5_parting, Cond.code yX5_parting cX5_parting 5 (some .int), Cond.methodLink RX5 45 yX5_nearest, Cond.instanceMethod yX5_nearest, Cond.selects RX5 yX5_nearest yX5_nearest, Cond.code yX5_nearest cX5_nearest 6 (some .int), Cond.methodLink RX5 41 yX5_side, Cond.instanceMethod yX5_side, Cond.selects RX5 yX5_side yX5_side, Cond.code yX5_side cX5_side 7 (some .int), Cond.methodLink RX5 34 yX5_x, Cond.instanceMethod yX5_x, Cond.selects RX5 yX5_x yX5_x, Cond.code yX5_x cX5_x 3 (some .int), Cond.methodLink RX5 38 yX5_y]
def wsX5_slide_r5 : List Cond := [Cond.instanceMethod yX5_y, Cond.selects RX5 yX5_y yX5_y, Cond.code yX5_y cX5_y 3 (some .int), Cond.methodLink RX5 125 yX5_changed, Cond.instanceMethod yX5_changed, Cond.selects RX5 yX5_changed yX5_changed, Cond.code yX5_changed cX5_changed 3 (some .int), Cond.fieldLink RX5 22 "JammedBodiesModel" "historyLong" "I", Cond.fieldLink RX5 13 "JammedBodiesModel" "history" "[I"]
def wsX5_slide : List Cond := .code yX5_slide cX5_slide 5 (some .int) :: ((wsX5_slide_r1 ++ (wsX5_slide_r2 ++ (wsX5_slide_r3 ++ (wsX5_slide_r4 ++ wsX5_slide_r5)))) ++ wsX50)
def wsX5_turn_r1 : List Cond := [Cond.constant RX5 120 (-1000001), Cond.fieldLink RX5 7 "JammedBodiesModel" "all" "[I", Cond.constant RX5 121 (-1000002), Cond.methodLink RX5 133 yX5_isBody, Cond.instanceMethod yX5_isBody, Cond.selects RX5 yX5_isBody yX5_isBody, Cond.initialized RX5, Cond.code yX5_isBody cX5_isBody 2 (some .boolean), Cond.methodLink RX5 26 yX5_in, Cond.static yX5_in, Cond.code yX5_in cX5_in 6 (some .boolean), Cond.methodLink RX5 122 yX5_keep, Cond.instanceMethod yX5_keep, Cond.selects RX5 yX5_keep yX5_keep, Cond.code yX5_keep cX5_keep 2 none, Cond.fieldLink RX5 16 "JammedBodiesModel" "kept" "[I", Cond.methodLink RX5 63 yX5_leastX, Cond.instanceMethod yX5_leastX, Cond.selects RX5 yX5_leastX yX5_leastX, Cond.code yX5_leastX cX5_leastX 2 (some .int), Cond.methodLink RX5 60 yX5_extreme, Cond.instanceMethod yX5_extreme, Cond.selects RX5 yX5_extreme yX5_extreme, Cond.code yX5_extreme cX5_extreme 7 (some .int)]
def wsX5_turn_r2 : List Cond := [Cond.methodLink RX5 30 yX5_corners, Cond.instanceMethod yX5_corners, Cond.selects RX5 yX5_corners yX5_corners, Cond.code yX5_corners cX5_corners 2 (some .int), Cond.methodLink RX5 69 yX5_leastY, Cond.instanceMethod yX5_leastY, Cond.selects RX5 yX5_leastY yX5_leastY, Cond.code yX5_leastY cX5_leastY 2 (some .int), Cond.methodLink RX5 72 yX5_greatestY, Cond.instanceMethod yX5_greatestY, Cond.selects RX5 yX5_greatestY yX5_greatestY, Cond.code yX5_greatestY cX5_greatestY 2 (some .int), Cond.methodLink RX5 91 yX5_fits, Cond.instanceMethod yX5_fits, Cond.selects RX5 yX5_fits yX5_fits, Cond.code yX5_fits cX5_fits 2 (some .boolean), Cond.methodLink RX5 75 yX5_wallsBy, Cond.instanceMethod yX5_wallsBy, Cond.selects RX5 yX5_wallsBy yX5_wallsBy, Cond.code yX5_wallsBy cX5_wallsBy 4 (some .int), Cond.methodLink RX5 66 yX5_greatestX, Cond.instanceMethod yX5_greatestX, Cond.selects RX5 yX5_greatestX yX5_greatestX, Cond.code yX5_greatestX cX5_greatestX 2 (some .int)]
def wsX5_turn_r3 : List Cond := [Cond.methodLink RX5 78 yX5_overlapped, Cond.instanceMethod yX5_overlapped, Cond.selects RX5 yX5_overlapped yX5_overlapped, Cond.code yX5_overlapped cX5_overlapped 4 (some .int), Cond.methodLink RX5 52 yX5_isParted, Cond.instanceMethod yX5_isParted, Cond.selects RX5 yX5_isParted yX5_isParted, Cond.code yX5_isParted cX5_isParted 4 (some .boolean), Cond.methodLink RX5 49 yX5_parting, Cond.instanceMethod yX5_parting, Cond.selects RX5 yX5_parting yX5_parting, Cond.code yX5_parting cX5_parting 5 (some .int), Cond.methodLink RX5 45 yX5_nearest, Cond.instanceMethod yX5_nearest, Cond.selects RX5 yX5_nearest yX5_nearest, Cond.code yX5_nearest cX5_nearest 6 (some .int), Cond.methodLink RX5 41 yX5_side, Cond.instanceMethod yX5_side, Cond.selects RX5 yX5_side yX5_side, Cond.code yX5_side cX5_side 7 (some .int), Cond.methodLink RX5 34 yX5_x, Cond.instanceMethod yX5_x, Cond.selects RX5 yX5_x yX5_x, Cond.code yX5_x cX5_x 3 (some .int)]
def wsX5_turn_r4 : List Cond := [Cond.methodLink RX5 38 yX5_y, Cond.instanceMethod yX5_y, Cond.selects RX5 yX5_y yX5_y, Cond.code yX5_y cX5_y 3 (some .int), Cond.methodLink RX5 143 yX5_giveBack, Cond.instanceMethod yX5_giveBack, Cond.selects RX5 yX5_giveBack yX5_giveBack, Cond.code yX5_giveBack cX5_giveBack 2 none, Cond.methodLink RX5 125 yX5_changed, Cond.instanceMethod yX5_changed, Cond.selects RX5 yX5_changed yX5_changed, Cond.code yX5_changed cX5_changed 3 (some .int), Cond.fieldLink RX5 22 "JammedBodiesModel" "historyLong" "I", Cond.fieldLink RX5 13 "JammedBodiesModel" "history" "[I"]
def wsX5_turn : List Cond := .code yX5_turn cX5_turn 8 (some .int) :: ((wsX5_turn_r1 ++ (wsX5_turn_r2 ++ (wsX5_turn_r3 ++ wsX5_turn_r4))) ++ wsX50)
def wsX5_settle_r1 : List Cond := [Cond.constant RX5 120 (-1000001), Cond.methodLink RX5 140 yX5_isDirection, Cond.static yX5_isDirection, Cond.initialized RX5, Cond.code yX5_isDirection cX5_isDirection 1 (some .boolean), Cond.constantLong RX5 104 (7), Cond.methodLink RX5 26 yX5_in, Cond.static yX5_in, Cond.code yX5_in cX5_in 6 (some .boolean), Cond.methodLink RX5 122 yX5_keep, Cond.instanceMethod yX5_keep, Cond.selects RX5 yX5_keep yX5_keep, Cond.code yX5_keep cX5_keep 2 none, Cond.fieldLink RX5 16 "JammedBodiesModel" "kept" "[I", Cond.fieldLink RX5 7 "JammedBodiesModel" "all" "[I", Cond.methodLink RX5 146 yX5_settles, Cond.instanceMethod yX5_settles, Cond.selects RX5 yX5_settles yX5_settles, Cond.code yX5_settles cX5_settles 5 (some .int), Cond.methodLink RX5 106 yX5_slides, Cond.instanceMethod yX5_slides, Cond.selects RX5 yX5_slides yX5_slides, Cond.code yX5_slides cX5_slides 5 (some .int), Cond.methodLink RX5 95 yX5_steps]
def wsX5_settle_r2 : List Cond := [Cond.instanceMethod yX5_steps, Cond.selects RX5 yX5_steps yX5_steps, Cond.code yX5_steps cX5_steps 3 (some .boolean), Cond.methodLink RX5 81 yX5_dx, Cond.static yX5_dx, Cond.code yX5_dx cX5_dx 1 (some .int), Cond.methodLink RX5 84 yX5_dy, Cond.static yX5_dy, Cond.code yX5_dy cX5_dy 1 (some .int), Cond.methodLink RX5 87 yX5_moves, Cond.instanceMethod yX5_moves, Cond.selects RX5 yX5_moves yX5_moves, Cond.code yX5_moves cX5_moves 5 none, Cond.methodLink RX5 30 yX5_corners, Cond.instanceMethod yX5_corners, Cond.selects RX5 yX5_corners yX5_corners, Cond.code yX5_corners cX5_corners 2 (some .int), Cond.methodLink RX5 91 yX5_fits, Cond.instanceMethod yX5_fits, Cond.selects RX5 yX5_fits yX5_fits, Cond.code yX5_fits cX5_fits 2 (some .boolean), Cond.methodLink RX5 75 yX5_wallsBy, Cond.instanceMethod yX5_wallsBy, Cond.selects RX5 yX5_wallsBy yX5_wallsBy]
def wsX5_settle_r3 : List Cond := [Cond.code yX5_wallsBy cX5_wallsBy 4 (some .int), Cond.methodLink RX5 63 yX5_leastX, Cond.instanceMethod yX5_leastX, Cond.selects RX5 yX5_leastX yX5_leastX, Cond.code yX5_leastX cX5_leastX 2 (some .int), Cond.methodLink RX5 60 yX5_extreme, Cond.instanceMethod yX5_extreme, Cond.selects RX5 yX5_extreme yX5_extreme, Cond.code yX5_extreme cX5_extreme 7 (some .int), Cond.methodLink RX5 66 yX5_greatestX, Cond.instanceMethod yX5_greatestX, Cond.selects RX5 yX5_greatestX yX5_greatestX, Cond.code yX5_greatestX cX5_greatestX 2 (some .int), Cond.methodLink RX5 69 yX5_leastY, Cond.instanceMethod yX5_leastY, Cond.selects RX5 yX5_leastY yX5_leastY, Cond.code yX5_leastY cX5_leastY 2 (some .int), Cond.methodLink RX5 72 yX5_greatestY, Cond.instanceMethod yX5_greatestY, Cond.selects RX5 yX5_greatestY yX5_greatestY, Cond.code yX5_greatestY cX5_greatestY 2 (some .int), Cond.methodLink RX5 78 yX5_overlapped, Cond.instanceMethod yX5_overlapped, Cond.selects RX5 yX5_overlapped yX5_overlapped]
def wsX5_settle_r4 : List Cond := [Cond.code yX5_overlapped cX5_overlapped 4 (some .int), Cond.methodLink RX5 52 yX5_isParted, Cond.instanceMethod yX5_isParted, Cond.selects RX5 yX5_isParted yX5_isParted, Cond.code yX5_isParted cX5_isParted 4 (some .boolean), Cond.methodLink RX5 49 yX5_parting, Cond.instanceMethod yX5_parting, Cond.selects RX5 yX5_parting yX5_parting, Cond.code yX5_parting cX5_parting 5 (some .int), Cond.methodLink RX5 45 yX5_nearest, Cond.instanceMethod yX5_nearest, Cond.selects RX5 yX5_nearest yX5_nearest, Cond.code yX5_nearest cX5_nearest 6 (some .int), Cond.methodLink RX5 41 yX5_side, Cond.instanceMethod yX5_side, Cond.selects RX5 yX5_side yX5_side, Cond.code yX5_side cX5_side 7 (some .int), Cond.methodLink RX5 34 yX5_x, Cond.instanceMethod yX5_x, Cond.selects RX5 yX5_x yX5_x, Cond.code yX5_x cX5_x 3 (some .int), Cond.methodLink RX5 38 yX5_y, Cond.instanceMethod yX5_y, Cond.selects RX5 yX5_y yX5_y]
def wsX5_settle_r5 : List Cond := [Cond.code yX5_y cX5_y 3 (some .int), Cond.methodLink RX5 125 yX5_changed, Cond.instanceMethod yX5_changed, Cond.selects RX5 yX5_changed yX5_changed, Cond.code yX5_changed cX5_changed 3 (some .int), Cond.fieldLink RX5 22 "JammedBodiesModel" "historyLong" "I", Cond.fieldLink RX5 13 "JammedBodiesModel" "history" "[I"]
def wsX5_settle : List Cond := .code yX5_settle cX5_settle 2 (some .int) :: ((wsX5_settle_r1 ++ (wsX5_settle_r2 ++ (wsX5_settle_r3 ++ (wsX5_settle_r4 ++ wsX5_settle_r5)))) ++ wsX50)
def wsX5_cornerValue : List Cond := .code yX5_cornerValue cX5_cornerValue 4 (some .int) :: ([.constant RX5 149 (-1000004), .methodLink RX5 30 yX5_corners, .instanceMethod yX5_corners, .selects RX5 yX5_corners yX5_corners, .initialized RX5, .code yX5_corners cX5_corners 2 (some .int), .fieldLink RX5 7 "JammedBodiesModel" "all" "[I", .methodLink RX5 34 yX5_x, .instanceMethod yX5_x, .selects RX5 yX5_x yX5_x, .code yX5_x cX5_x 3 (some .int), .methodLink RX5 38 yX5_y, .instanceMethod yX5_y, .selects RX5 yX5_y yX5_y, .code yX5_y cX5_y 3 (some .int)] ++ wsX50)
def wsX5_bodyOf_r1 : List Cond := [Cond.constantLong RX5 150 (21), Cond.constant RX5 120 (-1000001), Cond.methodLink RX5 133 yX5_isBody, Cond.instanceMethod yX5_isBody, Cond.selects RX5 yX5_isBody yX5_isBody, Cond.initialized RX5, Cond.code yX5_isBody cX5_isBody 2 (some .boolean), Cond.fieldLink RX5 7 "JammedBodiesModel" "all" "[I", Cond.methodLink RX5 26 yX5_in, Cond.static yX5_in, Cond.code yX5_in cX5_in 6 (some .boolean), Cond.methodLink RX5 30 yX5_corners, Cond.instanceMethod yX5_corners, Cond.selects RX5 yX5_corners yX5_corners, Cond.code yX5_corners cX5_corners 2 (some .int), Cond.methodLink RX5 109 yX5_area, Cond.instanceMethod yX5_area, Cond.selects RX5 yX5_area yX5_area, Cond.code yX5_area cX5_area 4 (some .int), Cond.methodLink RX5 34 yX5_x, Cond.instanceMethod yX5_x, Cond.selects RX5 yX5_x yX5_x, Cond.code yX5_x cX5_x 3 (some .int), Cond.methodLink RX5 38 yX5_y]
def wsX5_bodyOf_r2 : List Cond := [Cond.instanceMethod yX5_y, Cond.selects RX5 yX5_y yX5_y, Cond.code yX5_y cX5_y 3 (some .int), Cond.methodLink RX5 63 yX5_leastX, Cond.instanceMethod yX5_leastX, Cond.selects RX5 yX5_leastX yX5_leastX, Cond.code yX5_leastX cX5_leastX 2 (some .int), Cond.methodLink RX5 60 yX5_extreme, Cond.instanceMethod yX5_extreme, Cond.selects RX5 yX5_extreme yX5_extreme, Cond.code yX5_extreme cX5_extreme 7 (some .int), Cond.methodLink RX5 66 yX5_greatestX, Cond.instanceMethod yX5_greatestX, Cond.selects RX5 yX5_greatestX yX5_greatestX, Cond.code yX5_greatestX cX5_greatestX 2 (some .int), Cond.methodLink RX5 69 yX5_leastY, Cond.instanceMethod yX5_leastY, Cond.selects RX5 yX5_leastY yX5_leastY, Cond.code yX5_leastY cX5_leastY 2 (some .int), Cond.methodLink RX5 72 yX5_greatestY, Cond.instanceMethod yX5_greatestY, Cond.selects RX5 yX5_greatestY yX5_greatestY, Cond.code yX5_greatestY cX5_greatestY 2 (some .int), Cond.methodLink RX5 75 yX5_wallsBy]
def wsX5_bodyOf_r3 : List Cond := [Cond.instanceMethod yX5_wallsBy, Cond.selects RX5 yX5_wallsBy yX5_wallsBy, Cond.code yX5_wallsBy cX5_wallsBy 4 (some .int), Cond.methodLink RX5 152 yX5_touched, Cond.instanceMethod yX5_touched, Cond.selects RX5 yX5_touched yX5_touched, Cond.code yX5_touched cX5_touched 4 (some .int), Cond.methodLink RX5 56 yX5_touch, Cond.instanceMethod yX5_touch, Cond.selects RX5 yX5_touch yX5_touch, Cond.code yX5_touch cX5_touch 3 (some .boolean), Cond.methodLink RX5 52 yX5_isParted, Cond.instanceMethod yX5_isParted, Cond.selects RX5 yX5_isParted yX5_isParted, Cond.code yX5_isParted cX5_isParted 4 (some .boolean), Cond.methodLink RX5 49 yX5_parting, Cond.instanceMethod yX5_parting, Cond.selects RX5 yX5_parting yX5_parting, Cond.code yX5_parting cX5_parting 5 (some .int), Cond.methodLink RX5 45 yX5_nearest, Cond.instanceMethod yX5_nearest, Cond.selects RX5 yX5_nearest yX5_nearest, Cond.code yX5_nearest cX5_nearest 6 (some .int), Cond.methodLink RX5 41 yX5_side]
def wsX5_bodyOf_r4 : List Cond := [Cond.instanceMethod yX5_side, Cond.selects RX5 yX5_side yX5_side, Cond.code yX5_side cX5_side 7 (some .int), Cond.methodLink RX5 101 yX5_freeDirections, Cond.instanceMethod yX5_freeDirections, Cond.selects RX5 yX5_freeDirections yX5_freeDirections, Cond.code yX5_freeDirections cX5_freeDirections 4 (some .int), Cond.methodLink RX5 98 yX5_isFree, Cond.instanceMethod yX5_isFree, Cond.selects RX5 yX5_isFree yX5_isFree, Cond.code yX5_isFree cX5_isFree 4 (some .boolean), Cond.methodLink RX5 95 yX5_steps, Cond.instanceMethod yX5_steps, Cond.selects RX5 yX5_steps yX5_steps, Cond.code yX5_steps cX5_steps 3 (some .boolean), Cond.methodLink RX5 81 yX5_dx, Cond.static yX5_dx, Cond.code yX5_dx cX5_dx 1 (some .int), Cond.methodLink RX5 84 yX5_dy, Cond.static yX5_dy, Cond.code yX5_dy cX5_dy 1 (some .int), Cond.methodLink RX5 87 yX5_moves, Cond.instanceMethod yX5_moves, Cond.selects RX5 yX5_moves yX5_moves]
def wsX5_bodyOf_r5 : List Cond := [Cond.code yX5_moves cX5_moves 5 none, Cond.methodLink RX5 91 yX5_fits, Cond.instanceMethod yX5_fits, Cond.selects RX5 yX5_fits yX5_fits, Cond.code yX5_fits cX5_fits 2 (some .boolean), Cond.methodLink RX5 78 yX5_overlapped, Cond.instanceMethod yX5_overlapped, Cond.selects RX5 yX5_overlapped yX5_overlapped, Cond.code yX5_overlapped cX5_overlapped 4 (some .int), Cond.methodLink RX5 155 yX5_isJammed, Cond.instanceMethod yX5_isJammed, Cond.selects RX5 yX5_isJammed yX5_isJammed, Cond.code yX5_isJammed cX5_isJammed 2 (some .boolean), Cond.methodLink RX5 158 yX5_cornerValue, Cond.instanceMethod yX5_cornerValue, Cond.selects RX5 yX5_cornerValue yX5_cornerValue, Cond.code yX5_cornerValue cX5_cornerValue 4 (some .int), Cond.constant RX5 149 (-1000004)]
def wsX5_bodyOf : List Cond := .code yX5_bodyOf cX5_bodyOf 3 (some .int) :: ((wsX5_bodyOf_r1 ++ (wsX5_bodyOf_r2 ++ (wsX5_bodyOf_r3 ++ (wsX5_bodyOf_r4 ++ wsX5_bodyOf_r5)))) ++ wsX50)
def wsX5_parts_r1 : List Cond := [Cond.constantLong RX5 161 (2), Cond.constant RX5 120 (-1000001), Cond.methodLink RX5 133 yX5_isBody, Cond.instanceMethod yX5_isBody, Cond.selects RX5 yX5_isBody yX5_isBody, Cond.initialized RX5, Cond.code yX5_isBody cX5_isBody 2 (some .boolean), Cond.fieldLink RX5 7 "JammedBodiesModel" "all" "[I", Cond.methodLink RX5 26 yX5_in, Cond.static yX5_in, Cond.code yX5_in cX5_in 6 (some .boolean), Cond.methodLink RX5 49 yX5_parting, Cond.instanceMethod yX5_parting, Cond.selects RX5 yX5_parting yX5_parting, Cond.code yX5_parting cX5_parting 5 (some .int), Cond.methodLink RX5 30 yX5_corners, Cond.instanceMethod yX5_corners, Cond.selects RX5 yX5_corners yX5_corners, Cond.code yX5_corners cX5_corners 2 (some .int), Cond.methodLink RX5 45 yX5_nearest, Cond.instanceMethod yX5_nearest, Cond.selects RX5 yX5_nearest yX5_nearest, Cond.code yX5_nearest cX5_nearest 6 (some .int), Cond.methodLink RX5 41 yX5_side]
def wsX5_parts_r2 : List Cond := [Cond.instanceMethod yX5_side, Cond.selects RX5 yX5_side yX5_side, Cond.code yX5_side cX5_side 7 (some .int), Cond.methodLink RX5 34 yX5_x, Cond.instanceMethod yX5_x, Cond.selects RX5 yX5_x yX5_x, Cond.code yX5_x cX5_x 3 (some .int), Cond.methodLink RX5 38 yX5_y, Cond.instanceMethod yX5_y, Cond.selects RX5 yX5_y yX5_y, Cond.code yX5_y cX5_y 3 (some .int)]
def wsX5_parts : List Cond := .code yX5_parts cX5_parts 9 (some .int) :: ((wsX5_parts_r1 ++ wsX5_parts_r2) ++ wsX50)
def wsX5_way_r1 : List Cond := [Cond.constantLong RX5 161 (2), Cond.constant RX5 120 (-1000001), Cond.methodLink RX5 133 yX5_isBody, Cond.instanceMethod yX5_isBody, Cond.selects RX5 yX5_isBody yX5_isBody, Cond.initialized RX5, Cond.code yX5_isBody cX5_isBody 2 (some .boolean), Cond.fieldLink RX5 7 "JammedBodiesModel" "all" "[I", Cond.methodLink RX5 26 yX5_in, Cond.static yX5_in, Cond.code yX5_in cX5_in 6 (some .boolean), Cond.methodLink RX5 140 yX5_isDirection, Cond.static yX5_isDirection, Cond.code yX5_isDirection cX5_isDirection 1 (some .boolean), Cond.constantLong RX5 104 (7), Cond.methodLink RX5 122 yX5_keep, Cond.instanceMethod yX5_keep, Cond.selects RX5 yX5_keep yX5_keep, Cond.code yX5_keep cX5_keep 2 none, Cond.fieldLink RX5 16 "JammedBodiesModel" "kept" "[I", Cond.methodLink RX5 106 yX5_slides, Cond.instanceMethod yX5_slides, Cond.selects RX5 yX5_slides yX5_slides, Cond.code yX5_slides cX5_slides 5 (some .int)]
def wsX5_way_r2 : List Cond := [Cond.methodLink RX5 95 yX5_steps, Cond.instanceMethod yX5_steps, Cond.selects RX5 yX5_steps yX5_steps, Cond.code yX5_steps cX5_steps 3 (some .boolean), Cond.methodLink RX5 81 yX5_dx, Cond.static yX5_dx, Cond.code yX5_dx cX5_dx 1 (some .int), Cond.methodLink RX5 84 yX5_dy, Cond.static yX5_dy, Cond.code yX5_dy cX5_dy 1 (some .int), Cond.methodLink RX5 87 yX5_moves, Cond.instanceMethod yX5_moves, Cond.selects RX5 yX5_moves yX5_moves, Cond.code yX5_moves cX5_moves 5 none, Cond.methodLink RX5 30 yX5_corners, Cond.instanceMethod yX5_corners, Cond.selects RX5 yX5_corners yX5_corners, Cond.code yX5_corners cX5_corners 2 (some .int), Cond.methodLink RX5 91 yX5_fits, Cond.instanceMethod yX5_fits, Cond.selects RX5 yX5_fits yX5_fits, Cond.code yX5_fits cX5_fits 2 (some .boolean), Cond.methodLink RX5 75 yX5_wallsBy, Cond.instanceMethod yX5_wallsBy]
def wsX5_way_r3 : List Cond := [Cond.selects RX5 yX5_wallsBy yX5_wallsBy, Cond.code yX5_wallsBy cX5_wallsBy 4 (some .int), Cond.methodLink RX5 63 yX5_leastX, Cond.instanceMethod yX5_leastX, Cond.selects RX5 yX5_leastX yX5_leastX, Cond.code yX5_leastX cX5_leastX 2 (some .int), Cond.methodLink RX5 60 yX5_extreme, Cond.instanceMethod yX5_extreme, Cond.selects RX5 yX5_extreme yX5_extreme, Cond.code yX5_extreme cX5_extreme 7 (some .int), Cond.methodLink RX5 66 yX5_greatestX, Cond.instanceMethod yX5_greatestX, Cond.selects RX5 yX5_greatestX yX5_greatestX, Cond.code yX5_greatestX cX5_greatestX 2 (some .int), Cond.methodLink RX5 69 yX5_leastY, Cond.instanceMethod yX5_leastY, Cond.selects RX5 yX5_leastY yX5_leastY, Cond.code yX5_leastY cX5_leastY 2 (some .int), Cond.methodLink RX5 72 yX5_greatestY, Cond.instanceMethod yX5_greatestY, Cond.selects RX5 yX5_greatestY yX5_greatestY, Cond.code yX5_greatestY cX5_greatestY 2 (some .int), Cond.methodLink RX5 78 yX5_overlapped, Cond.instanceMethod yX5_overlapped]
def wsX5_way_r4 : List Cond := [Cond.selects RX5 yX5_overlapped yX5_overlapped, Cond.code yX5_overlapped cX5_overlapped 4 (some .int), Cond.methodLink RX5 52 yX5_isParted, Cond.instanceMethod yX5_isParted, Cond.selects RX5 yX5_isParted yX5_isParted, Cond.code yX5_isParted cX5_isParted 4 (some .boolean), Cond.methodLink RX5 49 yX5_parting, Cond.instanceMethod yX5_parting, Cond.selects RX5 yX5_parting yX5_parting, Cond.code yX5_parting cX5_parting 5 (some .int), Cond.methodLink RX5 45 yX5_nearest, Cond.instanceMethod yX5_nearest, Cond.selects RX5 yX5_nearest yX5_nearest, Cond.code yX5_nearest cX5_nearest 6 (some .int), Cond.methodLink RX5 41 yX5_side, Cond.instanceMethod yX5_side, Cond.selects RX5 yX5_side yX5_side, Cond.code yX5_side cX5_side 7 (some .int), Cond.methodLink RX5 34 yX5_x, Cond.instanceMethod yX5_x, Cond.selects RX5 yX5_x yX5_x, Cond.code yX5_x cX5_x 3 (some .int), Cond.methodLink RX5 38 yX5_y, Cond.instanceMethod yX5_y]
def wsX5_way_r5 : List Cond := [Cond.selects RX5 yX5_y yX5_y, Cond.code yX5_y cX5_y 3 (some .int), Cond.methodLink RX5 143 yX5_giveBack, Cond.instanceMethod yX5_giveBack, Cond.selects RX5 yX5_giveBack yX5_giveBack, Cond.code yX5_giveBack cX5_giveBack 2 none]
def wsX5_way : List Cond := .code yX5_way cX5_way 6 (some .int) :: ((wsX5_way_r1 ++ (wsX5_way_r2 ++ (wsX5_way_r3 ++ (wsX5_way_r4 ++ wsX5_way_r5)))) ++ wsX50)
def wsX5_together_r1 : List Cond := [Cond.fieldLink RX5 7 "JammedBodiesModel" "all" "[I", Cond.methodLink RX5 152 yX5_touched, Cond.instanceMethod yX5_touched, Cond.selects RX5 yX5_touched yX5_touched, Cond.initialized RX5, Cond.code yX5_touched cX5_touched 4 (some .int), Cond.methodLink RX5 56 yX5_touch, Cond.instanceMethod yX5_touch, Cond.selects RX5 yX5_touch yX5_touch, Cond.code yX5_touch cX5_touch 3 (some .boolean), Cond.methodLink RX5 52 yX5_isParted, Cond.instanceMethod yX5_isParted, Cond.selects RX5 yX5_isParted yX5_isParted, Cond.code yX5_isParted cX5_isParted 4 (some .boolean), Cond.methodLink RX5 49 yX5_parting, Cond.instanceMethod yX5_parting, Cond.selects RX5 yX5_parting yX5_parting, Cond.code yX5_parting cX5_parting 5 (some .int), Cond.methodLink RX5 30 yX5_corners, Cond.instanceMethod yX5_corners, Cond.selects RX5 yX5_corners yX5_corners, Cond.code yX5_corners cX5_corners 2 (some .int), Cond.methodLink RX5 45 yX5_nearest, Cond.instanceMethod yX5_nearest]
def wsX5_together_r2 : List Cond := [Cond.selects RX5 yX5_nearest yX5_nearest, Cond.code yX5_nearest cX5_nearest 6 (some .int), Cond.methodLink RX5 41 yX5_side, Cond.instanceMethod yX5_side, Cond.selects RX5 yX5_side yX5_side, Cond.code yX5_side cX5_side 7 (some .int), Cond.methodLink RX5 34 yX5_x, Cond.instanceMethod yX5_x, Cond.selects RX5 yX5_x yX5_x, Cond.code yX5_x cX5_x 3 (some .int), Cond.methodLink RX5 38 yX5_y, Cond.instanceMethod yX5_y, Cond.selects RX5 yX5_y yX5_y, Cond.code yX5_y cX5_y 3 (some .int)]
def wsX5_together : List Cond := .code yX5_together cX5_together 5 (some .int) :: ((wsX5_together_r1 ++ wsX5_together_r2) ++ wsX50)
def wsX5_counts_r1 : List Cond := [Cond.methodLink RX5 155 yX5_isJammed, Cond.instanceMethod yX5_isJammed, Cond.selects RX5 yX5_isJammed yX5_isJammed, Cond.initialized RX5, Cond.code yX5_isJammed cX5_isJammed 2 (some .boolean), Cond.methodLink RX5 101 yX5_freeDirections, Cond.instanceMethod yX5_freeDirections, Cond.selects RX5 yX5_freeDirections yX5_freeDirections, Cond.code yX5_freeDirections cX5_freeDirections 4 (some .int), Cond.methodLink RX5 98 yX5_isFree, Cond.instanceMethod yX5_isFree, Cond.selects RX5 yX5_isFree yX5_isFree, Cond.code yX5_isFree cX5_isFree 4 (some .boolean), Cond.methodLink RX5 95 yX5_steps, Cond.instanceMethod yX5_steps, Cond.selects RX5 yX5_steps yX5_steps, Cond.code yX5_steps cX5_steps 3 (some .boolean), Cond.methodLink RX5 81 yX5_dx, Cond.static yX5_dx, Cond.code yX5_dx cX5_dx 1 (some .int), Cond.methodLink RX5 84 yX5_dy, Cond.static yX5_dy, Cond.code yX5_dy cX5_dy 1 (some .int), Cond.methodLink RX5 87 yX5_moves]
def wsX5_counts_r2 : List Cond := [Cond.instanceMethod yX5_moves, Cond.selects RX5 yX5_moves yX5_moves, Cond.code yX5_moves cX5_moves 5 none, Cond.fieldLink RX5 7 "JammedBodiesModel" "all" "[I", Cond.methodLink RX5 30 yX5_corners, Cond.instanceMethod yX5_corners, Cond.selects RX5 yX5_corners yX5_corners, Cond.code yX5_corners cX5_corners 2 (some .int), Cond.methodLink RX5 91 yX5_fits, Cond.instanceMethod yX5_fits, Cond.selects RX5 yX5_fits yX5_fits, Cond.code yX5_fits cX5_fits 2 (some .boolean), Cond.methodLink RX5 75 yX5_wallsBy, Cond.instanceMethod yX5_wallsBy, Cond.selects RX5 yX5_wallsBy yX5_wallsBy, Cond.code yX5_wallsBy cX5_wallsBy 4 (some .int), Cond.methodLink RX5 63 yX5_leastX, Cond.instanceMethod yX5_leastX, Cond.selects RX5 yX5_leastX yX5_leastX, Cond.code yX5_leastX cX5_leastX 2 (some .int), Cond.methodLink RX5 60 yX5_extreme, Cond.instanceMethod yX5_extreme, Cond.selects RX5 yX5_extreme yX5_extreme, Cond.code yX5_extreme cX5_extreme 7 (some .int)]
def wsX5_counts_r3 : List Cond := [Cond.methodLink RX5 66 yX5_greatestX, Cond.instanceMethod yX5_greatestX, Cond.selects RX5 yX5_greatestX yX5_greatestX, Cond.code yX5_greatestX cX5_greatestX 2 (some .int), Cond.methodLink RX5 69 yX5_leastY, Cond.instanceMethod yX5_leastY, Cond.selects RX5 yX5_leastY yX5_leastY, Cond.code yX5_leastY cX5_leastY 2 (some .int), Cond.methodLink RX5 72 yX5_greatestY, Cond.instanceMethod yX5_greatestY, Cond.selects RX5 yX5_greatestY yX5_greatestY, Cond.code yX5_greatestY cX5_greatestY 2 (some .int), Cond.methodLink RX5 78 yX5_overlapped, Cond.instanceMethod yX5_overlapped, Cond.selects RX5 yX5_overlapped yX5_overlapped, Cond.code yX5_overlapped cX5_overlapped 4 (some .int), Cond.methodLink RX5 52 yX5_isParted, Cond.instanceMethod yX5_isParted, Cond.selects RX5 yX5_isParted yX5_isParted, Cond.code yX5_isParted cX5_isParted 4 (some .boolean), Cond.methodLink RX5 49 yX5_parting, Cond.instanceMethod yX5_parting, Cond.selects RX5 yX5_parting yX5_parting, Cond.code yX5_parting cX5_parting 5 (some .int)]
def wsX5_counts_r4 : List Cond := [Cond.methodLink RX5 45 yX5_nearest, Cond.instanceMethod yX5_nearest, Cond.selects RX5 yX5_nearest yX5_nearest, Cond.code yX5_nearest cX5_nearest 6 (some .int), Cond.methodLink RX5 41 yX5_side, Cond.instanceMethod yX5_side, Cond.selects RX5 yX5_side yX5_side, Cond.code yX5_side cX5_side 7 (some .int), Cond.methodLink RX5 34 yX5_x, Cond.instanceMethod yX5_x, Cond.selects RX5 yX5_x yX5_x, Cond.code yX5_x cX5_x 3 (some .int), Cond.methodLink RX5 38 yX5_y, Cond.instanceMethod yX5_y, Cond.selects RX5 yX5_y yX5_y, Cond.code yX5_y cX5_y 3 (some .int), Cond.methodLink RX5 152 yX5_touched, Cond.instanceMethod yX5_touched, Cond.selects RX5 yX5_touched yX5_touched, Cond.code yX5_touched cX5_touched 4 (some .int), Cond.methodLink RX5 56 yX5_touch, Cond.instanceMethod yX5_touch, Cond.selects RX5 yX5_touch yX5_touch, Cond.code yX5_touch cX5_touch 3 (some .boolean)]
def wsX5_counts : List Cond := .code yX5_counts cX5_counts 3 (some .boolean) :: ((wsX5_counts_r1 ++ (wsX5_counts_r2 ++ (wsX5_counts_r3 ++ wsX5_counts_r4))) ++ wsX50)
def wsX5_bodies_r1 : List Cond := [Cond.constantLong RX5 163 (3), Cond.constant RX5 120 (-1000001), Cond.fieldLink RX5 7 "JammedBodiesModel" "all" "[I", Cond.methodLink RX5 26 yX5_in, Cond.static yX5_in, Cond.initialized RX5, Cond.code yX5_in cX5_in 6 (some .boolean), Cond.methodLink RX5 165 yX5_counts, Cond.instanceMethod yX5_counts, Cond.selects RX5 yX5_counts yX5_counts, Cond.code yX5_counts cX5_counts 3 (some .boolean), Cond.methodLink RX5 155 yX5_isJammed, Cond.instanceMethod yX5_isJammed, Cond.selects RX5 yX5_isJammed yX5_isJammed, Cond.code yX5_isJammed cX5_isJammed 2 (some .boolean), Cond.methodLink RX5 101 yX5_freeDirections, Cond.instanceMethod yX5_freeDirections, Cond.selects RX5 yX5_freeDirections yX5_freeDirections, Cond.code yX5_freeDirections cX5_freeDirections 4 (some .int), Cond.methodLink RX5 98 yX5_isFree, Cond.instanceMethod yX5_isFree, Cond.selects RX5 yX5_isFree yX5_isFree, Cond.code yX5_isFree cX5_isFree 4 (some .boolean), Cond.methodLink RX5 95 yX5_steps]
def wsX5_bodies_r2 : List Cond := [Cond.instanceMethod yX5_steps, Cond.selects RX5 yX5_steps yX5_steps, Cond.code yX5_steps cX5_steps 3 (some .boolean), Cond.methodLink RX5 81 yX5_dx, Cond.static yX5_dx, Cond.code yX5_dx cX5_dx 1 (some .int), Cond.methodLink RX5 84 yX5_dy, Cond.static yX5_dy, Cond.code yX5_dy cX5_dy 1 (some .int), Cond.methodLink RX5 87 yX5_moves, Cond.instanceMethod yX5_moves, Cond.selects RX5 yX5_moves yX5_moves, Cond.code yX5_moves cX5_moves 5 none, Cond.methodLink RX5 30 yX5_corners, Cond.instanceMethod yX5_corners, Cond.selects RX5 yX5_corners yX5_corners, Cond.code yX5_corners cX5_corners 2 (some .int), Cond.methodLink RX5 91 yX5_fits, Cond.instanceMethod yX5_fits, Cond.selects RX5 yX5_fits yX5_fits, Cond.code yX5_fits cX5_fits 2 (some .boolean), Cond.methodLink RX5 75 yX5_wallsBy, Cond.instanceMethod yX5_wallsBy, Cond.selects RX5 yX5_wallsBy yX5_wallsBy]
def wsX5_bodies_r3 : List Cond := [Cond.code yX5_wallsBy cX5_wallsBy 4 (some .int), Cond.methodLink RX5 63 yX5_leastX, Cond.instanceMethod yX5_leastX, Cond.selects RX5 yX5_leastX yX5_leastX, Cond.code yX5_leastX cX5_leastX 2 (some .int), Cond.methodLink RX5 60 yX5_extreme, Cond.instanceMethod yX5_extreme, Cond.selects RX5 yX5_extreme yX5_extreme, Cond.code yX5_extreme cX5_extreme 7 (some .int), Cond.methodLink RX5 66 yX5_greatestX, Cond.instanceMethod yX5_greatestX, Cond.selects RX5 yX5_greatestX yX5_greatestX, Cond.code yX5_greatestX cX5_greatestX 2 (some .int), Cond.methodLink RX5 69 yX5_leastY, Cond.instanceMethod yX5_leastY, Cond.selects RX5 yX5_leastY yX5_leastY, Cond.code yX5_leastY cX5_leastY 2 (some .int), Cond.methodLink RX5 72 yX5_greatestY, Cond.instanceMethod yX5_greatestY, Cond.selects RX5 yX5_greatestY yX5_greatestY, Cond.code yX5_greatestY cX5_greatestY 2 (some .int), Cond.methodLink RX5 78 yX5_overlapped, Cond.instanceMethod yX5_overlapped, Cond.selects RX5 yX5_overlapped yX5_overlapped]
def wsX5_bodies_r4 : List Cond := [Cond.code yX5_overlapped cX5_overlapped 4 (some .int), Cond.methodLink RX5 52 yX5_isParted, Cond.instanceMethod yX5_isParted, Cond.selects RX5 yX5_isParted yX5_isParted, Cond.code yX5_isParted cX5_isParted 4 (some .boolean), Cond.methodLink RX5 49 yX5_parting, Cond.instanceMethod yX5_parting, Cond.selects RX5 yX5_parting yX5_parting, Cond.code yX5_parting cX5_parting 5 (some .int), Cond.methodLink RX5 45 yX5_nearest, Cond.instanceMethod yX5_nearest, Cond.selects RX5 yX5_nearest yX5_nearest, Cond.code yX5_nearest cX5_nearest 6 (some .int), Cond.methodLink RX5 41 yX5_side, Cond.instanceMethod yX5_side, Cond.selects RX5 yX5_side yX5_side, Cond.code yX5_side cX5_side 7 (some .int), Cond.methodLink RX5 34 yX5_x, Cond.instanceMethod yX5_x, Cond.selects RX5 yX5_x yX5_x, Cond.code yX5_x cX5_x 3 (some .int), Cond.methodLink RX5 38 yX5_y, Cond.instanceMethod yX5_y, Cond.selects RX5 yX5_y yX5_y]
def wsX5_bodies_r5 : List Cond := [Cond.code yX5_y cX5_y 3 (some .int), Cond.methodLink RX5 152 yX5_touched, Cond.instanceMethod yX5_touched, Cond.selects RX5 yX5_touched yX5_touched, Cond.code yX5_touched cX5_touched 4 (some .int), Cond.methodLink RX5 56 yX5_touch, Cond.instanceMethod yX5_touch, Cond.selects RX5 yX5_touch yX5_touch, Cond.code yX5_touch cX5_touch 3 (some .boolean), Cond.methodLink RX5 168 yX5_together, Cond.instanceMethod yX5_together, Cond.selects RX5 yX5_together yX5_together, Cond.code yX5_together cX5_together 5 (some .int)]
def wsX5_bodies : List Cond := .code yX5_bodies cX5_bodies 4 (some .int) :: ((wsX5_bodies_r1 ++ (wsX5_bodies_r2 ++ (wsX5_bodies_r3 ++ (wsX5_bodies_r4 ++ wsX5_bodies_r5)))) ++ wsX50)
def wsX5_group_r1 : List Cond := [Cond.constant RX5 120 (-1000001), Cond.fieldLink RX5 7 "JammedBodiesModel" "all" "[I", Cond.constant RX5 149 (-1000004), Cond.methodLink RX5 168 yX5_together, Cond.instanceMethod yX5_together, Cond.selects RX5 yX5_together yX5_together, Cond.initialized RX5, Cond.code yX5_together cX5_together 5 (some .int), Cond.methodLink RX5 152 yX5_touched, Cond.instanceMethod yX5_touched, Cond.selects RX5 yX5_touched yX5_touched, Cond.code yX5_touched cX5_touched 4 (some .int), Cond.methodLink RX5 56 yX5_touch, Cond.instanceMethod yX5_touch, Cond.selects RX5 yX5_touch yX5_touch, Cond.code yX5_touch cX5_touch 3 (some .boolean), Cond.methodLink RX5 52 yX5_isParted, Cond.instanceMethod yX5_isParted, Cond.selects RX5 yX5_isParted yX5_isParted, Cond.code yX5_isParted cX5_isParted 4 (some .boolean), Cond.methodLink RX5 49 yX5_parting, Cond.instanceMethod yX5_parting, Cond.selects RX5 yX5_parting yX5_parting, Cond.code yX5_parting cX5_parting 5 (some .int)]
def wsX5_group_r2 : List Cond := [Cond.methodLink RX5 30 yX5_corners, Cond.instanceMethod yX5_corners, Cond.selects RX5 yX5_corners yX5_corners, Cond.code yX5_corners cX5_corners 2 (some .int), Cond.methodLink RX5 45 yX5_nearest, Cond.instanceMethod yX5_nearest, Cond.selects RX5 yX5_nearest yX5_nearest, Cond.code yX5_nearest cX5_nearest 6 (some .int), Cond.methodLink RX5 41 yX5_side, Cond.instanceMethod yX5_side, Cond.selects RX5 yX5_side yX5_side, Cond.code yX5_side cX5_side 7 (some .int), Cond.methodLink RX5 34 yX5_x, Cond.instanceMethod yX5_x, Cond.selects RX5 yX5_x yX5_x, Cond.code yX5_x cX5_x 3 (some .int), Cond.methodLink RX5 38 yX5_y, Cond.instanceMethod yX5_y, Cond.selects RX5 yX5_y yX5_y, Cond.code yX5_y cX5_y 3 (some .int)]
def wsX5_group : List Cond := .code yX5_group cX5_group 6 (some .int) :: ((wsX5_group_r1 ++ wsX5_group_r2) ++ wsX50)
def wsX5_shareBits : List Cond := .code yX5_shareBits cX5_shareBits 12 (some .int) :: ([.constantLong RX5 161 (2), .constantLong RX5 171 (8388608), .constantLong RX5 173 (16777216)])
def wsX5_density_r1 : List Cond := [Cond.fieldLink RX5 7 "JammedBodiesModel" "all" "[I", Cond.methodLink RX5 175 yX5_areas, Cond.instanceMethod yX5_areas, Cond.selects RX5 yX5_areas yX5_areas, Cond.initialized RX5, Cond.code yX5_areas cX5_areas 3 (some .int), Cond.methodLink RX5 109 yX5_area, Cond.instanceMethod yX5_area, Cond.selects RX5 yX5_area yX5_area, Cond.code yX5_area cX5_area 4 (some .int), Cond.methodLink RX5 30 yX5_corners, Cond.instanceMethod yX5_corners, Cond.selects RX5 yX5_corners yX5_corners, Cond.code yX5_corners cX5_corners 2 (some .int), Cond.methodLink RX5 34 yX5_x, Cond.instanceMethod yX5_x, Cond.selects RX5 yX5_x yX5_x, Cond.code yX5_x cX5_x 3 (some .int), Cond.methodLink RX5 38 yX5_y, Cond.instanceMethod yX5_y, Cond.selects RX5 yX5_y yX5_y, Cond.code yX5_y cX5_y 3 (some .int), Cond.methodLink RX5 179 yX5_shareBits, Cond.static yX5_shareBits]
def wsX5_density_r2 : List Cond := [Cond.code yX5_shareBits cX5_shareBits 12 (some .int), Cond.constantLong RX5 161 (2), Cond.constantLong RX5 171 (8388608), Cond.constantLong RX5 173 (16777216)]
def wsX5_density : List Cond := .code yX5_density cX5_density 2 (some .int) :: ((wsX5_density_r1 ++ wsX5_density_r2) ++ wsX50)
def wsX5_keystone_r1 : List Cond := [Cond.constant RX5 120 (-1000001), Cond.fieldLink RX5 7 "JammedBodiesModel" "all" "[I", Cond.constant RX5 149 (-1000004), Cond.methodLink RX5 140 yX5_isDirection, Cond.static yX5_isDirection, Cond.initialized RX5, Cond.code yX5_isDirection cX5_isDirection 1 (some .boolean), Cond.constantLong RX5 104 (7), Cond.methodLink RX5 26 yX5_in, Cond.static yX5_in, Cond.code yX5_in cX5_in 6 (some .boolean), Cond.methodLink RX5 122 yX5_keep, Cond.instanceMethod yX5_keep, Cond.selects RX5 yX5_keep yX5_keep, Cond.code yX5_keep cX5_keep 2 none, Cond.fieldLink RX5 16 "JammedBodiesModel" "kept" "[I", Cond.methodLink RX5 136 yX5_takesOut, Cond.instanceMethod yX5_takesOut, Cond.selects RX5 yX5_takesOut yX5_takesOut, Cond.code yX5_takesOut cX5_takesOut 3 none, Cond.methodLink RX5 112 yX5_copyBody, Cond.instanceMethod yX5_copyBody, Cond.selects RX5 yX5_copyBody yX5_copyBody, Cond.code yX5_copyBody cX5_copyBody 4 none]
def wsX5_keystone_r2 : List Cond := [Cond.methodLink RX5 146 yX5_settles, Cond.instanceMethod yX5_settles, Cond.selects RX5 yX5_settles yX5_settles, Cond.code yX5_settles cX5_settles 5 (some .int), Cond.methodLink RX5 106 yX5_slides, Cond.instanceMethod yX5_slides, Cond.selects RX5 yX5_slides yX5_slides, Cond.code yX5_slides cX5_slides 5 (some .int), Cond.methodLink RX5 95 yX5_steps, Cond.instanceMethod yX5_steps, Cond.selects RX5 yX5_steps yX5_steps, Cond.code yX5_steps cX5_steps 3 (some .boolean), Cond.methodLink RX5 81 yX5_dx, Cond.static yX5_dx, Cond.code yX5_dx cX5_dx 1 (some .int), Cond.methodLink RX5 84 yX5_dy, Cond.static yX5_dy, Cond.code yX5_dy cX5_dy 1 (some .int), Cond.methodLink RX5 87 yX5_moves, Cond.instanceMethod yX5_moves, Cond.selects RX5 yX5_moves yX5_moves, Cond.code yX5_moves cX5_moves 5 none, Cond.methodLink RX5 30 yX5_corners, Cond.instanceMethod yX5_corners]
def wsX5_keystone_r3 : List Cond := [Cond.selects RX5 yX5_corners yX5_corners, Cond.code yX5_corners cX5_corners 2 (some .int), Cond.methodLink RX5 91 yX5_fits, Cond.instanceMethod yX5_fits, Cond.selects RX5 yX5_fits yX5_fits, Cond.code yX5_fits cX5_fits 2 (some .boolean), Cond.methodLink RX5 75 yX5_wallsBy, Cond.instanceMethod yX5_wallsBy, Cond.selects RX5 yX5_wallsBy yX5_wallsBy, Cond.code yX5_wallsBy cX5_wallsBy 4 (some .int), Cond.methodLink RX5 63 yX5_leastX, Cond.instanceMethod yX5_leastX, Cond.selects RX5 yX5_leastX yX5_leastX, Cond.code yX5_leastX cX5_leastX 2 (some .int), Cond.methodLink RX5 60 yX5_extreme, Cond.instanceMethod yX5_extreme, Cond.selects RX5 yX5_extreme yX5_extreme, Cond.code yX5_extreme cX5_extreme 7 (some .int), Cond.methodLink RX5 66 yX5_greatestX, Cond.instanceMethod yX5_greatestX, Cond.selects RX5 yX5_greatestX yX5_greatestX, Cond.code yX5_greatestX cX5_greatestX 2 (some .int), Cond.methodLink RX5 69 yX5_leastY, Cond.instanceMethod yX5_leastY]
def wsX5_keystone_r4 : List Cond := [Cond.selects RX5 yX5_leastY yX5_leastY, Cond.code yX5_leastY cX5_leastY 2 (some .int), Cond.methodLink RX5 72 yX5_greatestY, Cond.instanceMethod yX5_greatestY, Cond.selects RX5 yX5_greatestY yX5_greatestY, Cond.code yX5_greatestY cX5_greatestY 2 (some .int), Cond.methodLink RX5 78 yX5_overlapped, Cond.instanceMethod yX5_overlapped, Cond.selects RX5 yX5_overlapped yX5_overlapped, Cond.code yX5_overlapped cX5_overlapped 4 (some .int), Cond.methodLink RX5 52 yX5_isParted, Cond.instanceMethod yX5_isParted, Cond.selects RX5 yX5_isParted yX5_isParted, Cond.code yX5_isParted cX5_isParted 4 (some .boolean), Cond.methodLink RX5 49 yX5_parting, Cond.instanceMethod yX5_parting, Cond.selects RX5 yX5_parting yX5_parting, Cond.code yX5_parting cX5_parting 5 (some .int), Cond.methodLink RX5 45 yX5_nearest, Cond.instanceMethod yX5_nearest, Cond.selects RX5 yX5_nearest yX5_nearest, Cond.code yX5_nearest cX5_nearest 6 (some .int), Cond.methodLink RX5 41 yX5_side, Cond.instanceMethod yX5_side]
def wsX5_keystone_r5 : List Cond := [Cond.selects RX5 yX5_side yX5_side, Cond.code yX5_side cX5_side 7 (some .int), Cond.methodLink RX5 34 yX5_x, Cond.instanceMethod yX5_x, Cond.selects RX5 yX5_x yX5_x, Cond.code yX5_x cX5_x 3 (some .int), Cond.methodLink RX5 38 yX5_y, Cond.instanceMethod yX5_y, Cond.selects RX5 yX5_y yX5_y, Cond.code yX5_y cX5_y 3 (some .int), Cond.methodLink RX5 143 yX5_giveBack, Cond.instanceMethod yX5_giveBack, Cond.selects RX5 yX5_giveBack yX5_giveBack, Cond.code yX5_giveBack cX5_giveBack 2 none]
def wsX5_keystone : List Cond := .code yX5_keystone cX5_keystone 8 (some .int) :: ((wsX5_keystone_r1 ++ (wsX5_keystone_r2 ++ (wsX5_keystone_r3 ++ (wsX5_keystone_r4 ++ wsX5_keystone_r5)))) ++ wsX50)
def wsX5_cornersOfAll : List Cond := .code yX5_cornersOfAll cX5_cornersOfAll 3 (some .int) :: ([.fieldLink RX5 7 "JammedBodiesModel" "all" "[I", .methodLink RX5 30 yX5_corners, .instanceMethod yX5_corners, .selects RX5 yX5_corners yX5_corners, .initialized RX5, .code yX5_corners cX5_corners 2 (some .int)] ++ wsX50)
def wsX5_pairs_r1 : List Cond := [Cond.fieldLink RX5 7 "JammedBodiesModel" "all" "[I", Cond.methodLink RX5 152 yX5_touched, Cond.instanceMethod yX5_touched, Cond.selects RX5 yX5_touched yX5_touched, Cond.initialized RX5, Cond.code yX5_touched cX5_touched 4 (some .int), Cond.methodLink RX5 56 yX5_touch, Cond.instanceMethod yX5_touch, Cond.selects RX5 yX5_touch yX5_touch, Cond.code yX5_touch cX5_touch 3 (some .boolean), Cond.methodLink RX5 52 yX5_isParted, Cond.instanceMethod yX5_isParted, Cond.selects RX5 yX5_isParted yX5_isParted, Cond.code yX5_isParted cX5_isParted 4 (some .boolean), Cond.methodLink RX5 49 yX5_parting, Cond.instanceMethod yX5_parting, Cond.selects RX5 yX5_parting yX5_parting, Cond.code yX5_parting cX5_parting 5 (some .int), Cond.methodLink RX5 30 yX5_corners, Cond.instanceMethod yX5_corners, Cond.selects RX5 yX5_corners yX5_corners, Cond.code yX5_corners cX5_corners 2 (some .int), Cond.methodLink RX5 45 yX5_nearest, Cond.instanceMethod yX5_nearest]
def wsX5_pairs_r2 : List Cond := [Cond.selects RX5 yX5_nearest yX5_nearest, Cond.code yX5_nearest cX5_nearest 6 (some .int), Cond.methodLink RX5 41 yX5_side, Cond.instanceMethod yX5_side, Cond.selects RX5 yX5_side yX5_side, Cond.code yX5_side cX5_side 7 (some .int), Cond.methodLink RX5 34 yX5_x, Cond.instanceMethod yX5_x, Cond.selects RX5 yX5_x yX5_x, Cond.code yX5_x cX5_x 3 (some .int), Cond.methodLink RX5 38 yX5_y, Cond.instanceMethod yX5_y, Cond.selects RX5 yX5_y yX5_y, Cond.code yX5_y cX5_y 3 (some .int)]
def wsX5_pairs : List Cond := .code yX5_pairs cX5_pairs 4 (some .int) :: ((wsX5_pairs_r1 ++ wsX5_pairs_r2) ++ wsX50)
def wsX5_count_r1 : List Cond := [Cond.fieldLink RX5 7 "JammedBodiesModel" "all" "[I", Cond.fieldLink RX5 22 "JammedBodiesModel" "historyLong" "I", Cond.fieldLink RX5 188 "JammedBodiesModel" "textLong" "I", Cond.constant RX5 120 (-1000001), Cond.methodLink RX5 175 yX5_areas, Cond.instanceMethod yX5_areas, Cond.selects RX5 yX5_areas yX5_areas, Cond.initialized RX5, Cond.code yX5_areas cX5_areas 3 (some .int), Cond.methodLink RX5 109 yX5_area, Cond.instanceMethod yX5_area, Cond.selects RX5 yX5_area yX5_area, Cond.code yX5_area cX5_area 4 (some .int), Cond.methodLink RX5 30 yX5_corners, Cond.instanceMethod yX5_corners, Cond.selects RX5 yX5_corners yX5_corners, Cond.code yX5_corners cX5_corners 2 (some .int), Cond.methodLink RX5 34 yX5_x, Cond.instanceMethod yX5_x, Cond.selects RX5 yX5_x yX5_x, Cond.code yX5_x cX5_x 3 (some .int), Cond.methodLink RX5 38 yX5_y, Cond.instanceMethod yX5_y, Cond.selects RX5 yX5_y yX5_y]
def wsX5_count_r2 : List Cond := [Cond.code yX5_y cX5_y 3 (some .int), Cond.methodLink RX5 182 yX5_cornersOfAll, Cond.instanceMethod yX5_cornersOfAll, Cond.selects RX5 yX5_cornersOfAll yX5_cornersOfAll, Cond.code yX5_cornersOfAll cX5_cornersOfAll 3 (some .int), Cond.methodLink RX5 185 yX5_pairs, Cond.instanceMethod yX5_pairs, Cond.selects RX5 yX5_pairs yX5_pairs, Cond.code yX5_pairs cX5_pairs 4 (some .int), Cond.methodLink RX5 152 yX5_touched, Cond.instanceMethod yX5_touched, Cond.selects RX5 yX5_touched yX5_touched, Cond.code yX5_touched cX5_touched 4 (some .int), Cond.methodLink RX5 56 yX5_touch, Cond.instanceMethod yX5_touch, Cond.selects RX5 yX5_touch yX5_touch, Cond.code yX5_touch cX5_touch 3 (some .boolean), Cond.methodLink RX5 52 yX5_isParted, Cond.instanceMethod yX5_isParted, Cond.selects RX5 yX5_isParted yX5_isParted, Cond.code yX5_isParted cX5_isParted 4 (some .boolean), Cond.methodLink RX5 49 yX5_parting, Cond.instanceMethod yX5_parting, Cond.selects RX5 yX5_parting yX5_parting]
def wsX5_count_r3 : List Cond := [Cond.code yX5_parting cX5_parting 5 (some .int), Cond.methodLink RX5 45 yX5_nearest, Cond.instanceMethod yX5_nearest, Cond.selects RX5 yX5_nearest yX5_nearest, Cond.code yX5_nearest cX5_nearest 6 (some .int), Cond.methodLink RX5 41 yX5_side, Cond.instanceMethod yX5_side, Cond.selects RX5 yX5_side yX5_side, Cond.code yX5_side cX5_side 7 (some .int)]
def wsX5_count : List Cond := .code yX5_count cX5_count 2 (some .int) :: ((wsX5_count_r1 ++ (wsX5_count_r2 ++ wsX5_count_r3)) ++ wsX50)
def wsX5_undo : List Cond := .code yX5_undo cX5_undo 2 (some .int) :: ([.fieldLink RX5 22 "JammedBodiesModel" "historyLong" "I", .constant RX5 121 (-1000002), .fieldLink RX5 7 "JammedBodiesModel" "all" "[I", .fieldLink RX5 13 "JammedBodiesModel" "history" "[I"] ++ wsX50)
def wsX5_type : List Cond := .code yX5_type cX5_type 2 (some .int) :: ([.constantLong RX5 191 (32), .constantLong RX5 193 (126), .constant RX5 120 (-1000001), .fieldLink RX5 188 "JammedBodiesModel" "textLong" "I", .constant RX5 132 (-1000003), .fieldLink RX5 19 "JammedBodiesModel" "text" "[I", .methodLink RX5 26 yX5_in, .static yX5_in, .initialized RX5, .code yX5_in cX5_in 6 (some .boolean)] ++ wsX50)
def wsX5_clearText : List Cond := .code yX5_clearText cX5_clearText 2 (some .int) :: ([.fieldLink RX5 188 "JammedBodiesModel" "textLong" "I"] ++ wsX50)
def wsX5_fault_r1 : List Cond := [Cond.constantLong RX5 161 (2), Cond.constant RX5 120 (-1000001), Cond.constant RX5 149 (-1000004), Cond.fieldLink RX5 211 "JammedBodiesModel" "faultAt" "I", Cond.fieldLink RX5 214 "JammedBodiesModel" "faultWhy" "I", Cond.fieldLink RX5 217 "JammedBodiesModel" "faultCause" "I", Cond.methodLink RX5 26 yX5_in, Cond.static yX5_in, Cond.initialized RX5, Cond.code yX5_in cX5_in 6 (some .boolean), Cond.methodLink RX5 128 yX5_hasFault, Cond.instanceMethod yX5_hasFault, Cond.selects RX5 yX5_hasFault yX5_hasFault, Cond.code yX5_hasFault cX5_hasFault 5 (some .boolean), Cond.fieldLink RX5 195 "JammedBodiesModel" "spot" "I", Cond.methodLink RX5 220 yX5_reads, Cond.instanceMethod yX5_reads, Cond.selects RX5 yX5_reads yX5_reads, Cond.code yX5_reads cX5_reads 3 (some .boolean), Cond.fieldLink RX5 7 "JammedBodiesModel" "all" "[I", Cond.fieldLink RX5 188 "JammedBodiesModel" "textLong" "I", Cond.methodLink RX5 202 yX5_takesNumber, Cond.instanceMethod yX5_takesNumber, Cond.selects RX5 yX5_takesNumber yX5_takesNumber]
def wsX5_fault_r2 : List Cond := [Cond.code yX5_takesNumber cX5_takesNumber 3 (some .boolean), Cond.fieldLink RX5 19 "JammedBodiesModel" "text" "[I", Cond.constantLong RX5 198 (48), Cond.constantLong RX5 200 (57), Cond.methodLink RX5 205 yX5_takes, Cond.instanceMethod yX5_takes, Cond.selects RX5 yX5_takes yX5_takes, Cond.code yX5_takes cX5_takes 3 (some .boolean), Cond.methodLink RX5 223 yX5_notes, Cond.instanceMethod yX5_notes, Cond.selects RX5 yX5_notes yX5_notes, Cond.code yX5_notes cX5_notes 4 (some .boolean), Cond.methodLink RX5 226 yX5_cornerOutside, Cond.instanceMethod yX5_cornerOutside, Cond.selects RX5 yX5_cornerOutside yX5_cornerOutside, Cond.code yX5_cornerOutside cX5_cornerOutside 2 (some .int), Cond.methodLink RX5 30 yX5_corners, Cond.instanceMethod yX5_corners, Cond.selects RX5 yX5_corners yX5_corners, Cond.code yX5_corners cX5_corners 2 (some .int), Cond.methodLink RX5 34 yX5_x, Cond.instanceMethod yX5_x, Cond.selects RX5 yX5_x yX5_x, Cond.code yX5_x cX5_x 3 (some .int)]
def wsX5_fault_r3 : List Cond := [Cond.methodLink RX5 38 yX5_y, Cond.instanceMethod yX5_y, Cond.selects RX5 yX5_y yX5_y, Cond.code yX5_y cX5_y 3 (some .int), Cond.methodLink RX5 229 yX5_badCorner, Cond.instanceMethod yX5_badCorner, Cond.selects RX5 yX5_badCorner yX5_badCorner, Cond.code yX5_badCorner cX5_badCorner 4 (some .int), Cond.methodLink RX5 41 yX5_side, Cond.instanceMethod yX5_side, Cond.selects RX5 yX5_side yX5_side, Cond.code yX5_side cX5_side 7 (some .int), Cond.methodLink RX5 208 yX5_goesUp, Cond.instanceMethod yX5_goesUp, Cond.selects RX5 yX5_goesUp yX5_goesUp, Cond.code yX5_goesUp cX5_goesUp 3 (some .boolean), Cond.methodLink RX5 78 yX5_overlapped, Cond.instanceMethod yX5_overlapped, Cond.selects RX5 yX5_overlapped yX5_overlapped, Cond.code yX5_overlapped cX5_overlapped 4 (some .int), Cond.methodLink RX5 52 yX5_isParted, Cond.instanceMethod yX5_isParted, Cond.selects RX5 yX5_isParted yX5_isParted, Cond.code yX5_isParted cX5_isParted 4 (some .boolean)]
def wsX5_fault_r4 : List Cond := [Cond.methodLink RX5 49 yX5_parting, Cond.instanceMethod yX5_parting, Cond.selects RX5 yX5_parting yX5_parting, Cond.code yX5_parting cX5_parting 5 (some .int), Cond.methodLink RX5 45 yX5_nearest, Cond.instanceMethod yX5_nearest, Cond.selects RX5 yX5_nearest yX5_nearest, Cond.code yX5_nearest cX5_nearest 6 (some .int)]
def wsX5_fault : List Cond := .code yX5_fault cX5_fault 2 (some .int) :: ((wsX5_fault_r1 ++ (wsX5_fault_r2 ++ (wsX5_fault_r3 ++ wsX5_fault_r4))) ++ wsX50)
def wsJ9_max_7cf53 : List Cond := .code yJ9_max_7cf53 cJ9_max_7cf53 2 (some .int) :: ([])
def wsJ9_min_7cf53 : List Cond := .code yJ9_min_7cf53 cJ9_min_7cf53 2 (some .int) :: ([])
def wsL_law_r1 : List Cond := [Cond.classLink RL 7 RX4, Cond.instantiable RX4 4, Cond.initialized RX4, Cond.classLink RL 10 RX5, Cond.instantiable RX5 10, Cond.initialized RX5, Cond.methodLink RL 9 yX4_init, Cond.instanceMethod yX4_init, Cond.code yX4_init cX4_init 1 none, Cond.methodLink RX4 1 objectInit, Cond.instanceMethod objectInit, Cond.code objectInit ⟨#[0xb1]⟩ 1 none, Cond.classLink RX4 7 RX3, Cond.instantiable RX3 6, Cond.initialized RX3, Cond.fieldLink RX4 10 "JammedBodies" "packing" "LJammedBodies$Packing;", Cond.fieldLink RX4 16 "JammedBodies" "trial" "LJammedBodies$Packing;", Cond.classLink RX4 19 RX2, Cond.instantiable RX2 4, Cond.initialized RX2, Cond.fieldLink RX4 22 "JammedBodies" "history" "LJammedBodies$History;", Cond.classLink RX4 26 RX1, Cond.instantiable RX1 7, Cond.initialized RX1]
def wsL_law_r2 : List Cond := [Cond.fieldLink RX4 29 "JammedBodies" "text" "LJammedBodies$BodyText;", Cond.methodLink RX4 9 yX3_init, Cond.instanceMethod yX3_init, Cond.code yX3_init cX3_init 2 none, Cond.methodLink RX3 3 objectInit, Cond.classLink RX3 9 RX0, Cond.fieldLink RX3 11 "JammedBodies$Packing" "row" "[LJammedBodies$Body;", Cond.instantiable RX0 3, Cond.initialized RX0, Cond.fieldLink RX3 18 "JammedBodies$Packing" "nobody" "LJammedBodies$Body;", Cond.fieldLink RX3 22 "JammedBodies$Packing" "ghost" "LJammedBodies$Body;", Cond.fieldLink RX3 25 "JammedBodies$Packing" "size" "I", Cond.fieldLink RX3 29 "JammedBodies$Packing" "width" "I", Cond.fieldLink RX3 32 "JammedBodies$Packing" "height" "I", Cond.methodLink RX3 17 yX0_init, Cond.instanceMethod yX0_init, Cond.code yX0_init cX0_init 1 none, Cond.methodLink RX0 3 objectInit, Cond.arrayClass .int, Cond.fieldLink RX0 9 "JammedBodies$Body" "xs" "[I", Cond.fieldLink RX0 15 "JammedBodies$Body" "ys" "[I", Cond.fieldLink RX0 18 "JammedBodies$Body" "corners" "I", Cond.methodLink RX4 21 yX2_init, Cond.instanceMethod yX2_init]
def wsL_law_r3 : List Cond := [Cond.code yX2_init cX2_init 2 none, Cond.methodLink RX2 3 objectInit, Cond.classLink RX2 9 RX3, Cond.fieldLink RX2 11 "JammedBodies$History" "ring" "[LJammedBodies$Packing;", Cond.fieldLink RX2 18 "JammedBodies$History" "none" "LJammedBodies$Packing;", Cond.fieldLink RX2 22 "JammedBodies$History" "oldest" "I", Cond.fieldLink RX2 26 "JammedBodies$History" "size" "I", Cond.methodLink RX2 17 yX3_init, Cond.methodLink RX4 28 yX1_init, Cond.instanceMethod yX1_init, Cond.code yX1_init cX1_init 1 none, Cond.methodLink RX1 3 objectInit, Cond.arrayClass .char, Cond.fieldLink RX1 9 "JammedBodies$BodyText" "signs" "[C", Cond.classLink RX1 15 RX0, Cond.fieldLink RX1 18 "JammedBodies$BodyText" "told" "LJammedBodies$Body;", Cond.fieldLink RX1 22 "JammedBodies$BodyText" "cursor" "I", Cond.fieldLink RX1 26 "JammedBodies$BodyText" "length" "I", Cond.fieldLink RX1 29 "JammedBodies$BodyText" "place" "I", Cond.fieldLink RX1 32 "JammedBodies$BodyText" "reason" "I", Cond.fieldLink RX1 35 "JammedBodies$BodyText" "cause" "I", Cond.methodLink RX1 17 yX0_init, Cond.methodLink RL 12 yX5_init, Cond.instanceMethod yX5_init]
def wsL_law_r4 : List Cond := [Cond.code yX5_init cX5_init 1 none, Cond.methodLink RX5 1 objectInit, Cond.fieldLink RX5 7 "JammedBodiesModel" "all" "[I", Cond.fieldLink RX5 13 "JammedBodiesModel" "history" "[I", Cond.fieldLink RX5 16 "JammedBodiesModel" "kept" "[I", Cond.fieldLink RX5 19 "JammedBodiesModel" "text" "[I", Cond.methodLink RL 13 yX4_box, Cond.instanceMethod yX4_box, Cond.selects RX4 yX4_box yX4_box, Cond.code yX4_box cX4_box 4 (some .int), Cond.constant RX4 37 (-1000001), Cond.constant RX4 42 (-1000002), Cond.fieldLink RX4 47 "JammedBodies$Packing" "width" "I", Cond.fieldLink RX4 51 "JammedBodies$Packing" "height" "I", Cond.methodLink RX4 33 yX4_isSize, Cond.static yX4_isSize, Cond.code yX4_isSize cX4_isSize 1 (some .boolean), Cond.methodLink RX4 38 yX3_fitsInto, Cond.instanceMethod yX3_fitsInto, Cond.selects RX3 yX3_fitsInto yX3_fitsInto, Cond.code yX3_fitsInto cX3_fitsInto 4 (some .boolean), Cond.methodLink RX3 35 yX3_at, Cond.instanceMethod yX3_at, Cond.selects RX3 yX3_at yX3_at]
def wsL_law_r5 : List Cond := [Cond.code yX3_at cX3_at 2 (some (.object "JammedBodies$Body")), Cond.methodLink RX3 43 yX0_wallsBeyond, Cond.instanceMethod yX0_wallsBeyond, Cond.selects RX0 yX0_wallsBeyond yX0_wallsBeyond, Cond.code yX0_wallsBeyond cX0_wallsBeyond 4 (some .int), Cond.methodLink RX0 33 yX0_left, Cond.instanceMethod yX0_left, Cond.selects RX0 yX0_left yX0_left, Cond.code yX0_left cX0_left 3 (some .int), Cond.methodLink RX0 43 Lib.Math.min.name, Cond.static Lib.Math.min.name, Cond.initialized "java/lang/Math", Cond.code Lib.Math.min.name Lib.Math.min.code 2 (some .int), Cond.methodLink RX0 26 yX0_x, Cond.instanceMethod yX0_x, Cond.selects RX0 yX0_x yX0_x, Cond.code yX0_x cX0_x 2 (some .int), Cond.methodLink RX0 55 yX0_right, Cond.instanceMethod yX0_right, Cond.selects RX0 yX0_right yX0_right, Cond.code yX0_right cX0_right 3 (some .int), Cond.methodLink RX0 49 Lib.Math.max.name, Cond.static Lib.Math.max.name, Cond.code Lib.Math.max.name Lib.Math.max.code 2 (some .int)]
def wsL_law_r6 : List Cond := [Cond.methodLink RX0 37 yX0_low, Cond.instanceMethod yX0_low, Cond.selects RX0 yX0_low yX0_low, Cond.code yX0_low cX0_low 3 (some .int), Cond.methodLink RX0 30 yX0_y, Cond.instanceMethod yX0_y, Cond.selects RX0 yX0_y yX0_y, Cond.code yX0_y cX0_y 2 (some .int), Cond.methodLink RX0 40 yX0_high, Cond.instanceMethod yX0_high, Cond.selects RX0 yX0_high yX0_high, Cond.code yX0_high cX0_high 3 (some .int), Cond.methodLink RX4 43 yX2_keep, Cond.instanceMethod yX2_keep, Cond.selects RX2 yX2_keep yX2_keep, Cond.code yX2_keep cX2_keep 2 none, Cond.methodLink RX2 29 yX2_at, Cond.instanceMethod yX2_at, Cond.selects RX2 yX2_at yX2_at, Cond.code yX2_at cX2_at 3 (some (.object "JammedBodies$Packing")), Cond.methodLink RX2 33 yX3_copyFrom, Cond.instanceMethod yX3_copyFrom, Cond.selects RX3 yX3_copyFrom yX3_copyFrom, Cond.code yX3_copyFrom cX3_copyFrom 3 none]
def wsL_law_r7 : List Cond := [Cond.methodLink RX3 39 yX0_copyFrom, Cond.instanceMethod yX0_copyFrom, Cond.selects RX0 yX0_copyFrom yX0_copyFrom, Cond.code yX0_copyFrom cX0_copyFrom 3 none, Cond.methodLink RX0 22 yX0_place, Cond.instanceMethod yX0_place, Cond.selects RX0 yX0_place yX0_place, Cond.code yX0_place cX0_place 4 none, Cond.methodLink RL 17 yX5_box, Cond.instanceMethod yX5_box, Cond.selects RX5 yX5_box yX5_box, Cond.code yX5_box cX5_box 4 (some .int), Cond.constantLong RX5 116 (10), Cond.constantLong RX5 118 (60), Cond.constant RX5 120 (-1000001), Cond.constant RX5 121 (-1000002), Cond.methodLink RX5 26 yX5_in, Cond.static yX5_in, Cond.code yX5_in cX5_in 6 (some .boolean), Cond.methodLink RX5 66 yX5_greatestX, Cond.instanceMethod yX5_greatestX, Cond.selects RX5 yX5_greatestX yX5_greatestX, Cond.code yX5_greatestX cX5_greatestX 2 (some .int), Cond.methodLink RX5 60 yX5_extreme]
def wsL_law_r8 : List Cond := [Cond.instanceMethod yX5_extreme, Cond.selects RX5 yX5_extreme yX5_extreme, Cond.code yX5_extreme cX5_extreme 7 (some .int), Cond.methodLink RX5 30 yX5_corners, Cond.instanceMethod yX5_corners, Cond.selects RX5 yX5_corners yX5_corners, Cond.code yX5_corners cX5_corners 2 (some .int), Cond.methodLink RX5 72 yX5_greatestY, Cond.instanceMethod yX5_greatestY, Cond.selects RX5 yX5_greatestY yX5_greatestY, Cond.code yX5_greatestY cX5_greatestY 2 (some .int), Cond.methodLink RX5 122 yX5_keep, Cond.instanceMethod yX5_keep, Cond.selects RX5 yX5_keep yX5_keep, Cond.code yX5_keep cX5_keep 2 none, Cond.methodLink RX5 125 yX5_changed, Cond.instanceMethod yX5_changed, Cond.selects RX5 yX5_changed yX5_changed, Cond.code yX5_changed cX5_changed 3 (some .int), Cond.fieldLink RX5 22 "JammedBodiesModel" "historyLong" "I", Cond.methodLink RL 18 yX4_put, Cond.instanceMethod yX4_put, Cond.selects RX4 yX4_put yX4_put, Cond.code yX4_put cX4_put 1 (some .int)]
def wsL_law_r9 : List Cond := [Cond.fieldLink RX4 57 "JammedBodies$BodyText" "reason" "I", Cond.fieldLink RX4 60 "JammedBodies$Packing" "size" "I", Cond.constant RX4 63 (-1000003), Cond.fieldLink RX4 64 "JammedBodies$BodyText" "told" "LJammedBodies$Body;", Cond.methodLink RX4 54 yX1_examine, Cond.instanceMethod yX1_examine, Cond.selects RX1 yX1_examine yX1_examine, Cond.code yX1_examine cX1_examine 5 none, Cond.fieldLink RX1 46 "JammedBodies$Packing" "width" "I", Cond.fieldLink RX1 51 "JammedBodies$Packing" "height" "I", Cond.methodLink RX1 38 yX1_find, Cond.instanceMethod yX1_find, Cond.selects RX1 yX1_find yX1_find, Cond.code yX1_find cX1_find 4 none, Cond.methodLink RX1 42 yX1_readForm, Cond.instanceMethod yX1_readForm, Cond.selects RX1 yX1_readForm yX1_readForm, Cond.code yX1_readForm cX1_readForm 4 (some .boolean), Cond.fieldLink RX1 70 "JammedBodies$Body" "corners" "I", Cond.methodLink RX1 73 yX1_takes, Cond.instanceMethod yX1_takes, Cond.selects RX1 yX1_takes yX1_takes, Cond.code yX1_takes cX1_takes 3 (some .boolean), Cond.methodLink RX1 84 yX1_sign]
def wsL_law_r10 : List Cond := [Cond.instanceMethod yX1_sign, Cond.selects RX1 yX1_sign yX1_sign, Cond.code yX1_sign cX1_sign 1 (some .char), Cond.methodLink RX1 77 yX1_takeNumber, Cond.instanceMethod yX1_takeNumber, Cond.selects RX1 yX1_takeNumber yX1_takeNumber, Cond.code yX1_takeNumber cX1_takeNumber 3 (some .int), Cond.methodLink RX1 88 yX1_takeDigit, Cond.instanceMethod yX1_takeDigit, Cond.selects RX1 yX1_takeDigit yX1_takeDigit, Cond.code yX1_takeDigit cX1_takeDigit 2 (some .int), Cond.methodLink RX1 80 yX0_addCorner, Cond.instanceMethod yX0_addCorner, Cond.selects RX0 yX0_addCorner yX0_addCorner, Cond.code yX0_addCorner cX0_addCorner 3 none, Cond.methodLink RX1 54 yX0_cornerOutside, Cond.instanceMethod yX0_cornerOutside, Cond.selects RX0 yX0_cornerOutside yX0_cornerOutside, Cond.code yX0_cornerOutside cX0_cornerOutside 4 (some .int), Cond.methodLink RX1 58 yX0_causeOfShape, Cond.instanceMethod yX0_causeOfShape, Cond.selects RX0 yX0_causeOfShape yX0_causeOfShape, Cond.code yX0_causeOfShape cX0_causeOfShape 4 (some .int), Cond.methodLink RX0 52 yX0_following]
def wsL_law_r11 : List Cond := [Cond.instanceMethod yX0_following, Cond.selects RX0 yX0_following yX0_following, Cond.code yX0_following cX0_following 2 (some .int), Cond.static yX4_cross, Cond.code yX4_cross cX4_cross 6 (some .int), Cond.methodLink RX0 67 yX0_timesRound, Cond.instanceMethod yX0_timesRound, Cond.selects RX0 yX0_timesRound yX0_timesRound, Cond.code yX0_timesRound cX0_timesRound 3 (some .int), Cond.methodLink RX0 70 yX0_pointsUp, Cond.instanceMethod yX0_pointsUp, Cond.selects RX0 yX0_pointsUp yX0_pointsUp, Cond.code yX0_pointsUp cX0_pointsUp 3 (some .boolean), Cond.methodLink RX1 62 yX3_overlapped, Cond.instanceMethod yX3_overlapped, Cond.selects RX3 yX3_overlapped yX3_overlapped, Cond.code yX3_overlapped cX3_overlapped 5 (some .int), Cond.methodLink RX3 47 yX0_leastReach, Cond.instanceMethod yX0_leastReach, Cond.selects RX0 yX0_leastReach yX0_leastReach, Cond.code yX0_leastReach cX0_leastReach 4 (some .int), Cond.methodLink RX0 63 yX0_reach, Cond.instanceMethod yX0_reach, Cond.selects RX0 yX0_reach yX0_reach]
def wsL_law_r12 : List Cond := [Cond.code yX0_reach cX0_reach 10 (some .int), Cond.constant RX0 58 (-1000000), Cond.static yX4_lowest, Cond.code yX4_lowest cX4_lowest 2 (some .int), Cond.methodLink RX4 68 yX3_add, Cond.instanceMethod yX3_add, Cond.selects RX3 yX3_add yX3_add, Cond.code yX3_add cX3_add 2 (some .int), Cond.methodLink RL 22 yX5_put, Cond.instanceMethod yX5_put, Cond.selects RX5 yX5_put yX5_put, Cond.code yX5_put cX5_put 1 (some .int), Cond.constant RX5 132 (-1000003), Cond.methodLink RX5 128 yX5_hasFault, Cond.instanceMethod yX5_hasFault, Cond.selects RX5 yX5_hasFault yX5_hasFault, Cond.code yX5_hasFault cX5_hasFault 5 (some .boolean), Cond.fieldLink RX5 195 "JammedBodiesModel" "spot" "I", Cond.methodLink RX5 220 yX5_reads, Cond.instanceMethod yX5_reads, Cond.selects RX5 yX5_reads yX5_reads, Cond.code yX5_reads cX5_reads 3 (some .boolean), Cond.fieldLink RX5 188 "JammedBodiesModel" "textLong" "I", Cond.methodLink RX5 202 yX5_takesNumber]
def wsL_law_r13 : List Cond := [Cond.instanceMethod yX5_takesNumber, Cond.selects RX5 yX5_takesNumber yX5_takesNumber, Cond.code yX5_takesNumber cX5_takesNumber 3 (some .boolean), Cond.constantLong RX5 198 (48), Cond.constantLong RX5 200 (57), Cond.methodLink RX5 205 yX5_takes, Cond.instanceMethod yX5_takes, Cond.selects RX5 yX5_takes yX5_takes, Cond.code yX5_takes cX5_takes 3 (some .boolean), Cond.methodLink RX5 223 yX5_notes, Cond.instanceMethod yX5_notes, Cond.selects RX5 yX5_notes yX5_notes, Cond.code yX5_notes cX5_notes 4 (some .boolean), Cond.fieldLink RX5 211 "JammedBodiesModel" "faultAt" "I", Cond.fieldLink RX5 214 "JammedBodiesModel" "faultWhy" "I", Cond.fieldLink RX5 217 "JammedBodiesModel" "faultCause" "I", Cond.methodLink RX5 226 yX5_cornerOutside, Cond.instanceMethod yX5_cornerOutside, Cond.selects RX5 yX5_cornerOutside yX5_cornerOutside, Cond.code yX5_cornerOutside cX5_cornerOutside 2 (some .int), Cond.methodLink RX5 34 yX5_x, Cond.instanceMethod yX5_x, Cond.selects RX5 yX5_x yX5_x, Cond.code yX5_x cX5_x 3 (some .int)]
def wsL_law_r14 : List Cond := [Cond.methodLink RX5 38 yX5_y, Cond.instanceMethod yX5_y, Cond.selects RX5 yX5_y yX5_y, Cond.code yX5_y cX5_y 3 (some .int), Cond.methodLink RX5 229 yX5_badCorner, Cond.instanceMethod yX5_badCorner, Cond.selects RX5 yX5_badCorner yX5_badCorner, Cond.code yX5_badCorner cX5_badCorner 4 (some .int), Cond.methodLink RX5 41 yX5_side, Cond.instanceMethod yX5_side, Cond.selects RX5 yX5_side yX5_side, Cond.code yX5_side cX5_side 7 (some .int), Cond.methodLink RX5 208 yX5_goesUp, Cond.instanceMethod yX5_goesUp, Cond.selects RX5 yX5_goesUp yX5_goesUp, Cond.code yX5_goesUp cX5_goesUp 3 (some .boolean), Cond.methodLink RX5 78 yX5_overlapped, Cond.instanceMethod yX5_overlapped, Cond.selects RX5 yX5_overlapped yX5_overlapped, Cond.code yX5_overlapped cX5_overlapped 4 (some .int), Cond.methodLink RX5 52 yX5_isParted, Cond.instanceMethod yX5_isParted, Cond.selects RX5 yX5_isParted yX5_isParted, Cond.code yX5_isParted cX5_isParted 4 (some .boolean)]
def wsL_law_r15 : List Cond := [Cond.methodLink RX5 49 yX5_parting, Cond.instanceMethod yX5_parting, Cond.selects RX5 yX5_parting yX5_parting, Cond.code yX5_parting cX5_parting 5 (some .int), Cond.methodLink RX5 45 yX5_nearest, Cond.instanceMethod yX5_nearest, Cond.selects RX5 yX5_nearest yX5_nearest, Cond.code yX5_nearest cX5_nearest 6 (some .int), Cond.methodLink RX5 112 yX5_copyBody, Cond.instanceMethod yX5_copyBody, Cond.selects RX5 yX5_copyBody yX5_copyBody, Cond.code yX5_copyBody cX5_copyBody 4 none, Cond.methodLink RL 23 yX4_remove, Cond.instanceMethod yX4_remove, Cond.selects RX4 yX4_remove yX4_remove, Cond.code yX4_remove cX4_remove 2 (some .int), Cond.methodLink RX4 72 yX3_has, Cond.instanceMethod yX3_has, Cond.selects RX3 yX3_has yX3_has, Cond.code yX3_has cX3_has 2 (some .boolean), Cond.methodLink RX4 75 yX3_takeOut, Cond.instanceMethod yX3_takeOut, Cond.selects RX3 yX3_takeOut yX3_takeOut, Cond.code yX3_takeOut cX3_takeOut 3 none]
def wsL_law_r16 : List Cond := [Cond.methodLink RL 27 yX5_remove, Cond.instanceMethod yX5_remove, Cond.selects RX5 yX5_remove yX5_remove, Cond.code yX5_remove cX5_remove 2 (some .int), Cond.methodLink RX5 133 yX5_isBody, Cond.instanceMethod yX5_isBody, Cond.selects RX5 yX5_isBody yX5_isBody, Cond.code yX5_isBody cX5_isBody 2 (some .boolean), Cond.methodLink RX5 136 yX5_takesOut, Cond.instanceMethod yX5_takesOut, Cond.selects RX5 yX5_takesOut yX5_takesOut, Cond.code yX5_takesOut cX5_takesOut 3 none, Cond.methodLink RL 28 yX4_empty, Cond.instanceMethod yX4_empty, Cond.selects RX4 yX4_empty yX4_empty, Cond.code yX4_empty cX4_empty 2 (some .int), Cond.methodLink RL 31 yX5_empty, Cond.instanceMethod yX5_empty, Cond.selects RX5 yX5_empty yX5_empty, Cond.code yX5_empty cX5_empty 2 (some .int), Cond.methodLink RL 32 yX4_slide, Cond.instanceMethod yX4_slide, Cond.selects RX4 yX4_slide yX4_slide, Cond.code yX4_slide cX4_slide 5 (some .int)]
def wsL_law_r17 : List Cond := [Cond.methodLink RX4 79 yX4_isDirection, Cond.static yX4_isDirection, Cond.code yX4_isDirection cX4_isDirection 1 (some .boolean), Cond.methodLink RX4 82 yX3_freeSteps, Cond.instanceMethod yX3_freeSteps, Cond.selects RX3 yX3_freeSteps yX3_freeSteps, Cond.code yX3_freeSteps cX3_freeSteps 5 (some .int), Cond.static yX4_stepX, Cond.code yX4_stepX cX4_stepX 1 (some .int), Cond.fieldLink RX4 203 "JammedBodies" "STEP_X" "[I", Cond.static yX4_stepY, Cond.code yX4_stepY cX4_stepY 1 (some .int), Cond.fieldLink RX4 207 "JammedBodies" "STEP_Y" "[I", Cond.methodLink RX3 77 yX0_move, Cond.instanceMethod yX0_move, Cond.selects RX0 yX0_move yX0_move, Cond.code yX0_move cX0_move 4 none, Cond.methodLink RX3 81 yX3_overlapped, Cond.methodLink RX4 86 yX3_shift, Cond.instanceMethod yX3_shift, Cond.selects RX3 yX3_shift yX3_shift, Cond.code yX3_shift cX3_shift 4 none, Cond.methodLink RL 36 yX5_slide, Cond.instanceMethod yX5_slide]
def wsL_law_r18 : List Cond := [Cond.selects RX5 yX5_slide yX5_slide, Cond.code yX5_slide cX5_slide 5 (some .int), Cond.methodLink RX5 140 yX5_isDirection, Cond.static yX5_isDirection, Cond.code yX5_isDirection cX5_isDirection 1 (some .boolean), Cond.constantLong RX5 104 (7), Cond.methodLink RX5 106 yX5_slides, Cond.instanceMethod yX5_slides, Cond.selects RX5 yX5_slides yX5_slides, Cond.code yX5_slides cX5_slides 5 (some .int), Cond.methodLink RX5 95 yX5_steps, Cond.instanceMethod yX5_steps, Cond.selects RX5 yX5_steps yX5_steps, Cond.code yX5_steps cX5_steps 3 (some .boolean), Cond.methodLink RX5 81 yX5_dx, Cond.static yX5_dx, Cond.code yX5_dx cX5_dx 1 (some .int), Cond.methodLink RX5 84 yX5_dy, Cond.static yX5_dy, Cond.code yX5_dy cX5_dy 1 (some .int), Cond.methodLink RX5 87 yX5_moves, Cond.instanceMethod yX5_moves, Cond.selects RX5 yX5_moves yX5_moves, Cond.code yX5_moves cX5_moves 5 none]
def wsL_law_r19 : List Cond := [Cond.methodLink RX5 91 yX5_fits, Cond.instanceMethod yX5_fits, Cond.selects RX5 yX5_fits yX5_fits, Cond.code yX5_fits cX5_fits 2 (some .boolean), Cond.methodLink RX5 75 yX5_wallsBy, Cond.instanceMethod yX5_wallsBy, Cond.selects RX5 yX5_wallsBy yX5_wallsBy, Cond.code yX5_wallsBy cX5_wallsBy 4 (some .int), Cond.methodLink RX5 63 yX5_leastX, Cond.instanceMethod yX5_leastX, Cond.selects RX5 yX5_leastX yX5_leastX, Cond.code yX5_leastX cX5_leastX 2 (some .int), Cond.methodLink RX5 69 yX5_leastY, Cond.instanceMethod yX5_leastY, Cond.selects RX5 yX5_leastY yX5_leastY, Cond.code yX5_leastY cX5_leastY 2 (some .int), Cond.methodLink RL 37 yX4_turn, Cond.instanceMethod yX4_turn, Cond.selects RX4 yX4_turn yX4_turn, Cond.code yX4_turn cX4_turn 3 (some .int), Cond.methodLink RX4 90 yX3_canTurn, Cond.instanceMethod yX3_canTurn, Cond.selects RX3 yX3_canTurn yX3_canTurn, Cond.code yX3_canTurn cX3_canTurn 2 (some .boolean)]
def wsL_law_r20 : List Cond := [Cond.methodLink RX3 89 yX0_turnLeft, Cond.instanceMethod yX0_turnLeft, Cond.selects RX0 yX0_turnLeft yX0_turnLeft, Cond.code yX0_turnLeft cX0_turnLeft 5 none, Cond.methodLink RX4 93 yX3_at, Cond.methodLink RX4 97 yX0_turnLeft, Cond.methodLink RX4 102 yX0_right, Cond.methodLink RX4 106 yX0_left, Cond.methodLink RL 40 yX5_turn, Cond.instanceMethod yX5_turn, Cond.selects RX5 yX5_turn yX5_turn, Cond.code yX5_turn cX5_turn 8 (some .int), Cond.methodLink RX5 143 yX5_giveBack, Cond.instanceMethod yX5_giveBack, Cond.selects RX5 yX5_giveBack yX5_giveBack, Cond.code yX5_giveBack cX5_giveBack 2 none, Cond.methodLink RL 41 yX4_settle, Cond.instanceMethod yX4_settle, Cond.selects RX4 yX4_settle yX4_settle, Cond.code yX4_settle cX4_settle 2 (some .int), Cond.methodLink RX4 109 yX3_settleAll, Cond.instanceMethod yX3_settleAll, Cond.selects RX3 yX3_settleAll yX3_settleAll, Cond.code yX3_settleAll cX3_settleAll 7 (some .int)]
def wsL_law_r21 : List Cond := [Cond.methodLink RX3 85 yX3_freeSteps, Cond.methodLink RX3 92 yX3_shift, Cond.methodLink RL 44 yX5_settle, Cond.instanceMethod yX5_settle, Cond.selects RX5 yX5_settle yX5_settle, Cond.code yX5_settle cX5_settle 2 (some .int), Cond.methodLink RX5 146 yX5_settles, Cond.instanceMethod yX5_settles, Cond.selects RX5 yX5_settles yX5_settles, Cond.code yX5_settles cX5_settles 5 (some .int), Cond.methodLink RL 45 yX4_bodyOf, Cond.instanceMethod yX4_bodyOf, Cond.selects RX4 yX4_bodyOf yX4_bodyOf, Cond.code yX4_bodyOf cX4_bodyOf 4 (some .int), Cond.fieldLink RX4 113 "JammedBodies$Body" "corners" "I", Cond.methodLink RX4 116 yX0_doubleArea, Cond.instanceMethod yX0_doubleArea, Cond.selects RX0 yX0_doubleArea yX0_doubleArea, Cond.code yX0_doubleArea cX0_doubleArea 4 (some .int), Cond.methodLink RX4 119 yX0_low, Cond.methodLink RX4 122 yX0_high, Cond.methodLink RX4 125 yX0_wallsTouched, Cond.instanceMethod yX0_wallsTouched, Cond.selects RX0 yX0_wallsTouched yX0_wallsTouched]
def wsL_law_r22 : List Cond := [Cond.code yX0_wallsTouched cX0_wallsTouched 4 (some .int), Cond.methodLink RX4 129 yX3_touching, Cond.instanceMethod yX3_touching, Cond.selects RX3 yX3_touching yX3_touching, Cond.code yX3_touching cX3_touching 5 (some .int), Cond.methodLink RX3 51 Lib.Math.min.name, Cond.methodLink RX4 132 yX3_freeDirections, Cond.instanceMethod yX3_freeDirections, Cond.selects RX3 yX3_freeDirections yX3_freeDirections, Cond.code yX3_freeDirections cX3_freeDirections 4 (some .int), Cond.methodLink RX4 135 yX3_jammed, Cond.instanceMethod yX3_jammed, Cond.selects RX3 yX3_jammed yX3_jammed, Cond.code yX3_jammed cX3_jammed 5 (some .int), Cond.methodLink RX4 138 yX4_placeOfCorner, Cond.static yX4_placeOfCorner, Cond.code yX4_placeOfCorner cX4_placeOfCorner 3 (some .int), Cond.constant RX4 171 (-1000004), Cond.methodLink RX4 210 yX0_x, Cond.methodLink RX4 213 yX0_y, Cond.methodLink RL 48 yX5_bodyOf, Cond.instanceMethod yX5_bodyOf, Cond.selects RX5 yX5_bodyOf yX5_bodyOf, Cond.code yX5_bodyOf cX5_bodyOf 3 (some .int)]
def wsL_law_r23 : List Cond := [Cond.constantLong RX5 150 (21), Cond.methodLink RX5 109 yX5_area, Cond.instanceMethod yX5_area, Cond.selects RX5 yX5_area yX5_area, Cond.code yX5_area cX5_area 4 (some .int), Cond.methodLink RX5 152 yX5_touched, Cond.instanceMethod yX5_touched, Cond.selects RX5 yX5_touched yX5_touched, Cond.code yX5_touched cX5_touched 4 (some .int), Cond.methodLink RX5 56 yX5_touch, Cond.instanceMethod yX5_touch, Cond.selects RX5 yX5_touch yX5_touch, Cond.code yX5_touch cX5_touch 3 (some .boolean), Cond.methodLink RX5 101 yX5_freeDirections, Cond.instanceMethod yX5_freeDirections, Cond.selects RX5 yX5_freeDirections yX5_freeDirections, Cond.code yX5_freeDirections cX5_freeDirections 4 (some .int), Cond.methodLink RX5 98 yX5_isFree, Cond.instanceMethod yX5_isFree, Cond.selects RX5 yX5_isFree yX5_isFree, Cond.code yX5_isFree cX5_isFree 4 (some .boolean), Cond.methodLink RX5 155 yX5_isJammed, Cond.instanceMethod yX5_isJammed, Cond.selects RX5 yX5_isJammed yX5_isJammed]
def wsL_law_r24 : List Cond := [Cond.code yX5_isJammed cX5_isJammed 2 (some .boolean), Cond.methodLink RX5 158 yX5_cornerValue, Cond.instanceMethod yX5_cornerValue, Cond.selects RX5 yX5_cornerValue yX5_cornerValue, Cond.code yX5_cornerValue cX5_cornerValue 4 (some .int), Cond.constant RX5 149 (-1000004), Cond.methodLink RL 49 yX4_parts, Cond.instanceMethod yX4_parts, Cond.selects RX4 yX4_parts yX4_parts, Cond.code yX4_parts cX4_parts 8 (some .int), Cond.methodLink RX4 142 yX0_partingSide, Cond.instanceMethod yX0_partingSide, Cond.selects RX0 yX0_partingSide yX0_partingSide, Cond.code yX0_partingSide cX0_partingSide 3 (some .int), Cond.methodLink RX4 145 yX0_nearestCorner, Cond.instanceMethod yX0_nearestCorner, Cond.selects RX0 yX0_nearestCorner yX0_nearestCorner, Cond.code yX0_nearestCorner cX0_nearestCorner 6 (some .int), Cond.methodLink RX4 149 yX0_reach, Cond.methodLink RL 52 yX5_parts, Cond.instanceMethod yX5_parts, Cond.selects RX5 yX5_parts yX5_parts, Cond.code yX5_parts cX5_parts 9 (some .int), Cond.constantLong RX5 161 (2)]
def wsL_law_r25 : List Cond := [Cond.methodLink RL 53 yX4_way, Cond.instanceMethod yX4_way, Cond.selects RX4 yX4_way yX4_way, Cond.code yX4_way cX4_way 6 (some .int), Cond.methodLink RX4 152 yX3_shifted, Cond.instanceMethod yX3_shifted, Cond.selects RX3 yX3_shifted yX3_shifted, Cond.code yX3_shifted cX3_shifted 4 (some (.object "JammedBodies$Body")), Cond.methodLink RX4 156 yX3_overlapped, Cond.methodLink RX4 159 yX0_wallsBeyond, Cond.methodLink RL 56 yX5_way, Cond.instanceMethod yX5_way, Cond.selects RX5 yX5_way yX5_way, Cond.code yX5_way cX5_way 6 (some .int), Cond.methodLink RL 57 yX4_bodies, Cond.instanceMethod yX4_bodies, Cond.selects RX4 yX4_bodies yX4_bodies, Cond.code yX4_bodies cX4_bodies 2 (some .int), Cond.methodLink RX4 162 yX3_touchingNone, Cond.instanceMethod yX3_touchingNone, Cond.selects RX3 yX3_touchingNone yX3_touchingNone, Cond.code yX3_touchingNone cX3_touchingNone 3 (some .int), Cond.methodLink RX3 56 yX3_touching, Cond.methodLink RX4 165 yX3_touchingWalls]
def wsL_law_r26 : List Cond := [Cond.instanceMethod yX3_touchingWalls, Cond.selects RX3 yX3_touchingWalls yX3_touchingWalls, Cond.code yX3_touchingWalls cX3_touchingWalls 4 (some .int), Cond.methodLink RX3 65 yX0_wallsTouched, Cond.methodLink RX4 168 yX3_spread, Cond.instanceMethod yX3_spread, Cond.selects RX3 yX3_spread yX3_spread, Cond.code yX3_spread cX3_spread 6 (some .int), Cond.methodLink RL 60 yX5_bodies, Cond.instanceMethod yX5_bodies, Cond.selects RX5 yX5_bodies yX5_bodies, Cond.code yX5_bodies cX5_bodies 4 (some .int), Cond.constantLong RX5 163 (3), Cond.methodLink RX5 165 yX5_counts, Cond.instanceMethod yX5_counts, Cond.selects RX5 yX5_counts yX5_counts, Cond.code yX5_counts cX5_counts 3 (some .boolean), Cond.methodLink RX5 168 yX5_together, Cond.instanceMethod yX5_together, Cond.selects RX5 yX5_together yX5_together, Cond.code yX5_together cX5_together 5 (some .int), Cond.methodLink RL 61 yX4_group, Cond.instanceMethod yX4_group, Cond.selects RX4 yX4_group yX4_group]
def wsL_law_r27 : List Cond := [Cond.code yX4_group cX4_group 6 (some .int), Cond.methodLink RL 64 yX5_group, Cond.instanceMethod yX5_group, Cond.selects RX5 yX5_group yX5_group, Cond.code yX5_group cX5_group 6 (some .int), Cond.methodLink RL 65 yX4_density, Cond.instanceMethod yX4_density, Cond.selects RX4 yX4_density yX4_density, Cond.code yX4_density cX4_density 3 (some .int), Cond.methodLink RX4 172 yX3_doubleArea, Cond.instanceMethod yX3_doubleArea, Cond.selects RX3 yX3_doubleArea yX3_doubleArea, Cond.code yX3_doubleArea cX3_doubleArea 3 (some .int), Cond.methodLink RX3 96 yX0_doubleArea, Cond.methodLink RX4 173 yX4_bitsOfShare, Cond.static yX4_bitsOfShare, Cond.code yX4_bitsOfShare cX4_bitsOfShare 3 (some .int), Cond.constantFloat RX4 216 (1258291200), Cond.methodLink RL 68 yX5_density, Cond.instanceMethod yX5_density, Cond.selects RX5 yX5_density yX5_density, Cond.code yX5_density cX5_density 2 (some .int), Cond.methodLink RX5 175 yX5_areas, Cond.instanceMethod yX5_areas]
def wsL_law_r28 : List Cond := [Cond.selects RX5 yX5_areas yX5_areas, Cond.code yX5_areas cX5_areas 3 (some .int), Cond.methodLink RX5 179 yX5_shareBits, Cond.static yX5_shareBits, Cond.code yX5_shareBits cX5_shareBits 12 (some .int), Cond.constantLong RX5 171 (8388608), Cond.constantLong RX5 173 (16777216), Cond.methodLink RL 69 yX4_keystone, Cond.instanceMethod yX4_keystone, Cond.selects RX4 yX4_keystone yX4_keystone, Cond.code yX4_keystone cX4_keystone 7 (some .int), Cond.methodLink RX4 177 yX3_copyFrom, Cond.methodLink RL 72 yX5_keystone, Cond.instanceMethod yX5_keystone, Cond.selects RX5 yX5_keystone yX5_keystone, Cond.code yX5_keystone cX5_keystone 8 (some .int), Cond.methodLink RL 73 yX4_count, Cond.instanceMethod yX4_count, Cond.selects RX4 yX4_count yX4_count, Cond.code yX4_count cX4_count 2 (some .int), Cond.fieldLink RX4 186 "JammedBodies$History" "size" "I", Cond.fieldLink RX4 187 "JammedBodies$BodyText" "length" "I", Cond.methodLink RX4 180 yX3_allCorners, Cond.instanceMethod yX3_allCorners]
def wsL_law_r29 : List Cond := [Cond.selects RX3 yX3_allCorners yX3_allCorners, Cond.code yX3_allCorners cX3_allCorners 3 (some .int), Cond.fieldLink RX3 100 "JammedBodies$Body" "corners" "I", Cond.methodLink RX4 183 yX3_touchingPairs, Cond.instanceMethod yX3_touchingPairs, Cond.selects RX3 yX3_touchingPairs yX3_touchingPairs, Cond.code yX3_touchingPairs cX3_touchingPairs 3 (some .int), Cond.methodLink RX3 60 yJ6_bitCount_0f7a4, Cond.static yJ6_bitCount_0f7a4, Cond.initialized RJ6, Cond.code yJ6_bitCount_0f7a4 cJ6_bitCount_0f7a4 1 (some .int), Cond.constant RJ6 265 (1431655765), Cond.constant RJ6 266 (858993459), Cond.constant RJ6 267 (252645135), Cond.methodLink RL 76 yX5_count, Cond.instanceMethod yX5_count, Cond.selects RX5 yX5_count yX5_count, Cond.code yX5_count cX5_count 2 (some .int), Cond.methodLink RX5 182 yX5_cornersOfAll, Cond.instanceMethod yX5_cornersOfAll, Cond.selects RX5 yX5_cornersOfAll yX5_cornersOfAll, Cond.code yX5_cornersOfAll cX5_cornersOfAll 3 (some .int), Cond.methodLink RX5 185 yX5_pairs, Cond.instanceMethod yX5_pairs]
def wsL_law_r30 : List Cond := [Cond.selects RX5 yX5_pairs yX5_pairs, Cond.code yX5_pairs cX5_pairs 4 (some .int), Cond.methodLink RL 77 yX4_undo, Cond.instanceMethod yX4_undo, Cond.selects RX4 yX4_undo yX4_undo, Cond.code yX4_undo cX4_undo 1 (some .int), Cond.methodLink RX4 190 yX2_restore, Cond.instanceMethod yX2_restore, Cond.selects RX2 yX2_restore yX2_restore, Cond.code yX2_restore cX2_restore 2 none, Cond.methodLink RL 80 yX5_undo, Cond.instanceMethod yX5_undo, Cond.selects RX5 yX5_undo yX5_undo, Cond.code yX5_undo cX5_undo 2 (some .int), Cond.methodLink RL 81 yX4_type, Cond.instanceMethod yX4_type, Cond.selects RX4 yX4_type yX4_type, Cond.code yX4_type cX4_type 2 (some .int), Cond.methodLink RX4 193 yX1_append, Cond.instanceMethod yX1_append, Cond.selects RX1 yX1_append yX1_append, Cond.code yX1_append cX1_append 2 none, Cond.methodLink RL 84 yX5_type, Cond.instanceMethod yX5_type]
def wsL_law_r31 : List Cond := [Cond.selects RX5 yX5_type yX5_type, Cond.code yX5_type cX5_type 2 (some .int), Cond.constantLong RX5 191 (32), Cond.constantLong RX5 193 (126), Cond.methodLink RL 85 yX4_clearText, Cond.instanceMethod yX4_clearText, Cond.selects RX4 yX4_clearText yX4_clearText, Cond.code yX4_clearText cX4_clearText 2 (some .int), Cond.methodLink RL 88 yX5_clearText, Cond.instanceMethod yX5_clearText, Cond.selects RX5 yX5_clearText yX5_clearText, Cond.code yX5_clearText cX5_clearText 2 (some .int), Cond.methodLink RL 89 yX4_fault, Cond.instanceMethod yX4_fault, Cond.selects RX4 yX4_fault yX4_fault, Cond.code yX4_fault cX4_fault 2 (some .int), Cond.fieldLink RX4 197 "JammedBodies$BodyText" "place" "I", Cond.fieldLink RX4 200 "JammedBodies$BodyText" "cause" "I", Cond.methodLink RL 92 yX5_fault, Cond.instanceMethod yX5_fault, Cond.selects RX5 yX5_fault yX5_fault, Cond.code yX5_fault cX5_fault 2 (some .int)]
def wsL_law : List Cond := (wsL_law_r1 ++ (wsL_law_r2 ++ (wsL_law_r3 ++ (wsL_law_r4 ++ (wsL_law_r5 ++ (wsL_law_r6 ++ (wsL_law_r7 ++ (wsL_law_r8 ++ (wsL_law_r9 ++ (wsL_law_r10 ++ (wsL_law_r11 ++ (wsL_law_r12 ++ (wsL_law_r13 ++ (wsL_law_r14 ++ (wsL_law_r15 ++ (wsL_law_r16 ++ (wsL_law_r17 ++ (wsL_law_r18 ++ (wsL_law_r19 ++ (wsL_law_r20 ++ (wsL_law_r21 ++ (wsL_law_r22 ++ (wsL_law_r23 ++ (wsL_law_r24 ++ (wsL_law_r25 ++ (wsL_law_r26 ++ (wsL_law_r27 ++ (wsL_law_r28 ++ (wsL_law_r29 ++ (wsL_law_r30 ++ wsL_law_r31)))))))))))))))))))))))))))))) ++ wsX40 ++ wsX50 ++ wsX30 ++ wsX20 ++ wsX10 ++ wsX00 ++ ([] : List Cond)
theorem inlX0 : ∀ w ∈ wsX00, w ∈ wsL_law := fun _ h => List.mem_append_left _ (List.mem_append_right _ h)
theorem inlX1 : ∀ w ∈ wsX10, w ∈ wsL_law := fun _ h => List.mem_append_left _ (List.mem_append_left _ (List.mem_append_right _ h))
theorem inlX2 : ∀ w ∈ wsX20, w ∈ wsL_law := fun _ h => List.mem_append_left _ (List.mem_append_left _ (List.mem_append_left _ (List.mem_append_right _ h)))
theorem inlX3 : ∀ w ∈ wsX30, w ∈ wsL_law := fun _ h => List.mem_append_left _ (List.mem_append_left _ (List.mem_append_left _ (List.mem_append_left _ (List.mem_append_right _ h))))
theorem inlX4 : ∀ w ∈ wsX40, w ∈ wsL_law := fun _ h => List.mem_append_left _ (List.mem_append_left _ (List.mem_append_left _ (List.mem_append_left _ (List.mem_append_left _ (List.mem_append_left _ (List.mem_append_right _ h))))))
theorem inlX5 : ∀ w ∈ wsX50, w ∈ wsL_law := fun _ h => List.mem_append_left _ (List.mem_append_left _ (List.mem_append_left _ (List.mem_append_left _ (List.mem_append_left _ (List.mem_append_right _ h)))))
abbrev vwCl : List vw_C := [(RX0, TX0, 3), (RX1, TX1, 7), (RX2, TX2, 4), (RX3, TX3, 6), (RX4, TX4, 4), (RX5, TX5, 10)]
end
section
theorem dX0_init_0 : decode cX0_init 0 = .ok (.aload_n 0, 1) := by decide +kernel
theorem dX0_init_1 : decode cX0_init 1 = .ok (.invokespecial 3, 3) := by decide +kernel
theorem dX0_init_4 : decode cX0_init 4 = .ok (.aload_n 0, 1) := by decide +kernel
theorem dX0_init_5 : decode cX0_init 5 = .ok (.bipush 6, 2) := by decide +kernel
theorem dX0_init_7 : decode cX0_init 7 = .ok (.newarray .int, 2) := by decide +kernel
theorem dX0_init_9 : decode cX0_init 9 = .ok (.putfield 9, 3) := by decide +kernel
theorem dX0_init_12 : decode cX0_init 12 = .ok (.aload_n 0, 1) := by decide +kernel
theorem dX0_init_13 : decode cX0_init 13 = .ok (.bipush 6, 2) := by decide +kernel
theorem dX0_init_15 : decode cX0_init 15 = .ok (.newarray .int, 2) := by decide +kernel
theorem dX0_init_17 : decode cX0_init 17 = .ok (.putfield 15, 3) := by decide +kernel
theorem dX0_init_20 : decode cX0_init 20 = .ok (.aload_n 0, 1) := by decide +kernel
theorem dX0_init_21 : decode cX0_init 21 = .ok (.iconst 0, 1) := by decide +kernel
theorem dX0_init_22 : decode cX0_init 22 = .ok (.putfield 18, 3) := by decide +kernel
theorem dX0_init_25 : decode cX0_init 25 = .ok (.return_, 1) := by decide +kernel
theorem dX0_x_0 : decode cX0_x 0 = .ok (.iload_n 1, 1) := by decide +kernel
theorem dX0_x_1 : decode cX0_x 1 = .ok (.ifCond .lt 21, 3) := by decide +kernel
theorem dX0_x_4 : decode cX0_x 4 = .ok (.iload_n 1, 1) := by decide +kernel
theorem dX0_x_5 : decode cX0_x 5 = .ok (.aload_n 0, 1) := by decide +kernel
theorem dX0_x_6 : decode cX0_x 6 = .ok (.getfield 9, 3) := by decide +kernel
theorem dX0_x_9 : decode cX0_x 9 = .ok (.arraylength, 1) := by decide +kernel
theorem dX0_x_10 : decode cX0_x 10 = .ok (.if_icmp .ge 12, 3) := by decide +kernel
theorem dX0_x_13 : decode cX0_x 13 = .ok (.aload_n 0, 1) := by decide +kernel
theorem dX0_x_14 : decode cX0_x 14 = .ok (.getfield 9, 3) := by decide +kernel
theorem dX0_x_17 : decode cX0_x 17 = .ok (.iload_n 1, 1) := by decide +kernel
theorem dX0_x_18 : decode cX0_x 18 = .ok (.iaload, 1) := by decide +kernel
theorem dX0_x_19 : decode cX0_x 19 = .ok (.goto 4, 3) := by decide +kernel
theorem dX0_x_22 : decode cX0_x 22 = .ok (.iconst 0, 1) := by decide +kernel
theorem dX0_x_23 : decode cX0_x 23 = .ok (.ireturn, 1) := by decide +kernel
theorem dX0_y_0 : decode cX0_y 0 = .ok (.iload_n 1, 1) := by decide +kernel
theorem dX0_y_1 : decode cX0_y 1 = .ok (.ifCond .lt 21, 3) := by decide +kernel
theorem dX0_y_4 : decode cX0_y 4 = .ok (.iload_n 1, 1) := by decide +kernel
theorem dX0_y_5 : decode cX0_y 5 = .ok (.aload_n 0, 1) := by decide +kernel
theorem dX0_y_6 : decode cX0_y 6 = .ok (.getfield 15, 3) := by decide +kernel
theorem dX0_y_9 : decode cX0_y 9 = .ok (.arraylength, 1) := by decide +kernel
theorem dX0_y_10 : decode cX0_y 10 = .ok (.if_icmp .ge 12, 3) := by decide +kernel
theorem dX0_y_13 : decode cX0_y 13 = .ok (.aload_n 0, 1) := by decide +kernel
theorem dX0_y_14 : decode cX0_y 14 = .ok (.getfield 15, 3) := by decide +kernel
theorem dX0_y_17 : decode cX0_y 17 = .ok (.iload_n 1, 1) := by decide +kernel
theorem dX0_y_18 : decode cX0_y 18 = .ok (.iaload, 1) := by decide +kernel
theorem dX0_y_19 : decode cX0_y 19 = .ok (.goto 4, 3) := by decide +kernel
theorem dX0_y_22 : decode cX0_y 22 = .ok (.iconst 0, 1) := by decide +kernel
theorem dX0_y_23 : decode cX0_y 23 = .ok (.ireturn, 1) := by decide +kernel
theorem dX0_place_0 : decode cX0_place 0 = .ok (.iload_n 1, 1) := by decide +kernel
theorem dX0_place_1 : decode cX0_place 1 = .ok (.ifCond .lt 35, 3) := by decide +kernel
theorem dX0_place_4 : decode cX0_place 4 = .ok (.iload_n 1, 1) := by decide +kernel
theorem dX0_place_5 : decode cX0_place 5 = .ok (.aload_n 0, 1) := by decide +kernel
theorem dX0_place_6 : decode cX0_place 6 = .ok (.getfield 9, 3) := by decide +kernel
theorem dX0_place_9 : decode cX0_place 9 = .ok (.arraylength, 1) := by decide +kernel
theorem dX0_place_10 : decode cX0_place 10 = .ok (.if_icmp .ge 26, 3) := by decide +kernel
theorem dX0_place_13 : decode cX0_place 13 = .ok (.iload_n 1, 1) := by decide +kernel
theorem dX0_place_14 : decode cX0_place 14 = .ok (.aload_n 0, 1) := by decide +kernel
theorem dX0_place_15 : decode cX0_place 15 = .ok (.getfield 15, 3) := by decide +kernel
theorem dX0_place_18 : decode cX0_place 18 = .ok (.arraylength, 1) := by decide +kernel
theorem dX0_place_19 : decode cX0_place 19 = .ok (.if_icmp .ge 17, 3) := by decide +kernel
theorem dX0_place_22 : decode cX0_place 22 = .ok (.aload_n 0, 1) := by decide +kernel
theorem dX0_place_23 : decode cX0_place 23 = .ok (.getfield 9, 3) := by decide +kernel
theorem dX0_place_26 : decode cX0_place 26 = .ok (.iload_n 1, 1) := by decide +kernel
theorem dX0_place_27 : decode cX0_place 27 = .ok (.iload_n 2, 1) := by decide +kernel
theorem dX0_place_28 : decode cX0_place 28 = .ok (.iastore, 1) := by decide +kernel
theorem dX0_place_29 : decode cX0_place 29 = .ok (.aload_n 0, 1) := by decide +kernel
theorem dX0_place_30 : decode cX0_place 30 = .ok (.getfield 15, 3) := by decide +kernel
theorem dX0_place_33 : decode cX0_place 33 = .ok (.iload_n 1, 1) := by decide +kernel
theorem dX0_place_34 : decode cX0_place 34 = .ok (.iload_n 3, 1) := by decide +kernel
theorem dX0_place_35 : decode cX0_place 35 = .ok (.iastore, 1) := by decide +kernel
theorem dX0_place_36 : decode cX0_place 36 = .ok (.return_, 1) := by decide +kernel
set_option maxRecDepth 20000 in
theorem ggX0_addCorner_X0_place : GoodIn wsX0_addCorner wsX0_place := goodIn_r _ [6, 7, 8, 9, 10, 11] (by decide +kernel) (by decide +kernel)
set_option maxRecDepth 20000 in
theorem gX0_addCorner_X0_place : GoodIn wsX0_addCorner (wsV RX0 22 RX0 yX0_place wsX0_place) := goodIn_app (goodIn_of _ (by decide +kernel)) ggX0_addCorner_X0_place
theorem dX0_addCorner_0 : decode cX0_addCorner 0 = .ok (.aload_n 0, 1) := by decide +kernel
theorem dX0_addCorner_1 : decode cX0_addCorner 1 = .ok (.getfield 18, 3) := by decide +kernel
theorem dX0_addCorner_4 : decode cX0_addCorner 4 = .ok (.bipush 6, 2) := by decide +kernel
theorem dX0_addCorner_6 : decode cX0_addCorner 6 = .ok (.if_icmp .ge 23, 3) := by decide +kernel
theorem dX0_addCorner_9 : decode cX0_addCorner 9 = .ok (.aload_n 0, 1) := by decide +kernel
theorem dX0_addCorner_10 : decode cX0_addCorner 10 = .ok (.aload_n 0, 1) := by decide +kernel
theorem dX0_addCorner_11 : decode cX0_addCorner 11 = .ok (.getfield 18, 3) := by decide +kernel
theorem dX0_addCorner_14 : decode cX0_addCorner 14 = .ok (.iload_n 1, 1) := by decide +kernel
theorem dX0_addCorner_15 : decode cX0_addCorner 15 = .ok (.iload_n 2, 1) := by decide +kernel
theorem dX0_addCorner_16 : decode cX0_addCorner 16 = .ok (.invokevirtual 22, 3) := by decide +kernel
theorem dX0_addCorner_19 : decode cX0_addCorner 19 = .ok (.aload_n 0, 1) := by decide +kernel
theorem dX0_addCorner_20 : decode cX0_addCorner 20 = .ok (.dup, 1) := by decide +kernel
theorem dX0_addCorner_21 : decode cX0_addCorner 21 = .ok (.getfield 18, 3) := by decide +kernel
theorem dX0_addCorner_24 : decode cX0_addCorner 24 = .ok (.iconst 1, 1) := by decide +kernel
theorem dX0_addCorner_25 : decode cX0_addCorner 25 = .ok (.iadd, 1) := by decide +kernel
theorem dX0_addCorner_26 : decode cX0_addCorner 26 = .ok (.putfield 18, 3) := by decide +kernel
theorem dX0_addCorner_29 : decode cX0_addCorner 29 = .ok (.return_, 1) := by decide +kernel
set_option maxRecDepth 20000 in
theorem ggX0_copyFrom_X0_x : GoodIn wsX0_copyFrom wsX0_x := goodIn_r _ [6, 7, 17, 18, 19] (by decide +kernel) (by decide +kernel)
set_option maxRecDepth 20000 in
theorem gX0_copyFrom_X0_x : GoodIn wsX0_copyFrom (wsV RX0 26 RX0 yX0_x wsX0_x) := goodIn_app (goodIn_of _ (by decide +kernel)) ggX0_copyFrom_X0_x
set_option maxRecDepth 20000 in
theorem ggX0_copyFrom_X0_y : GoodIn wsX0_copyFrom wsX0_y := goodIn_r _ [11, 12, 17, 18, 19] (by decide +kernel) (by decide +kernel)
set_option maxRecDepth 20000 in
theorem gX0_copyFrom_X0_y : GoodIn wsX0_copyFrom (wsV RX0 30 RX0 yX0_y wsX0_y) := goodIn_app (goodIn_of _ (by decide +kernel)) ggX0_copyFrom_X0_y
set_option maxRecDepth 20000 in
theorem ggX0_copyFrom_X0_place : GoodIn wsX0_copyFrom wsX0_place := goodIn_r _ [16, 7, 12, 17, 18, 19] (by decide +kernel) (by decide +kernel)
set_option maxRecDepth 20000 in
theorem gX0_copyFrom_X0_place : GoodIn wsX0_copyFrom (wsV RX0 22 RX0 yX0_place wsX0_place) := goodIn_app (goodIn_of _ (by decide +kernel)) ggX0_copyFrom_X0_place
theorem dX0_copyFrom_0 : decode cX0_copyFrom 0 = .ok (.aload_n 0, 1) := by decide +kernel
theorem dX0_copyFrom_1 : decode cX0_copyFrom 1 = .ok (.aload_n 1, 1) := by decide +kernel
theorem dX0_copyFrom_2 : decode cX0_copyFrom 2 = .ok (.getfield 18, 3) := by decide +kernel
theorem dX0_copyFrom_5 : decode cX0_copyFrom 5 = .ok (.putfield 18, 3) := by decide +kernel
theorem dX0_copyFrom_8 : decode cX0_copyFrom 8 = .ok (.iconst 0, 1) := by decide +kernel
theorem dX0_copyFrom_9 : decode cX0_copyFrom 9 = .ok (.istore_n 2, 1) := by decide +kernel
theorem dX0_copyFrom_10 : decode cX0_copyFrom 10 = .ok (.iload_n 2, 1) := by decide +kernel
theorem dX0_copyFrom_11 : decode cX0_copyFrom 11 = .ok (.aload_n 0, 1) := by decide +kernel
theorem dX0_copyFrom_12 : decode cX0_copyFrom 12 = .ok (.getfield 18, 3) := by decide +kernel
theorem dX0_copyFrom_15 : decode cX0_copyFrom 15 = .ok (.if_icmp .ge 24, 3) := by decide +kernel
theorem dX0_copyFrom_18 : decode cX0_copyFrom 18 = .ok (.aload_n 0, 1) := by decide +kernel
theorem dX0_copyFrom_19 : decode cX0_copyFrom 19 = .ok (.iload_n 2, 1) := by decide +kernel
theorem dX0_copyFrom_20 : decode cX0_copyFrom 20 = .ok (.aload_n 1, 1) := by decide +kernel
theorem dX0_copyFrom_21 : decode cX0_copyFrom 21 = .ok (.iload_n 2, 1) := by decide +kernel
theorem dX0_copyFrom_22 : decode cX0_copyFrom 22 = .ok (.invokevirtual 26, 3) := by decide +kernel
theorem dX0_copyFrom_25 : decode cX0_copyFrom 25 = .ok (.aload_n 1, 1) := by decide +kernel
theorem dX0_copyFrom_26 : decode cX0_copyFrom 26 = .ok (.iload_n 2, 1) := by decide +kernel
theorem dX0_copyFrom_27 : decode cX0_copyFrom 27 = .ok (.invokevirtual 30, 3) := by decide +kernel
theorem dX0_copyFrom_30 : decode cX0_copyFrom 30 = .ok (.invokevirtual 22, 3) := by decide +kernel
theorem dX0_copyFrom_33 : decode cX0_copyFrom 33 = .ok (.iinc 2 1, 3) := by decide +kernel
theorem dX0_copyFrom_36 : decode cX0_copyFrom 36 = .ok (.goto (-26), 3) := by decide +kernel
theorem dX0_copyFrom_39 : decode cX0_copyFrom 39 = .ok (.return_, 1) := by decide +kernel
set_option maxRecDepth 20000 in
theorem ggX0_move_X0_x : GoodIn wsX0_move wsX0_x := goodIn_r _ [6, 7, 17, 18, 19] (by decide +kernel) (by decide +kernel)
set_option maxRecDepth 20000 in
theorem gX0_move_X0_x : GoodIn wsX0_move (wsV RX0 26 RX0 yX0_x wsX0_x) := goodIn_app (goodIn_of _ (by decide +kernel)) ggX0_move_X0_x
set_option maxRecDepth 20000 in
theorem ggX0_move_X0_y : GoodIn wsX0_move wsX0_y := goodIn_r _ [11, 12, 17, 18, 19] (by decide +kernel) (by decide +kernel)
set_option maxRecDepth 20000 in
theorem gX0_move_X0_y : GoodIn wsX0_move (wsV RX0 30 RX0 yX0_y wsX0_y) := goodIn_app (goodIn_of _ (by decide +kernel)) ggX0_move_X0_y
set_option maxRecDepth 20000 in
theorem ggX0_move_X0_place : GoodIn wsX0_move wsX0_place := goodIn_r _ [16, 7, 12, 17, 18, 19] (by decide +kernel) (by decide +kernel)
set_option maxRecDepth 20000 in
theorem gX0_move_X0_place : GoodIn wsX0_move (wsV RX0 22 RX0 yX0_place wsX0_place) := goodIn_app (goodIn_of _ (by decide +kernel)) ggX0_move_X0_place
theorem dX0_move_0 : decode cX0_move 0 = .ok (.iconst 0, 1) := by decide +kernel
theorem dX0_move_1 : decode cX0_move 1 = .ok (.istore_n 3, 1) := by decide +kernel
theorem dX0_move_2 : decode cX0_move 2 = .ok (.iload_n 3, 1) := by decide +kernel
theorem dX0_move_3 : decode cX0_move 3 = .ok (.aload_n 0, 1) := by decide +kernel
theorem dX0_move_4 : decode cX0_move 4 = .ok (.getfield 18, 3) := by decide +kernel
theorem dX0_move_7 : decode cX0_move 7 = .ok (.if_icmp .ge 28, 3) := by decide +kernel
theorem dX0_move_10 : decode cX0_move 10 = .ok (.aload_n 0, 1) := by decide +kernel
theorem dX0_move_11 : decode cX0_move 11 = .ok (.iload_n 3, 1) := by decide +kernel
theorem dX0_move_12 : decode cX0_move 12 = .ok (.aload_n 0, 1) := by decide +kernel
theorem dX0_move_13 : decode cX0_move 13 = .ok (.iload_n 3, 1) := by decide +kernel
theorem dX0_move_14 : decode cX0_move 14 = .ok (.invokevirtual 26, 3) := by decide +kernel
theorem dX0_move_17 : decode cX0_move 17 = .ok (.iload_n 1, 1) := by decide +kernel
theorem dX0_move_18 : decode cX0_move 18 = .ok (.iadd, 1) := by decide +kernel
theorem dX0_move_19 : decode cX0_move 19 = .ok (.aload_n 0, 1) := by decide +kernel
theorem dX0_move_20 : decode cX0_move 20 = .ok (.iload_n 3, 1) := by decide +kernel
theorem dX0_move_21 : decode cX0_move 21 = .ok (.invokevirtual 30, 3) := by decide +kernel
theorem dX0_move_24 : decode cX0_move 24 = .ok (.iload_n 2, 1) := by decide +kernel
theorem dX0_move_25 : decode cX0_move 25 = .ok (.iadd, 1) := by decide +kernel
theorem dX0_move_26 : decode cX0_move 26 = .ok (.invokevirtual 22, 3) := by decide +kernel
theorem dX0_move_29 : decode cX0_move 29 = .ok (.iinc 3 1, 3) := by decide +kernel
theorem dX0_move_32 : decode cX0_move 32 = .ok (.goto (-30), 3) := by decide +kernel
theorem dX0_move_35 : decode cX0_move 35 = .ok (.return_, 1) := by decide +kernel
set_option maxRecDepth 20000 in
theorem ggX0_turnLeft_X0_left : GoodIn wsX0_turnLeft wsX0_left := goodIn_r _ [6, 1, 7, 8, 9, 10, 11, 12, 13, 5, 14, 15, 36, 37, 38] (by decide +kernel) (by decide +kernel)
set_option maxRecDepth 20000 in
theorem gX0_turnLeft_X0_left : GoodIn wsX0_turnLeft (wsV RX0 33 RX0 yX0_left wsX0_left) := goodIn_app (goodIn_of _ (by decide +kernel)) ggX0_turnLeft_X0_left
set_option maxRecDepth 20000 in
theorem ggX0_turnLeft_X0_low : GoodIn wsX0_turnLeft wsX0_low := goodIn_r _ [19, 1, 7, 8, 9, 10, 20, 21, 22, 5, 23, 24, 36, 37, 38] (by decide +kernel) (by decide +kernel)
set_option maxRecDepth 20000 in
theorem gX0_turnLeft_X0_low : GoodIn wsX0_turnLeft (wsV RX0 37 RX0 yX0_low wsX0_low) := goodIn_app (goodIn_of _ (by decide +kernel)) ggX0_turnLeft_X0_low
set_option maxRecDepth 20000 in
theorem ggX0_turnLeft_X0_high : GoodIn wsX0_turnLeft wsX0_high := goodIn_r _ [28, 1, 29, 30, 9, 31, 20, 21, 22, 5, 23, 24, 36, 37, 38] (by decide +kernel) (by decide +kernel)
set_option maxRecDepth 20000 in
theorem gX0_turnLeft_X0_high : GoodIn wsX0_turnLeft (wsV RX0 40 RX0 yX0_high wsX0_high) := goodIn_app (goodIn_of _ (by decide +kernel)) ggX0_turnLeft_X0_high
set_option maxRecDepth 20000 in
theorem ggX0_turnLeft_X0_y : GoodIn wsX0_turnLeft wsX0_y := goodIn_r _ [23, 24, 36, 37, 38] (by decide +kernel) (by decide +kernel)
set_option maxRecDepth 20000 in
theorem gX0_turnLeft_X0_y : GoodIn wsX0_turnLeft (wsV RX0 30 RX0 yX0_y wsX0_y) := goodIn_app (goodIn_of _ (by decide +kernel)) ggX0_turnLeft_X0_y
set_option maxRecDepth 20000 in
theorem ggX0_turnLeft_X0_x : GoodIn wsX0_turnLeft wsX0_x := goodIn_r _ [14, 15, 36, 37, 38] (by decide +kernel) (by decide +kernel)
set_option maxRecDepth 20000 in
theorem gX0_turnLeft_X0_x : GoodIn wsX0_turnLeft (wsV RX0 26 RX0 yX0_x wsX0_x) := goodIn_app (goodIn_of _ (by decide +kernel)) ggX0_turnLeft_X0_x
set_option maxRecDepth 20000 in
theorem ggX0_turnLeft_X0_place : GoodIn wsX0_turnLeft wsX0_place := goodIn_r _ [35, 15, 24, 36, 37, 38] (by decide +kernel) (by decide +kernel)
set_option maxRecDepth 20000 in
theorem gX0_turnLeft_X0_place : GoodIn wsX0_turnLeft (wsV RX0 22 RX0 yX0_place wsX0_place) := goodIn_app (goodIn_of _ (by decide +kernel)) ggX0_turnLeft_X0_place
theorem dX0_turnLeft_0 : decode cX0_turnLeft 0 = .ok (.aload_n 0, 1) := by decide +kernel
theorem dX0_turnLeft_1 : decode cX0_turnLeft 1 = .ok (.invokevirtual 33, 3) := by decide +kernel
theorem dX0_turnLeft_4 : decode cX0_turnLeft 4 = .ok (.istore_n 1, 1) := by decide +kernel
theorem dX0_turnLeft_5 : decode cX0_turnLeft 5 = .ok (.aload_n 0, 1) := by decide +kernel
theorem dX0_turnLeft_6 : decode cX0_turnLeft 6 = .ok (.invokevirtual 37, 3) := by decide +kernel
theorem dX0_turnLeft_9 : decode cX0_turnLeft 9 = .ok (.istore_n 2, 1) := by decide +kernel
theorem dX0_turnLeft_10 : decode cX0_turnLeft 10 = .ok (.aload_n 0, 1) := by decide +kernel
theorem dX0_turnLeft_11 : decode cX0_turnLeft 11 = .ok (.invokevirtual 40, 3) := by decide +kernel
theorem dX0_turnLeft_14 : decode cX0_turnLeft 14 = .ok (.istore_n 3, 1) := by decide +kernel
theorem dX0_turnLeft_15 : decode cX0_turnLeft 15 = .ok (.iconst 0, 1) := by decide +kernel
theorem dX0_turnLeft_16 : decode cX0_turnLeft 16 = .ok (.istore 4, 2) := by decide +kernel
theorem dX0_turnLeft_18 : decode cX0_turnLeft 18 = .ok (.iload 4, 2) := by decide +kernel
theorem dX0_turnLeft_20 : decode cX0_turnLeft 20 = .ok (.aload_n 0, 1) := by decide +kernel
theorem dX0_turnLeft_21 : decode cX0_turnLeft 21 = .ok (.getfield 18, 3) := by decide +kernel
theorem dX0_turnLeft_24 : decode cX0_turnLeft 24 = .ok (.if_icmp .ge 35, 3) := by decide +kernel
theorem dX0_turnLeft_27 : decode cX0_turnLeft 27 = .ok (.aload_n 0, 1) := by decide +kernel
theorem dX0_turnLeft_28 : decode cX0_turnLeft 28 = .ok (.iload 4, 2) := by decide +kernel
theorem dX0_turnLeft_30 : decode cX0_turnLeft 30 = .ok (.iload_n 1, 1) := by decide +kernel
theorem dX0_turnLeft_31 : decode cX0_turnLeft 31 = .ok (.iload_n 3, 1) := by decide +kernel
theorem dX0_turnLeft_32 : decode cX0_turnLeft 32 = .ok (.iadd, 1) := by decide +kernel
theorem dX0_turnLeft_33 : decode cX0_turnLeft 33 = .ok (.aload_n 0, 1) := by decide +kernel
theorem dX0_turnLeft_34 : decode cX0_turnLeft 34 = .ok (.iload 4, 2) := by decide +kernel
theorem dX0_turnLeft_36 : decode cX0_turnLeft 36 = .ok (.invokevirtual 30, 3) := by decide +kernel
theorem dX0_turnLeft_39 : decode cX0_turnLeft 39 = .ok (.isub, 1) := by decide +kernel
theorem dX0_turnLeft_40 : decode cX0_turnLeft 40 = .ok (.iload_n 2, 1) := by decide +kernel
theorem dX0_turnLeft_41 : decode cX0_turnLeft 41 = .ok (.aload_n 0, 1) := by decide +kernel
theorem dX0_turnLeft_42 : decode cX0_turnLeft 42 = .ok (.iload 4, 2) := by decide +kernel
theorem dX0_turnLeft_44 : decode cX0_turnLeft 44 = .ok (.invokevirtual 26, 3) := by decide +kernel
theorem dX0_turnLeft_47 : decode cX0_turnLeft 47 = .ok (.iadd, 1) := by decide +kernel
theorem dX0_turnLeft_48 : decode cX0_turnLeft 48 = .ok (.iload_n 1, 1) := by decide +kernel
theorem dX0_turnLeft_49 : decode cX0_turnLeft 49 = .ok (.isub, 1) := by decide +kernel
theorem dX0_turnLeft_50 : decode cX0_turnLeft 50 = .ok (.invokevirtual 22, 3) := by decide +kernel
theorem dX0_turnLeft_53 : decode cX0_turnLeft 53 = .ok (.iinc 4 1, 3) := by decide +kernel
theorem dX0_turnLeft_56 : decode cX0_turnLeft 56 = .ok (.goto (-38), 3) := by decide +kernel
theorem dX0_turnLeft_59 : decode cX0_turnLeft 59 = .ok (.return_, 1) := by decide +kernel
theorem dX0_following_0 : decode cX0_following 0 = .ok (.iload_n 1, 1) := by decide +kernel
theorem dX0_following_1 : decode cX0_following 1 = .ok (.iconst 1, 1) := by decide +kernel
theorem dX0_following_2 : decode cX0_following 2 = .ok (.iadd, 1) := by decide +kernel
theorem dX0_following_3 : decode cX0_following 3 = .ok (.aload_n 0, 1) := by decide +kernel
theorem dX0_following_4 : decode cX0_following 4 = .ok (.getfield 18, 3) := by decide +kernel
theorem dX0_following_7 : decode cX0_following 7 = .ok (.if_icmp .ge 9, 3) := by decide +kernel
theorem dX0_following_10 : decode cX0_following 10 = .ok (.iload_n 1, 1) := by decide +kernel
theorem dX0_following_11 : decode cX0_following 11 = .ok (.iconst 1, 1) := by decide +kernel
theorem dX0_following_12 : decode cX0_following 12 = .ok (.iadd, 1) := by decide +kernel
theorem dX0_following_13 : decode cX0_following 13 = .ok (.goto 4, 3) := by decide +kernel
theorem dX0_following_16 : decode cX0_following 16 = .ok (.iconst 0, 1) := by decide +kernel
theorem dX0_following_17 : decode cX0_following 17 = .ok (.ireturn, 1) := by decide +kernel
set_option maxRecDepth 20000 in
theorem ggX0_left_X0_x : GoodIn wsX0_left wsX0_x := goodIn_r _ [10, 11, 12, 13, 14] (by decide +kernel) (by decide +kernel)
set_option maxRecDepth 20000 in
theorem gX0_left_X0_x : GoodIn wsX0_left (wsV RX0 26 RX0 yX0_x wsX0_x) := goodIn_app (goodIn_of _ (by decide +kernel)) ggX0_left_X0_x
theorem dX0_left_0 : decode cX0_left 0 = .ok (.aload_n 0, 1) := by decide +kernel
theorem dX0_left_1 : decode cX0_left 1 = .ok (.iconst 0, 1) := by decide +kernel
theorem dX0_left_2 : decode cX0_left 2 = .ok (.invokevirtual 26, 3) := by decide +kernel
theorem dX0_left_5 : decode cX0_left 5 = .ok (.istore_n 1, 1) := by decide +kernel
theorem dX0_left_6 : decode cX0_left 6 = .ok (.iconst 1, 1) := by decide +kernel
theorem dX0_left_7 : decode cX0_left 7 = .ok (.istore_n 2, 1) := by decide +kernel
theorem dX0_left_8 : decode cX0_left 8 = .ok (.iload_n 2, 1) := by decide +kernel
theorem dX0_left_9 : decode cX0_left 9 = .ok (.aload_n 0, 1) := by decide +kernel
theorem dX0_left_10 : decode cX0_left 10 = .ok (.getfield 18, 3) := by decide +kernel
theorem dX0_left_13 : decode cX0_left 13 = .ok (.if_icmp .ge 19, 3) := by decide +kernel
theorem dX0_left_16 : decode cX0_left 16 = .ok (.iload_n 1, 1) := by decide +kernel
theorem dX0_left_17 : decode cX0_left 17 = .ok (.aload_n 0, 1) := by decide +kernel
theorem dX0_left_18 : decode cX0_left 18 = .ok (.iload_n 2, 1) := by decide +kernel
theorem dX0_left_19 : decode cX0_left 19 = .ok (.invokevirtual 26, 3) := by decide +kernel
theorem dX0_left_22 : decode cX0_left 22 = .ok (.invokestatic 43, 3) := by decide +kernel
theorem dX0_left_25 : decode cX0_left 25 = .ok (.istore_n 1, 1) := by decide +kernel
theorem dX0_left_26 : decode cX0_left 26 = .ok (.iinc 2 1, 3) := by decide +kernel
theorem dX0_left_29 : decode cX0_left 29 = .ok (.goto (-21), 3) := by decide +kernel
theorem dX0_left_32 : decode cX0_left 32 = .ok (.iload_n 1, 1) := by decide +kernel
theorem dX0_left_33 : decode cX0_left 33 = .ok (.ireturn, 1) := by decide +kernel
set_option maxRecDepth 20000 in
theorem ggX0_right_X0_x : GoodIn wsX0_right wsX0_x := goodIn_r _ [10, 11, 12, 13, 14] (by decide +kernel) (by decide +kernel)
set_option maxRecDepth 20000 in
theorem gX0_right_X0_x : GoodIn wsX0_right (wsV RX0 26 RX0 yX0_x wsX0_x) := goodIn_app (goodIn_of _ (by decide +kernel)) ggX0_right_X0_x
theorem dX0_right_0 : decode cX0_right 0 = .ok (.aload_n 0, 1) := by decide +kernel
theorem dX0_right_1 : decode cX0_right 1 = .ok (.iconst 0, 1) := by decide +kernel
theorem dX0_right_2 : decode cX0_right 2 = .ok (.invokevirtual 26, 3) := by decide +kernel
theorem dX0_right_5 : decode cX0_right 5 = .ok (.istore_n 1, 1) := by decide +kernel
theorem dX0_right_6 : decode cX0_right 6 = .ok (.iconst 1, 1) := by decide +kernel
theorem dX0_right_7 : decode cX0_right 7 = .ok (.istore_n 2, 1) := by decide +kernel
theorem dX0_right_8 : decode cX0_right 8 = .ok (.iload_n 2, 1) := by decide +kernel
theorem dX0_right_9 : decode cX0_right 9 = .ok (.aload_n 0, 1) := by decide +kernel
theorem dX0_right_10 : decode cX0_right 10 = .ok (.getfield 18, 3) := by decide +kernel
theorem dX0_right_13 : decode cX0_right 13 = .ok (.if_icmp .ge 19, 3) := by decide +kernel
theorem dX0_right_16 : decode cX0_right 16 = .ok (.iload_n 1, 1) := by decide +kernel
theorem dX0_right_17 : decode cX0_right 17 = .ok (.aload_n 0, 1) := by decide +kernel
theorem dX0_right_18 : decode cX0_right 18 = .ok (.iload_n 2, 1) := by decide +kernel
theorem dX0_right_19 : decode cX0_right 19 = .ok (.invokevirtual 26, 3) := by decide +kernel
theorem dX0_right_22 : decode cX0_right 22 = .ok (.invokestatic 49, 3) := by decide +kernel
theorem dX0_right_25 : decode cX0_right 25 = .ok (.istore_n 1, 1) := by decide +kernel
theorem dX0_right_26 : decode cX0_right 26 = .ok (.iinc 2 1, 3) := by decide +kernel
theorem dX0_right_29 : decode cX0_right 29 = .ok (.goto (-21), 3) := by decide +kernel
theorem dX0_right_32 : decode cX0_right 32 = .ok (.iload_n 1, 1) := by decide +kernel
theorem dX0_right_33 : decode cX0_right 33 = .ok (.ireturn, 1) := by decide +kernel
set_option maxRecDepth 20000 in
theorem ggX0_low_X0_y : GoodIn wsX0_low wsX0_y := goodIn_r _ [10, 11, 12, 13, 14] (by decide +kernel) (by decide +kernel)
set_option maxRecDepth 20000 in
theorem gX0_low_X0_y : GoodIn wsX0_low (wsV RX0 30 RX0 yX0_y wsX0_y) := goodIn_app (goodIn_of _ (by decide +kernel)) ggX0_low_X0_y
theorem dX0_low_0 : decode cX0_low 0 = .ok (.aload_n 0, 1) := by decide +kernel
theorem dX0_low_1 : decode cX0_low 1 = .ok (.iconst 0, 1) := by decide +kernel
theorem dX0_low_2 : decode cX0_low 2 = .ok (.invokevirtual 30, 3) := by decide +kernel
theorem dX0_low_5 : decode cX0_low 5 = .ok (.istore_n 1, 1) := by decide +kernel
theorem dX0_low_6 : decode cX0_low 6 = .ok (.iconst 1, 1) := by decide +kernel
theorem dX0_low_7 : decode cX0_low 7 = .ok (.istore_n 2, 1) := by decide +kernel
theorem dX0_low_8 : decode cX0_low 8 = .ok (.iload_n 2, 1) := by decide +kernel
theorem dX0_low_9 : decode cX0_low 9 = .ok (.aload_n 0, 1) := by decide +kernel
theorem dX0_low_10 : decode cX0_low 10 = .ok (.getfield 18, 3) := by decide +kernel
theorem dX0_low_13 : decode cX0_low 13 = .ok (.if_icmp .ge 19, 3) := by decide +kernel
theorem dX0_low_16 : decode cX0_low 16 = .ok (.iload_n 1, 1) := by decide +kernel
theorem dX0_low_17 : decode cX0_low 17 = .ok (.aload_n 0, 1) := by decide +kernel
theorem dX0_low_18 : decode cX0_low 18 = .ok (.iload_n 2, 1) := by decide +kernel
theorem dX0_low_19 : decode cX0_low 19 = .ok (.invokevirtual 30, 3) := by decide +kernel
theorem dX0_low_22 : decode cX0_low 22 = .ok (.invokestatic 43, 3) := by decide +kernel
theorem dX0_low_25 : decode cX0_low 25 = .ok (.istore_n 1, 1) := by decide +kernel
theorem dX0_low_26 : decode cX0_low 26 = .ok (.iinc 2 1, 3) := by decide +kernel
theorem dX0_low_29 : decode cX0_low 29 = .ok (.goto (-21), 3) := by decide +kernel
theorem dX0_low_32 : decode cX0_low 32 = .ok (.iload_n 1, 1) := by decide +kernel
theorem dX0_low_33 : decode cX0_low 33 = .ok (.ireturn, 1) := by decide +kernel
set_option maxRecDepth 20000 in
theorem ggX0_high_X0_y : GoodIn wsX0_high wsX0_y := goodIn_r _ [10, 11, 12, 13, 14] (by decide +kernel) (by decide +kernel)
set_option maxRecDepth 20000 in
theorem gX0_high_X0_y : GoodIn wsX0_high (wsV RX0 30 RX0 yX0_y wsX0_y) := goodIn_app (goodIn_of _ (by decide +kernel)) ggX0_high_X0_y
theorem dX0_high_0 : decode cX0_high 0 = .ok (.aload_n 0, 1) := by decide +kernel
theorem dX0_high_1 : decode cX0_high 1 = .ok (.iconst 0, 1) := by decide +kernel
theorem dX0_high_2 : decode cX0_high 2 = .ok (.invokevirtual 30, 3) := by decide +kernel
theorem dX0_high_5 : decode cX0_high 5 = .ok (.istore_n 1, 1) := by decide +kernel
theorem dX0_high_6 : decode cX0_high 6 = .ok (.iconst 1, 1) := by decide +kernel
theorem dX0_high_7 : decode cX0_high 7 = .ok (.istore_n 2, 1) := by decide +kernel
theorem dX0_high_8 : decode cX0_high 8 = .ok (.iload_n 2, 1) := by decide +kernel
theorem dX0_high_9 : decode cX0_high 9 = .ok (.aload_n 0, 1) := by decide +kernel
theorem dX0_high_10 : decode cX0_high 10 = .ok (.getfield 18, 3) := by decide +kernel
theorem dX0_high_13 : decode cX0_high 13 = .ok (.if_icmp .ge 19, 3) := by decide +kernel
theorem dX0_high_16 : decode cX0_high 16 = .ok (.iload_n 1, 1) := by decide +kernel
theorem dX0_high_17 : decode cX0_high 17 = .ok (.aload_n 0, 1) := by decide +kernel
theorem dX0_high_18 : decode cX0_high 18 = .ok (.iload_n 2, 1) := by decide +kernel
theorem dX0_high_19 : decode cX0_high 19 = .ok (.invokevirtual 30, 3) := by decide +kernel
theorem dX0_high_22 : decode cX0_high 22 = .ok (.invokestatic 49, 3) := by decide +kernel
theorem dX0_high_25 : decode cX0_high 25 = .ok (.istore_n 1, 1) := by decide +kernel
theorem dX0_high_26 : decode cX0_high 26 = .ok (.iinc 2 1, 3) := by decide +kernel
theorem dX0_high_29 : decode cX0_high 29 = .ok (.goto (-21), 3) := by decide +kernel
theorem dX0_high_32 : decode cX0_high 32 = .ok (.iload_n 1, 1) := by decide +kernel
theorem dX0_high_33 : decode cX0_high 33 = .ok (.ireturn, 1) := by decide +kernel
set_option maxRecDepth 20000 in
theorem ggX0_doubleArea_X0_following : GoodIn wsX0_doubleArea wsX0_following := goodIn_r _ [6, 1, 17, 18, 19] (by decide +kernel) (by decide +kernel)
set_option maxRecDepth 20000 in
theorem gX0_doubleArea_X0_following : GoodIn wsX0_doubleArea (wsV RX0 52 RX0 yX0_following wsX0_following) := goodIn_app (goodIn_of _ (by decide +kernel)) ggX0_doubleArea_X0_following
set_option maxRecDepth 20000 in
theorem ggX0_doubleArea_X0_x : GoodIn wsX0_doubleArea wsX0_x := goodIn_r _ [10, 11, 17, 18, 19] (by decide +kernel) (by decide +kernel)
set_option maxRecDepth 20000 in
theorem gX0_doubleArea_X0_x : GoodIn wsX0_doubleArea (wsV RX0 26 RX0 yX0_x wsX0_x) := goodIn_app (goodIn_of _ (by decide +kernel)) ggX0_doubleArea_X0_x
set_option maxRecDepth 20000 in
theorem ggX0_doubleArea_X0_y : GoodIn wsX0_doubleArea wsX0_y := goodIn_r _ [15, 16, 17, 18, 19] (by decide +kernel) (by decide +kernel)
set_option maxRecDepth 20000 in
theorem gX0_doubleArea_X0_y : GoodIn wsX0_doubleArea (wsV RX0 30 RX0 yX0_y wsX0_y) := goodIn_app (goodIn_of _ (by decide +kernel)) ggX0_doubleArea_X0_y
theorem dX0_doubleArea_0 : decode cX0_doubleArea 0 = .ok (.iconst 0, 1) := by decide +kernel
theorem dX0_doubleArea_1 : decode cX0_doubleArea 1 = .ok (.istore_n 1, 1) := by decide +kernel
theorem dX0_doubleArea_2 : decode cX0_doubleArea 2 = .ok (.iconst 0, 1) := by decide +kernel
theorem dX0_doubleArea_3 : decode cX0_doubleArea 3 = .ok (.istore_n 2, 1) := by decide +kernel
theorem dX0_doubleArea_4 : decode cX0_doubleArea 4 = .ok (.iload_n 2, 1) := by decide +kernel
theorem dX0_doubleArea_5 : decode cX0_doubleArea 5 = .ok (.aload_n 0, 1) := by decide +kernel
theorem dX0_doubleArea_6 : decode cX0_doubleArea 6 = .ok (.getfield 18, 3) := by decide +kernel
theorem dX0_doubleArea_9 : decode cX0_doubleArea 9 = .ok (.if_icmp .ge 41, 3) := by decide +kernel
theorem dX0_doubleArea_12 : decode cX0_doubleArea 12 = .ok (.aload_n 0, 1) := by decide +kernel
theorem dX0_doubleArea_13 : decode cX0_doubleArea 13 = .ok (.iload_n 2, 1) := by decide +kernel
theorem dX0_doubleArea_14 : decode cX0_doubleArea 14 = .ok (.invokevirtual 52, 3) := by decide +kernel
theorem dX0_doubleArea_17 : decode cX0_doubleArea 17 = .ok (.istore_n 3, 1) := by decide +kernel
theorem dX0_doubleArea_18 : decode cX0_doubleArea 18 = .ok (.iload_n 1, 1) := by decide +kernel
theorem dX0_doubleArea_19 : decode cX0_doubleArea 19 = .ok (.aload_n 0, 1) := by decide +kernel
theorem dX0_doubleArea_20 : decode cX0_doubleArea 20 = .ok (.iload_n 2, 1) := by decide +kernel
theorem dX0_doubleArea_21 : decode cX0_doubleArea 21 = .ok (.invokevirtual 26, 3) := by decide +kernel
theorem dX0_doubleArea_24 : decode cX0_doubleArea 24 = .ok (.aload_n 0, 1) := by decide +kernel
theorem dX0_doubleArea_25 : decode cX0_doubleArea 25 = .ok (.iload_n 3, 1) := by decide +kernel
theorem dX0_doubleArea_26 : decode cX0_doubleArea 26 = .ok (.invokevirtual 30, 3) := by decide +kernel
theorem dX0_doubleArea_29 : decode cX0_doubleArea 29 = .ok (.imul, 1) := by decide +kernel
theorem dX0_doubleArea_30 : decode cX0_doubleArea 30 = .ok (.aload_n 0, 1) := by decide +kernel
theorem dX0_doubleArea_31 : decode cX0_doubleArea 31 = .ok (.iload_n 3, 1) := by decide +kernel
theorem dX0_doubleArea_32 : decode cX0_doubleArea 32 = .ok (.invokevirtual 26, 3) := by decide +kernel
theorem dX0_doubleArea_35 : decode cX0_doubleArea 35 = .ok (.aload_n 0, 1) := by decide +kernel
theorem dX0_doubleArea_36 : decode cX0_doubleArea 36 = .ok (.iload_n 2, 1) := by decide +kernel
theorem dX0_doubleArea_37 : decode cX0_doubleArea 37 = .ok (.invokevirtual 30, 3) := by decide +kernel
theorem dX0_doubleArea_40 : decode cX0_doubleArea 40 = .ok (.imul, 1) := by decide +kernel
theorem dX0_doubleArea_41 : decode cX0_doubleArea 41 = .ok (.isub, 1) := by decide +kernel
theorem dX0_doubleArea_42 : decode cX0_doubleArea 42 = .ok (.iadd, 1) := by decide +kernel
theorem dX0_doubleArea_43 : decode cX0_doubleArea 43 = .ok (.istore_n 1, 1) := by decide +kernel
theorem dX0_doubleArea_44 : decode cX0_doubleArea 44 = .ok (.iinc 2 1, 3) := by decide +kernel
theorem dX0_doubleArea_47 : decode cX0_doubleArea 47 = .ok (.goto (-43), 3) := by decide +kernel
theorem dX0_doubleArea_50 : decode cX0_doubleArea 50 = .ok (.iload_n 1, 1) := by decide +kernel
theorem dX0_doubleArea_51 : decode cX0_doubleArea 51 = .ok (.ireturn, 1) := by decide +kernel
set_option maxRecDepth 20000 in
theorem ggX0_wallsTouched_X0_left : GoodIn wsX0_wallsTouched wsX0_left := goodIn_r _ [5, 6, 7, 8, 9, 10, 11, 12, 13, 4, 14, 15, 36, 37, 38] (by decide +kernel) (by decide +kernel)
set_option maxRecDepth 20000 in
theorem gX0_wallsTouched_X0_left : GoodIn wsX0_wallsTouched (wsV RX0 33 RX0 yX0_left wsX0_left) := goodIn_app (goodIn_of _ (by decide +kernel)) ggX0_wallsTouched_X0_left
set_option maxRecDepth 20000 in
theorem ggX0_wallsTouched_X0_right : GoodIn wsX0_wallsTouched wsX0_right := goodIn_r _ [19, 6, 20, 21, 9, 22, 11, 12, 13, 4, 14, 15, 36, 37, 38] (by decide +kernel) (by decide +kernel)
set_option maxRecDepth 20000 in
theorem gX0_wallsTouched_X0_right : GoodIn wsX0_wallsTouched (wsV RX0 55 RX0 yX0_right wsX0_right) := goodIn_app (goodIn_of _ (by decide +kernel)) ggX0_wallsTouched_X0_right
set_option maxRecDepth 20000 in
theorem ggX0_wallsTouched_X0_low : GoodIn wsX0_wallsTouched wsX0_low := goodIn_r _ [26, 6, 7, 8, 9, 10, 27, 28, 29, 4, 30, 31, 36, 37, 38] (by decide +kernel) (by decide +kernel)
set_option maxRecDepth 20000 in
theorem gX0_wallsTouched_X0_low : GoodIn wsX0_wallsTouched (wsV RX0 37 RX0 yX0_low wsX0_low) := goodIn_app (goodIn_of _ (by decide +kernel)) ggX0_wallsTouched_X0_low
set_option maxRecDepth 20000 in
theorem ggX0_wallsTouched_X0_high : GoodIn wsX0_wallsTouched wsX0_high := goodIn_r _ [35, 6, 20, 21, 9, 22, 27, 28, 29, 4, 30, 31, 36, 37, 38] (by decide +kernel) (by decide +kernel)
set_option maxRecDepth 20000 in
theorem gX0_wallsTouched_X0_high : GoodIn wsX0_wallsTouched (wsV RX0 40 RX0 yX0_high wsX0_high) := goodIn_app (goodIn_of _ (by decide +kernel)) ggX0_wallsTouched_X0_high
theorem dX0_wallsTouched_0 : decode cX0_wallsTouched 0 = .ok (.aload_n 0, 1) := by decide +kernel
theorem dX0_wallsTouched_1 : decode cX0_wallsTouched 1 = .ok (.invokevirtual 33, 3) := by decide +kernel
theorem dX0_wallsTouched_4 : decode cX0_wallsTouched 4 = .ok (.ifCond .ne 7, 3) := by decide +kernel
theorem dX0_wallsTouched_7 : decode cX0_wallsTouched 7 = .ok (.iconst 1, 1) := by decide +kernel
theorem dX0_wallsTouched_8 : decode cX0_wallsTouched 8 = .ok (.goto 4, 3) := by decide +kernel
theorem dX0_wallsTouched_11 : decode cX0_wallsTouched 11 = .ok (.iconst 0, 1) := by decide +kernel
theorem dX0_wallsTouched_12 : decode cX0_wallsTouched 12 = .ok (.istore_n 3, 1) := by decide +kernel
theorem dX0_wallsTouched_13 : decode cX0_wallsTouched 13 = .ok (.iload_n 3, 1) := by decide +kernel
theorem dX0_wallsTouched_14 : decode cX0_wallsTouched 14 = .ok (.aload_n 0, 1) := by decide +kernel
theorem dX0_wallsTouched_15 : decode cX0_wallsTouched 15 = .ok (.invokevirtual 55, 3) := by decide +kernel
theorem dX0_wallsTouched_18 : decode cX0_wallsTouched 18 = .ok (.iload_n 1, 1) := by decide +kernel
theorem dX0_wallsTouched_19 : decode cX0_wallsTouched 19 = .ok (.if_icmp .ne 7, 3) := by decide +kernel
theorem dX0_wallsTouched_22 : decode cX0_wallsTouched 22 = .ok (.iconst 2, 1) := by decide +kernel
theorem dX0_wallsTouched_23 : decode cX0_wallsTouched 23 = .ok (.goto 4, 3) := by decide +kernel
theorem dX0_wallsTouched_26 : decode cX0_wallsTouched 26 = .ok (.iconst 0, 1) := by decide +kernel
theorem dX0_wallsTouched_27 : decode cX0_wallsTouched 27 = .ok (.ior, 1) := by decide +kernel
theorem dX0_wallsTouched_28 : decode cX0_wallsTouched 28 = .ok (.istore_n 3, 1) := by decide +kernel
theorem dX0_wallsTouched_29 : decode cX0_wallsTouched 29 = .ok (.iload_n 3, 1) := by decide +kernel
theorem dX0_wallsTouched_30 : decode cX0_wallsTouched 30 = .ok (.aload_n 0, 1) := by decide +kernel
theorem dX0_wallsTouched_31 : decode cX0_wallsTouched 31 = .ok (.invokevirtual 37, 3) := by decide +kernel
theorem dX0_wallsTouched_34 : decode cX0_wallsTouched 34 = .ok (.ifCond .ne 7, 3) := by decide +kernel
theorem dX0_wallsTouched_37 : decode cX0_wallsTouched 37 = .ok (.iconst 4, 1) := by decide +kernel
theorem dX0_wallsTouched_38 : decode cX0_wallsTouched 38 = .ok (.goto 4, 3) := by decide +kernel
theorem dX0_wallsTouched_41 : decode cX0_wallsTouched 41 = .ok (.iconst 0, 1) := by decide +kernel
theorem dX0_wallsTouched_42 : decode cX0_wallsTouched 42 = .ok (.ior, 1) := by decide +kernel
theorem dX0_wallsTouched_43 : decode cX0_wallsTouched 43 = .ok (.istore_n 3, 1) := by decide +kernel
theorem dX0_wallsTouched_44 : decode cX0_wallsTouched 44 = .ok (.iload_n 3, 1) := by decide +kernel
theorem dX0_wallsTouched_45 : decode cX0_wallsTouched 45 = .ok (.aload_n 0, 1) := by decide +kernel
theorem dX0_wallsTouched_46 : decode cX0_wallsTouched 46 = .ok (.invokevirtual 40, 3) := by decide +kernel
theorem dX0_wallsTouched_49 : decode cX0_wallsTouched 49 = .ok (.iload_n 2, 1) := by decide +kernel
theorem dX0_wallsTouched_50 : decode cX0_wallsTouched 50 = .ok (.if_icmp .ne 8, 3) := by decide +kernel
theorem dX0_wallsTouched_53 : decode cX0_wallsTouched 53 = .ok (.bipush 8, 2) := by decide +kernel
theorem dX0_wallsTouched_55 : decode cX0_wallsTouched 55 = .ok (.goto 4, 3) := by decide +kernel
theorem dX0_wallsTouched_58 : decode cX0_wallsTouched 58 = .ok (.iconst 0, 1) := by decide +kernel
theorem dX0_wallsTouched_59 : decode cX0_wallsTouched 59 = .ok (.ior, 1) := by decide +kernel
theorem dX0_wallsTouched_60 : decode cX0_wallsTouched 60 = .ok (.istore_n 3, 1) := by decide +kernel
theorem dX0_wallsTouched_61 : decode cX0_wallsTouched 61 = .ok (.iload_n 3, 1) := by decide +kernel
theorem dX0_wallsTouched_62 : decode cX0_wallsTouched 62 = .ok (.ireturn, 1) := by decide +kernel
set_option maxRecDepth 20000 in
theorem ggX0_wallsBeyond_X0_left : GoodIn wsX0_wallsBeyond wsX0_left := goodIn_r _ [5, 6, 7, 8, 9, 10, 11, 12, 13, 4, 14, 15, 36, 37, 38] (by decide +kernel) (by decide +kernel)
set_option maxRecDepth 20000 in
theorem gX0_wallsBeyond_X0_left : GoodIn wsX0_wallsBeyond (wsV RX0 33 RX0 yX0_left wsX0_left) := goodIn_app (goodIn_of _ (by decide +kernel)) ggX0_wallsBeyond_X0_left
set_option maxRecDepth 20000 in
theorem ggX0_wallsBeyond_X0_right : GoodIn wsX0_wallsBeyond wsX0_right := goodIn_r _ [19, 6, 20, 21, 9, 22, 11, 12, 13, 4, 14, 15, 36, 37, 38] (by decide +kernel) (by decide +kernel)
set_option maxRecDepth 20000 in
theorem gX0_wallsBeyond_X0_right : GoodIn wsX0_wallsBeyond (wsV RX0 55 RX0 yX0_right wsX0_right) := goodIn_app (goodIn_of _ (by decide +kernel)) ggX0_wallsBeyond_X0_right
set_option maxRecDepth 20000 in
theorem ggX0_wallsBeyond_X0_low : GoodIn wsX0_wallsBeyond wsX0_low := goodIn_r _ [26, 6, 7, 8, 9, 10, 27, 28, 29, 4, 30, 31, 36, 37, 38] (by decide +kernel) (by decide +kernel)
set_option maxRecDepth 20000 in
theorem gX0_wallsBeyond_X0_low : GoodIn wsX0_wallsBeyond (wsV RX0 37 RX0 yX0_low wsX0_low) := goodIn_app (goodIn_of _ (by decide +kernel)) ggX0_wallsBeyond_X0_low
set_option maxRecDepth 20000 in
theorem ggX0_wallsBeyond_X0_high : GoodIn wsX0_wallsBeyond wsX0_high := goodIn_r _ [35, 6, 20, 21, 9, 22, 27, 28, 29, 4, 30, 31, 36, 37, 38] (by decide +kernel) (by decide +kernel)
set_option maxRecDepth 20000 in
theorem gX0_wallsBeyond_X0_high : GoodIn wsX0_wallsBeyond (wsV RX0 40 RX0 yX0_high wsX0_high) := goodIn_app (goodIn_of _ (by decide +kernel)) ggX0_wallsBeyond_X0_high
theorem dX0_wallsBeyond_0 : decode cX0_wallsBeyond 0 = .ok (.aload_n 0, 1) := by decide +kernel
theorem dX0_wallsBeyond_1 : decode cX0_wallsBeyond 1 = .ok (.invokevirtual 33, 3) := by decide +kernel
theorem dX0_wallsBeyond_4 : decode cX0_wallsBeyond 4 = .ok (.ifCond .ge 7, 3) := by decide +kernel
theorem dX0_wallsBeyond_7 : decode cX0_wallsBeyond 7 = .ok (.iconst 1, 1) := by decide +kernel
theorem dX0_wallsBeyond_8 : decode cX0_wallsBeyond 8 = .ok (.goto 4, 3) := by decide +kernel
theorem dX0_wallsBeyond_11 : decode cX0_wallsBeyond 11 = .ok (.iconst 0, 1) := by decide +kernel
theorem dX0_wallsBeyond_12 : decode cX0_wallsBeyond 12 = .ok (.istore_n 3, 1) := by decide +kernel
theorem dX0_wallsBeyond_13 : decode cX0_wallsBeyond 13 = .ok (.iload_n 3, 1) := by decide +kernel
theorem dX0_wallsBeyond_14 : decode cX0_wallsBeyond 14 = .ok (.aload_n 0, 1) := by decide +kernel
theorem dX0_wallsBeyond_15 : decode cX0_wallsBeyond 15 = .ok (.invokevirtual 55, 3) := by decide +kernel
theorem dX0_wallsBeyond_18 : decode cX0_wallsBeyond 18 = .ok (.iload_n 1, 1) := by decide +kernel
theorem dX0_wallsBeyond_19 : decode cX0_wallsBeyond 19 = .ok (.if_icmp .le 7, 3) := by decide +kernel
theorem dX0_wallsBeyond_22 : decode cX0_wallsBeyond 22 = .ok (.iconst 2, 1) := by decide +kernel
theorem dX0_wallsBeyond_23 : decode cX0_wallsBeyond 23 = .ok (.goto 4, 3) := by decide +kernel
theorem dX0_wallsBeyond_26 : decode cX0_wallsBeyond 26 = .ok (.iconst 0, 1) := by decide +kernel
theorem dX0_wallsBeyond_27 : decode cX0_wallsBeyond 27 = .ok (.ior, 1) := by decide +kernel
theorem dX0_wallsBeyond_28 : decode cX0_wallsBeyond 28 = .ok (.istore_n 3, 1) := by decide +kernel
theorem dX0_wallsBeyond_29 : decode cX0_wallsBeyond 29 = .ok (.iload_n 3, 1) := by decide +kernel
theorem dX0_wallsBeyond_30 : decode cX0_wallsBeyond 30 = .ok (.aload_n 0, 1) := by decide +kernel
theorem dX0_wallsBeyond_31 : decode cX0_wallsBeyond 31 = .ok (.invokevirtual 37, 3) := by decide +kernel
theorem dX0_wallsBeyond_34 : decode cX0_wallsBeyond 34 = .ok (.ifCond .ge 7, 3) := by decide +kernel
theorem dX0_wallsBeyond_37 : decode cX0_wallsBeyond 37 = .ok (.iconst 4, 1) := by decide +kernel
theorem dX0_wallsBeyond_38 : decode cX0_wallsBeyond 38 = .ok (.goto 4, 3) := by decide +kernel
theorem dX0_wallsBeyond_41 : decode cX0_wallsBeyond 41 = .ok (.iconst 0, 1) := by decide +kernel
theorem dX0_wallsBeyond_42 : decode cX0_wallsBeyond 42 = .ok (.ior, 1) := by decide +kernel
theorem dX0_wallsBeyond_43 : decode cX0_wallsBeyond 43 = .ok (.istore_n 3, 1) := by decide +kernel
theorem dX0_wallsBeyond_44 : decode cX0_wallsBeyond 44 = .ok (.iload_n 3, 1) := by decide +kernel
theorem dX0_wallsBeyond_45 : decode cX0_wallsBeyond 45 = .ok (.aload_n 0, 1) := by decide +kernel
theorem dX0_wallsBeyond_46 : decode cX0_wallsBeyond 46 = .ok (.invokevirtual 40, 3) := by decide +kernel
theorem dX0_wallsBeyond_49 : decode cX0_wallsBeyond 49 = .ok (.iload_n 2, 1) := by decide +kernel
theorem dX0_wallsBeyond_50 : decode cX0_wallsBeyond 50 = .ok (.if_icmp .le 8, 3) := by decide +kernel
theorem dX0_wallsBeyond_53 : decode cX0_wallsBeyond 53 = .ok (.bipush 8, 2) := by decide +kernel
theorem dX0_wallsBeyond_55 : decode cX0_wallsBeyond 55 = .ok (.goto 4, 3) := by decide +kernel
theorem dX0_wallsBeyond_58 : decode cX0_wallsBeyond 58 = .ok (.iconst 0, 1) := by decide +kernel
theorem dX0_wallsBeyond_59 : decode cX0_wallsBeyond 59 = .ok (.ior, 1) := by decide +kernel
theorem dX0_wallsBeyond_60 : decode cX0_wallsBeyond 60 = .ok (.istore_n 3, 1) := by decide +kernel
theorem dX0_wallsBeyond_61 : decode cX0_wallsBeyond 61 = .ok (.iload_n 3, 1) := by decide +kernel
theorem dX0_wallsBeyond_62 : decode cX0_wallsBeyond 62 = .ok (.ireturn, 1) := by decide +kernel
set_option maxRecDepth 20000 in
theorem ggX0_reach_X0_following : GoodIn wsX0_reach wsX0_following := goodIn_r _ [11, 2, 25, 26, 27] (by decide +kernel) (by decide +kernel)
set_option maxRecDepth 20000 in
theorem gX0_reach_X0_following : GoodIn wsX0_reach (wsV RX0 52 RX0 yX0_following wsX0_following) := goodIn_app (goodIn_of _ (by decide +kernel)) ggX0_reach_X0_following
set_option maxRecDepth 20000 in
theorem ggX0_reach_X0_x : GoodIn wsX0_reach wsX0_x := goodIn_r _ [15, 16, 25, 26, 27] (by decide +kernel) (by decide +kernel)
set_option maxRecDepth 20000 in
theorem gX0_reach_X0_x : GoodIn wsX0_reach (wsV RX0 26 RX0 yX0_x wsX0_x) := goodIn_app (goodIn_of _ (by decide +kernel)) ggX0_reach_X0_x
set_option maxRecDepth 20000 in
theorem ggX0_reach_X0_y : GoodIn wsX0_reach wsX0_y := goodIn_r _ [20, 21, 25, 26, 27] (by decide +kernel) (by decide +kernel)
set_option maxRecDepth 20000 in
theorem gX0_reach_X0_y : GoodIn wsX0_reach (wsV RX0 30 RX0 yX0_y wsX0_y) := goodIn_app (goodIn_of _ (by decide +kernel)) ggX0_reach_X0_y
set_option maxRecDepth 20000 in
theorem ggX0_reach_X4_cross : GoodIn wsX0_reach wsX4_cross := goodIn_r _ [24] (by decide +kernel) (by decide +kernel)
set_option maxRecDepth 20000 in
theorem gX0_reach_X4_cross_n59 : GoodIn wsX0_reach (wsX4_cross) := ggX0_reach_X4_cross
theorem dX0_reach_0 : decode cX0_reach 0 = .ok (.aload_n 0, 1) := by decide +kernel
theorem dX0_reach_1 : decode cX0_reach 1 = .ok (.iload_n 1, 1) := by decide +kernel
theorem dX0_reach_2 : decode cX0_reach 2 = .ok (.invokevirtual 52, 3) := by decide +kernel
theorem dX0_reach_5 : decode cX0_reach 5 = .ok (.istore_n 3, 1) := by decide +kernel
theorem dX0_reach_6 : decode cX0_reach 6 = .ok (.aload_n 0, 1) := by decide +kernel
theorem dX0_reach_7 : decode cX0_reach 7 = .ok (.iload_n 1, 1) := by decide +kernel
theorem dX0_reach_8 : decode cX0_reach 8 = .ok (.invokevirtual 26, 3) := by decide +kernel
theorem dX0_reach_11 : decode cX0_reach 11 = .ok (.istore 4, 2) := by decide +kernel
theorem dX0_reach_13 : decode cX0_reach 13 = .ok (.aload_n 0, 1) := by decide +kernel
theorem dX0_reach_14 : decode cX0_reach 14 = .ok (.iload_n 1, 1) := by decide +kernel
theorem dX0_reach_15 : decode cX0_reach 15 = .ok (.invokevirtual 30, 3) := by decide +kernel
theorem dX0_reach_18 : decode cX0_reach 18 = .ok (.istore 5, 2) := by decide +kernel
theorem dX0_reach_20 : decode cX0_reach 20 = .ok (.aload_n 0, 1) := by decide +kernel
theorem dX0_reach_21 : decode cX0_reach 21 = .ok (.iload_n 3, 1) := by decide +kernel
theorem dX0_reach_22 : decode cX0_reach 22 = .ok (.invokevirtual 26, 3) := by decide +kernel
theorem dX0_reach_25 : decode cX0_reach 25 = .ok (.istore 6, 2) := by decide +kernel
theorem dX0_reach_27 : decode cX0_reach 27 = .ok (.aload_n 0, 1) := by decide +kernel
theorem dX0_reach_28 : decode cX0_reach 28 = .ok (.iload_n 3, 1) := by decide +kernel
theorem dX0_reach_29 : decode cX0_reach 29 = .ok (.invokevirtual 30, 3) := by decide +kernel
theorem dX0_reach_32 : decode cX0_reach 32 = .ok (.istore 7, 2) := by decide +kernel
theorem dX0_reach_34 : decode cX0_reach 34 = .ok (.ldc 58, 2) := by decide +kernel
theorem dX0_reach_36 : decode cX0_reach 36 = .ok (.istore 8, 2) := by decide +kernel
theorem dX0_reach_38 : decode cX0_reach 38 = .ok (.iconst 0, 1) := by decide +kernel
theorem dX0_reach_39 : decode cX0_reach 39 = .ok (.istore 9, 2) := by decide +kernel
theorem dX0_reach_41 : decode cX0_reach 41 = .ok (.iload 9, 2) := by decide +kernel
theorem dX0_reach_43 : decode cX0_reach 43 = .ok (.aload_n 2, 1) := by decide +kernel
theorem dX0_reach_44 : decode cX0_reach 44 = .ok (.getfield 18, 3) := by decide +kernel
theorem dX0_reach_47 : decode cX0_reach 47 = .ok (.if_icmp .ge 39, 3) := by decide +kernel
theorem dX0_reach_50 : decode cX0_reach 50 = .ok (.iload 8, 2) := by decide +kernel
theorem dX0_reach_52 : decode cX0_reach 52 = .ok (.iload 4, 2) := by decide +kernel
theorem dX0_reach_54 : decode cX0_reach 54 = .ok (.iload 5, 2) := by decide +kernel
theorem dX0_reach_56 : decode cX0_reach 56 = .ok (.iload 6, 2) := by decide +kernel
theorem dX0_reach_58 : decode cX0_reach 58 = .ok (.iload 7, 2) := by decide +kernel
theorem dX0_reach_60 : decode cX0_reach 60 = .ok (.aload_n 2, 1) := by decide +kernel
theorem dX0_reach_61 : decode cX0_reach 61 = .ok (.iload 9, 2) := by decide +kernel
theorem dX0_reach_63 : decode cX0_reach 63 = .ok (.invokevirtual 26, 3) := by decide +kernel
theorem dX0_reach_66 : decode cX0_reach 66 = .ok (.aload_n 2, 1) := by decide +kernel
theorem dX0_reach_67 : decode cX0_reach 67 = .ok (.iload 9, 2) := by decide +kernel
theorem dX0_reach_69 : decode cX0_reach 69 = .ok (.invokevirtual 30, 3) := by decide +kernel
theorem dX0_reach_72 : decode cX0_reach 72 = .ok (.invokestatic 59, 3) := by decide +kernel
theorem dX0_reach_75 : decode cX0_reach 75 = .ok (.invokestatic 49, 3) := by decide +kernel
theorem dX0_reach_78 : decode cX0_reach 78 = .ok (.istore 8, 2) := by decide +kernel
theorem dX0_reach_80 : decode cX0_reach 80 = .ok (.iinc 9 1, 3) := by decide +kernel
theorem dX0_reach_83 : decode cX0_reach 83 = .ok (.goto (-42), 3) := by decide +kernel
theorem dX0_reach_86 : decode cX0_reach 86 = .ok (.iload 8, 2) := by decide +kernel
theorem dX0_reach_88 : decode cX0_reach 88 = .ok (.ireturn, 1) := by decide +kernel
set_option maxRecDepth 20000 in
theorem ggX0_leastReach_X0_reach : GoodIn wsX0_leastReach wsX0_reach := goodIn_r _ [10, 11, 1, 12, 13, 4, 14, 15, 16, 17, 9, 18, 19, 20, 21, 22, 23, 24, 25, 26, 27, 28, 29, 30, 31, 32, 33, 34] (by decide +kernel) (by decide +kernel)
set_option maxRecDepth 20000 in
theorem gX0_leastReach_X0_reach : GoodIn wsX0_leastReach (wsV RX0 63 RX0 yX0_reach wsX0_reach) := goodIn_app (goodIn_of _ (by decide +kernel)) ggX0_leastReach_X0_reach
theorem dX0_leastReach_0 : decode cX0_leastReach 0 = .ok (.iconst 1, 1) := by decide +kernel
theorem dX0_leastReach_1 : decode cX0_leastReach 1 = .ok (.istore_n 2, 1) := by decide +kernel
theorem dX0_leastReach_2 : decode cX0_leastReach 2 = .ok (.iconst 0, 1) := by decide +kernel
theorem dX0_leastReach_3 : decode cX0_leastReach 3 = .ok (.istore_n 3, 1) := by decide +kernel
theorem dX0_leastReach_4 : decode cX0_leastReach 4 = .ok (.iload_n 3, 1) := by decide +kernel
theorem dX0_leastReach_5 : decode cX0_leastReach 5 = .ok (.aload_n 0, 1) := by decide +kernel
theorem dX0_leastReach_6 : decode cX0_leastReach 6 = .ok (.getfield 18, 3) := by decide +kernel
theorem dX0_leastReach_9 : decode cX0_leastReach 9 = .ok (.if_icmp .ge 24, 3) := by decide +kernel
theorem dX0_leastReach_12 : decode cX0_leastReach 12 = .ok (.iload_n 2, 1) := by decide +kernel
theorem dX0_leastReach_13 : decode cX0_leastReach 13 = .ok (.ifCond .lt 20, 3) := by decide +kernel
theorem dX0_leastReach_16 : decode cX0_leastReach 16 = .ok (.iload_n 2, 1) := by decide +kernel
theorem dX0_leastReach_17 : decode cX0_leastReach 17 = .ok (.aload_n 0, 1) := by decide +kernel
theorem dX0_leastReach_18 : decode cX0_leastReach 18 = .ok (.iload_n 3, 1) := by decide +kernel
theorem dX0_leastReach_19 : decode cX0_leastReach 19 = .ok (.aload_n 1, 1) := by decide +kernel
theorem dX0_leastReach_20 : decode cX0_leastReach 20 = .ok (.invokevirtual 63, 3) := by decide +kernel
theorem dX0_leastReach_23 : decode cX0_leastReach 23 = .ok (.invokestatic 43, 3) := by decide +kernel
theorem dX0_leastReach_26 : decode cX0_leastReach 26 = .ok (.istore_n 2, 1) := by decide +kernel
theorem dX0_leastReach_27 : decode cX0_leastReach 27 = .ok (.iinc 3 1, 3) := by decide +kernel
theorem dX0_leastReach_30 : decode cX0_leastReach 30 = .ok (.goto (-26), 3) := by decide +kernel
theorem dX0_leastReach_33 : decode cX0_leastReach 33 = .ok (.iload_n 2, 1) := by decide +kernel
theorem dX0_leastReach_34 : decode cX0_leastReach 34 = .ok (.ireturn, 1) := by decide +kernel
set_option maxRecDepth 20000 in
theorem ggX0_partingSide_X0_reach : GoodIn wsX0_partingSide wsX0_reach := goodIn_r _ [6, 7, 1, 8, 9, 10, 11, 12, 13, 14, 5, 15, 16, 17, 18, 19, 20, 21, 22, 23, 24, 25, 26, 27, 28, 29, 30, 31] (by decide +kernel) (by decide +kernel)
set_option maxRecDepth 20000 in
theorem gX0_partingSide_X0_reach : GoodIn wsX0_partingSide (wsV RX0 63 RX0 yX0_reach wsX0_reach) := goodIn_app (goodIn_of _ (by decide +kernel)) ggX0_partingSide_X0_reach
theorem dX0_partingSide_0 : decode cX0_partingSide 0 = .ok (.iconst 0, 1) := by decide +kernel
theorem dX0_partingSide_1 : decode cX0_partingSide 1 = .ok (.istore_n 2, 1) := by decide +kernel
theorem dX0_partingSide_2 : decode cX0_partingSide 2 = .ok (.iload_n 2, 1) := by decide +kernel
theorem dX0_partingSide_3 : decode cX0_partingSide 3 = .ok (.aload_n 0, 1) := by decide +kernel
theorem dX0_partingSide_4 : decode cX0_partingSide 4 = .ok (.getfield 18, 3) := by decide +kernel
theorem dX0_partingSide_7 : decode cX0_partingSide 7 = .ok (.if_icmp .ge 20, 3) := by decide +kernel
theorem dX0_partingSide_10 : decode cX0_partingSide 10 = .ok (.aload_n 0, 1) := by decide +kernel
theorem dX0_partingSide_11 : decode cX0_partingSide 11 = .ok (.iload_n 2, 1) := by decide +kernel
theorem dX0_partingSide_12 : decode cX0_partingSide 12 = .ok (.aload_n 1, 1) := by decide +kernel
theorem dX0_partingSide_13 : decode cX0_partingSide 13 = .ok (.invokevirtual 63, 3) := by decide +kernel
theorem dX0_partingSide_16 : decode cX0_partingSide 16 = .ok (.ifCond .gt 5, 3) := by decide +kernel
theorem dX0_partingSide_19 : decode cX0_partingSide 19 = .ok (.iload_n 2, 1) := by decide +kernel
theorem dX0_partingSide_20 : decode cX0_partingSide 20 = .ok (.ireturn, 1) := by decide +kernel
theorem dX0_partingSide_21 : decode cX0_partingSide 21 = .ok (.iinc 2 1, 3) := by decide +kernel
theorem dX0_partingSide_24 : decode cX0_partingSide 24 = .ok (.goto (-22), 3) := by decide +kernel
theorem dX0_partingSide_27 : decode cX0_partingSide 27 = .ok (.iconst (-1), 1) := by decide +kernel
theorem dX0_partingSide_28 : decode cX0_partingSide 28 = .ok (.ireturn, 1) := by decide +kernel
set_option maxRecDepth 20000 in
theorem ggX0_nearestCorner_X0_following : GoodIn wsX0_nearestCorner wsX0_following := goodIn_r _ [6, 1, 29, 30, 31] (by decide +kernel) (by decide +kernel)
set_option maxRecDepth 20000 in
theorem gX0_nearestCorner_X0_following : GoodIn wsX0_nearestCorner (wsV RX0 52 RX0 yX0_following wsX0_following) := goodIn_app (goodIn_of _ (by decide +kernel)) ggX0_nearestCorner_X0_following
set_option maxRecDepth 20000 in
theorem ggX0_nearestCorner_X0_reach : GoodIn wsX0_nearestCorner wsX0_reach := goodIn_r _ [10, 11, 1, 12, 13, 14, 15, 2, 3, 4, 5, 6, 16, 17, 18, 19, 20, 21, 22, 23, 24, 25, 26, 27, 28, 29, 30, 31] (by decide +kernel) (by decide +kernel)
set_option maxRecDepth 20000 in
theorem gX0_nearestCorner_X0_reach : GoodIn wsX0_nearestCorner (wsV RX0 63 RX0 yX0_reach wsX0_reach) := goodIn_app (goodIn_of _ (by decide +kernel)) ggX0_nearestCorner_X0_reach
set_option maxRecDepth 20000 in
theorem ggX0_nearestCorner_X0_x : GoodIn wsX0_nearestCorner wsX0_x := goodIn_r _ [19, 20, 29, 30, 31] (by decide +kernel) (by decide +kernel)
set_option maxRecDepth 20000 in
theorem gX0_nearestCorner_X0_x : GoodIn wsX0_nearestCorner (wsV RX0 26 RX0 yX0_x wsX0_x) := goodIn_app (goodIn_of _ (by decide +kernel)) ggX0_nearestCorner_X0_x
set_option maxRecDepth 20000 in
theorem ggX0_nearestCorner_X0_y : GoodIn wsX0_nearestCorner wsX0_y := goodIn_r _ [24, 25, 29, 30, 31] (by decide +kernel) (by decide +kernel)
set_option maxRecDepth 20000 in
theorem gX0_nearestCorner_X0_y : GoodIn wsX0_nearestCorner (wsV RX0 30 RX0 yX0_y wsX0_y) := goodIn_app (goodIn_of _ (by decide +kernel)) ggX0_nearestCorner_X0_y
set_option maxRecDepth 20000 in
theorem ggX0_nearestCorner_X4_cross : GoodIn wsX0_nearestCorner wsX4_cross := goodIn_r _ [28] (by decide +kernel) (by decide +kernel)
set_option maxRecDepth 20000 in
theorem gX0_nearestCorner_X4_cross_n59 : GoodIn wsX0_nearestCorner (wsX4_cross) := ggX0_nearestCorner_X4_cross
theorem dX0_nearestCorner_0 : decode cX0_nearestCorner 0 = .ok (.aload_n 0, 1) := by decide +kernel
theorem dX0_nearestCorner_1 : decode cX0_nearestCorner 1 = .ok (.iload_n 1, 1) := by decide +kernel
theorem dX0_nearestCorner_2 : decode cX0_nearestCorner 2 = .ok (.invokevirtual 52, 3) := by decide +kernel
theorem dX0_nearestCorner_5 : decode cX0_nearestCorner 5 = .ok (.istore_n 3, 1) := by decide +kernel
theorem dX0_nearestCorner_6 : decode cX0_nearestCorner 6 = .ok (.aload_n 0, 1) := by decide +kernel
theorem dX0_nearestCorner_7 : decode cX0_nearestCorner 7 = .ok (.iload_n 1, 1) := by decide +kernel
theorem dX0_nearestCorner_8 : decode cX0_nearestCorner 8 = .ok (.aload_n 2, 1) := by decide +kernel
theorem dX0_nearestCorner_9 : decode cX0_nearestCorner 9 = .ok (.invokevirtual 63, 3) := by decide +kernel
theorem dX0_nearestCorner_12 : decode cX0_nearestCorner 12 = .ok (.istore 4, 2) := by decide +kernel
theorem dX0_nearestCorner_14 : decode cX0_nearestCorner 14 = .ok (.iconst 0, 1) := by decide +kernel
theorem dX0_nearestCorner_15 : decode cX0_nearestCorner 15 = .ok (.istore 5, 2) := by decide +kernel
theorem dX0_nearestCorner_17 : decode cX0_nearestCorner 17 = .ok (.iload 5, 2) := by decide +kernel
theorem dX0_nearestCorner_19 : decode cX0_nearestCorner 19 = .ok (.aload_n 2, 1) := by decide +kernel
theorem dX0_nearestCorner_20 : decode cX0_nearestCorner 20 = .ok (.getfield 18, 3) := by decide +kernel
theorem dX0_nearestCorner_23 : decode cX0_nearestCorner 23 = .ok (.if_icmp .ge 52, 3) := by decide +kernel
theorem dX0_nearestCorner_26 : decode cX0_nearestCorner 26 = .ok (.aload_n 0, 1) := by decide +kernel
theorem dX0_nearestCorner_27 : decode cX0_nearestCorner 27 = .ok (.iload_n 1, 1) := by decide +kernel
theorem dX0_nearestCorner_28 : decode cX0_nearestCorner 28 = .ok (.invokevirtual 26, 3) := by decide +kernel
theorem dX0_nearestCorner_31 : decode cX0_nearestCorner 31 = .ok (.aload_n 0, 1) := by decide +kernel
theorem dX0_nearestCorner_32 : decode cX0_nearestCorner 32 = .ok (.iload_n 1, 1) := by decide +kernel
theorem dX0_nearestCorner_33 : decode cX0_nearestCorner 33 = .ok (.invokevirtual 30, 3) := by decide +kernel
theorem dX0_nearestCorner_36 : decode cX0_nearestCorner 36 = .ok (.aload_n 0, 1) := by decide +kernel
theorem dX0_nearestCorner_37 : decode cX0_nearestCorner 37 = .ok (.iload_n 3, 1) := by decide +kernel
theorem dX0_nearestCorner_38 : decode cX0_nearestCorner 38 = .ok (.invokevirtual 26, 3) := by decide +kernel
theorem dX0_nearestCorner_41 : decode cX0_nearestCorner 41 = .ok (.aload_n 0, 1) := by decide +kernel
theorem dX0_nearestCorner_42 : decode cX0_nearestCorner 42 = .ok (.iload_n 3, 1) := by decide +kernel
theorem dX0_nearestCorner_43 : decode cX0_nearestCorner 43 = .ok (.invokevirtual 30, 3) := by decide +kernel
theorem dX0_nearestCorner_46 : decode cX0_nearestCorner 46 = .ok (.aload_n 2, 1) := by decide +kernel
theorem dX0_nearestCorner_47 : decode cX0_nearestCorner 47 = .ok (.iload 5, 2) := by decide +kernel
theorem dX0_nearestCorner_49 : decode cX0_nearestCorner 49 = .ok (.invokevirtual 26, 3) := by decide +kernel
theorem dX0_nearestCorner_52 : decode cX0_nearestCorner 52 = .ok (.aload_n 2, 1) := by decide +kernel
theorem dX0_nearestCorner_53 : decode cX0_nearestCorner 53 = .ok (.iload 5, 2) := by decide +kernel
theorem dX0_nearestCorner_55 : decode cX0_nearestCorner 55 = .ok (.invokevirtual 30, 3) := by decide +kernel
theorem dX0_nearestCorner_58 : decode cX0_nearestCorner 58 = .ok (.invokestatic 59, 3) := by decide +kernel
theorem dX0_nearestCorner_61 : decode cX0_nearestCorner 61 = .ok (.iload 4, 2) := by decide +kernel
theorem dX0_nearestCorner_63 : decode cX0_nearestCorner 63 = .ok (.if_icmp .ne 6, 3) := by decide +kernel
theorem dX0_nearestCorner_66 : decode cX0_nearestCorner 66 = .ok (.iload 5, 2) := by decide +kernel
theorem dX0_nearestCorner_68 : decode cX0_nearestCorner 68 = .ok (.ireturn, 1) := by decide +kernel
theorem dX0_nearestCorner_69 : decode cX0_nearestCorner 69 = .ok (.iinc 5 1, 3) := by decide +kernel
theorem dX0_nearestCorner_72 : decode cX0_nearestCorner 72 = .ok (.goto (-55), 3) := by decide +kernel
theorem dX0_nearestCorner_75 : decode cX0_nearestCorner 75 = .ok (.iconst 0, 1) := by decide +kernel
theorem dX0_nearestCorner_76 : decode cX0_nearestCorner 76 = .ok (.ireturn, 1) := by decide +kernel
set_option maxRecDepth 20000 in
theorem ggX0_cornerOutside_X0_x : GoodIn wsX0_cornerOutside wsX0_x := goodIn_r _ [6, 7, 13, 14, 15] (by decide +kernel) (by decide +kernel)
set_option maxRecDepth 20000 in
theorem gX0_cornerOutside_X0_x : GoodIn wsX0_cornerOutside (wsV RX0 26 RX0 yX0_x wsX0_x) := goodIn_app (goodIn_of _ (by decide +kernel)) ggX0_cornerOutside_X0_x
set_option maxRecDepth 20000 in
theorem ggX0_cornerOutside_X0_y : GoodIn wsX0_cornerOutside wsX0_y := goodIn_r _ [11, 12, 13, 14, 15] (by decide +kernel) (by decide +kernel)
set_option maxRecDepth 20000 in
theorem gX0_cornerOutside_X0_y : GoodIn wsX0_cornerOutside (wsV RX0 30 RX0 yX0_y wsX0_y) := goodIn_app (goodIn_of _ (by decide +kernel)) ggX0_cornerOutside_X0_y
theorem dX0_cornerOutside_0 : decode cX0_cornerOutside 0 = .ok (.iconst 0, 1) := by decide +kernel
theorem dX0_cornerOutside_1 : decode cX0_cornerOutside 1 = .ok (.istore_n 3, 1) := by decide +kernel
theorem dX0_cornerOutside_2 : decode cX0_cornerOutside 2 = .ok (.iload_n 3, 1) := by decide +kernel
theorem dX0_cornerOutside_3 : decode cX0_cornerOutside 3 = .ok (.aload_n 0, 1) := by decide +kernel
theorem dX0_cornerOutside_4 : decode cX0_cornerOutside 4 = .ok (.getfield 18, 3) := by decide +kernel
theorem dX0_cornerOutside_7 : decode cX0_cornerOutside 7 = .ok (.if_icmp .ge 29, 3) := by decide +kernel
theorem dX0_cornerOutside_10 : decode cX0_cornerOutside 10 = .ok (.aload_n 0, 1) := by decide +kernel
theorem dX0_cornerOutside_11 : decode cX0_cornerOutside 11 = .ok (.iload_n 3, 1) := by decide +kernel
theorem dX0_cornerOutside_12 : decode cX0_cornerOutside 12 = .ok (.invokevirtual 26, 3) := by decide +kernel
theorem dX0_cornerOutside_15 : decode cX0_cornerOutside 15 = .ok (.iload_n 1, 1) := by decide +kernel
theorem dX0_cornerOutside_16 : decode cX0_cornerOutside 16 = .ok (.if_icmp .gt 12, 3) := by decide +kernel
theorem dX0_cornerOutside_19 : decode cX0_cornerOutside 19 = .ok (.aload_n 0, 1) := by decide +kernel
theorem dX0_cornerOutside_20 : decode cX0_cornerOutside 20 = .ok (.iload_n 3, 1) := by decide +kernel
theorem dX0_cornerOutside_21 : decode cX0_cornerOutside 21 = .ok (.invokevirtual 30, 3) := by decide +kernel
theorem dX0_cornerOutside_24 : decode cX0_cornerOutside 24 = .ok (.iload_n 2, 1) := by decide +kernel
theorem dX0_cornerOutside_25 : decode cX0_cornerOutside 25 = .ok (.if_icmp .le 5, 3) := by decide +kernel
theorem dX0_cornerOutside_28 : decode cX0_cornerOutside 28 = .ok (.iload_n 3, 1) := by decide +kernel
theorem dX0_cornerOutside_29 : decode cX0_cornerOutside 29 = .ok (.ireturn, 1) := by decide +kernel
theorem dX0_cornerOutside_30 : decode cX0_cornerOutside 30 = .ok (.iinc 3 1, 3) := by decide +kernel
theorem dX0_cornerOutside_33 : decode cX0_cornerOutside 33 = .ok (.goto (-31), 3) := by decide +kernel
theorem dX0_cornerOutside_36 : decode cX0_cornerOutside 36 = .ok (.iconst (-1), 1) := by decide +kernel
theorem dX0_cornerOutside_37 : decode cX0_cornerOutside 37 = .ok (.ireturn, 1) := by decide +kernel
set_option maxRecDepth 20000 in
theorem ggX0_causeOfShape_X0_following : GoodIn wsX0_causeOfShape wsX0_following := goodIn_r _ [6, 1, 28, 29, 30] (by decide +kernel) (by decide +kernel)
set_option maxRecDepth 20000 in
theorem gX0_causeOfShape_X0_following : GoodIn wsX0_causeOfShape (wsV RX0 52 RX0 yX0_following wsX0_following) := goodIn_app (goodIn_of _ (by decide +kernel)) ggX0_causeOfShape_X0_following
set_option maxRecDepth 20000 in
theorem ggX0_causeOfShape_X0_x : GoodIn wsX0_causeOfShape wsX0_x := goodIn_r _ [10, 11, 28, 29, 30] (by decide +kernel) (by decide +kernel)
set_option maxRecDepth 20000 in
theorem gX0_causeOfShape_X0_x : GoodIn wsX0_causeOfShape (wsV RX0 26 RX0 yX0_x wsX0_x) := goodIn_app (goodIn_of _ (by decide +kernel)) ggX0_causeOfShape_X0_x
set_option maxRecDepth 20000 in
theorem ggX0_causeOfShape_X0_y : GoodIn wsX0_causeOfShape wsX0_y := goodIn_r _ [15, 16, 28, 29, 30] (by decide +kernel) (by decide +kernel)
set_option maxRecDepth 20000 in
theorem gX0_causeOfShape_X0_y : GoodIn wsX0_causeOfShape (wsV RX0 30 RX0 yX0_y wsX0_y) := goodIn_app (goodIn_of _ (by decide +kernel)) ggX0_causeOfShape_X0_y
set_option maxRecDepth 20000 in
theorem ggX0_causeOfShape_X4_cross : GoodIn wsX0_causeOfShape wsX4_cross := goodIn_r _ [19] (by decide +kernel) (by decide +kernel)
set_option maxRecDepth 20000 in
theorem gX0_causeOfShape_X4_cross_n59 : GoodIn wsX0_causeOfShape (wsX4_cross) := ggX0_causeOfShape_X4_cross
set_option maxRecDepth 20000 in
theorem ggX0_causeOfShape_X0_timesRound : GoodIn wsX0_causeOfShape wsX0_timesRound := goodIn_r _ [23, 1, 24, 25, 26, 5, 27, 2, 3, 4, 6, 12, 13, 14, 15, 16, 7, 8, 9, 10, 11, 28, 29, 30] (by decide +kernel) (by decide +kernel)
set_option maxRecDepth 20000 in
theorem gX0_causeOfShape_X0_timesRound : GoodIn wsX0_causeOfShape (wsV RX0 67 RX0 yX0_timesRound wsX0_timesRound) := goodIn_app (goodIn_of _ (by decide +kernel)) ggX0_causeOfShape_X0_timesRound
theorem dX0_causeOfShape_0 : decode cX0_causeOfShape 0 = .ok (.iconst 0, 1) := by decide +kernel
theorem dX0_causeOfShape_1 : decode cX0_causeOfShape 1 = .ok (.istore_n 1, 1) := by decide +kernel
theorem dX0_causeOfShape_2 : decode cX0_causeOfShape 2 = .ok (.iload_n 1, 1) := by decide +kernel
theorem dX0_causeOfShape_3 : decode cX0_causeOfShape 3 = .ok (.aload_n 0, 1) := by decide +kernel
theorem dX0_causeOfShape_4 : decode cX0_causeOfShape 4 = .ok (.getfield 18, 3) := by decide +kernel
end
section
theorem dX0_causeOfShape_7 : decode cX0_causeOfShape 7 = .ok (.if_icmp .ge 70, 3) := by decide +kernel
theorem dX0_causeOfShape_10 : decode cX0_causeOfShape 10 = .ok (.iload_n 1, 1) := by decide +kernel
theorem dX0_causeOfShape_11 : decode cX0_causeOfShape 11 = .ok (.ifCond .le 9, 3) := by decide +kernel
theorem dX0_causeOfShape_14 : decode cX0_causeOfShape 14 = .ok (.iload_n 1, 1) := by decide +kernel
theorem dX0_causeOfShape_15 : decode cX0_causeOfShape 15 = .ok (.iconst 1, 1) := by decide +kernel
theorem dX0_causeOfShape_16 : decode cX0_causeOfShape 16 = .ok (.isub, 1) := by decide +kernel
theorem dX0_causeOfShape_17 : decode cX0_causeOfShape 17 = .ok (.goto 9, 3) := by decide +kernel
theorem dX0_causeOfShape_20 : decode cX0_causeOfShape 20 = .ok (.aload_n 0, 1) := by decide +kernel
theorem dX0_causeOfShape_21 : decode cX0_causeOfShape 21 = .ok (.getfield 18, 3) := by decide +kernel
theorem dX0_causeOfShape_24 : decode cX0_causeOfShape 24 = .ok (.iconst 1, 1) := by decide +kernel
theorem dX0_causeOfShape_25 : decode cX0_causeOfShape 25 = .ok (.isub, 1) := by decide +kernel
theorem dX0_causeOfShape_26 : decode cX0_causeOfShape 26 = .ok (.istore_n 2, 1) := by decide +kernel
theorem dX0_causeOfShape_27 : decode cX0_causeOfShape 27 = .ok (.aload_n 0, 1) := by decide +kernel
theorem dX0_causeOfShape_28 : decode cX0_causeOfShape 28 = .ok (.iload_n 1, 1) := by decide +kernel
theorem dX0_causeOfShape_29 : decode cX0_causeOfShape 29 = .ok (.invokevirtual 52, 3) := by decide +kernel
theorem dX0_causeOfShape_32 : decode cX0_causeOfShape 32 = .ok (.istore_n 3, 1) := by decide +kernel
theorem dX0_causeOfShape_33 : decode cX0_causeOfShape 33 = .ok (.aload_n 0, 1) := by decide +kernel
theorem dX0_causeOfShape_34 : decode cX0_causeOfShape 34 = .ok (.iload_n 2, 1) := by decide +kernel
theorem dX0_causeOfShape_35 : decode cX0_causeOfShape 35 = .ok (.invokevirtual 26, 3) := by decide +kernel
theorem dX0_causeOfShape_38 : decode cX0_causeOfShape 38 = .ok (.aload_n 0, 1) := by decide +kernel
theorem dX0_causeOfShape_39 : decode cX0_causeOfShape 39 = .ok (.iload_n 2, 1) := by decide +kernel
theorem dX0_causeOfShape_40 : decode cX0_causeOfShape 40 = .ok (.invokevirtual 30, 3) := by decide +kernel
theorem dX0_causeOfShape_43 : decode cX0_causeOfShape 43 = .ok (.aload_n 0, 1) := by decide +kernel
theorem dX0_causeOfShape_44 : decode cX0_causeOfShape 44 = .ok (.iload_n 1, 1) := by decide +kernel
theorem dX0_causeOfShape_45 : decode cX0_causeOfShape 45 = .ok (.invokevirtual 26, 3) := by decide +kernel
theorem dX0_causeOfShape_48 : decode cX0_causeOfShape 48 = .ok (.aload_n 0, 1) := by decide +kernel
theorem dX0_causeOfShape_49 : decode cX0_causeOfShape 49 = .ok (.iload_n 1, 1) := by decide +kernel
theorem dX0_causeOfShape_50 : decode cX0_causeOfShape 50 = .ok (.invokevirtual 30, 3) := by decide +kernel
theorem dX0_causeOfShape_53 : decode cX0_causeOfShape 53 = .ok (.aload_n 0, 1) := by decide +kernel
theorem dX0_causeOfShape_54 : decode cX0_causeOfShape 54 = .ok (.iload_n 3, 1) := by decide +kernel
theorem dX0_causeOfShape_55 : decode cX0_causeOfShape 55 = .ok (.invokevirtual 26, 3) := by decide +kernel
theorem dX0_causeOfShape_58 : decode cX0_causeOfShape 58 = .ok (.aload_n 0, 1) := by decide +kernel
theorem dX0_causeOfShape_59 : decode cX0_causeOfShape 59 = .ok (.iload_n 3, 1) := by decide +kernel
theorem dX0_causeOfShape_60 : decode cX0_causeOfShape 60 = .ok (.invokevirtual 30, 3) := by decide +kernel
theorem dX0_causeOfShape_63 : decode cX0_causeOfShape 63 = .ok (.invokestatic 59, 3) := by decide +kernel
theorem dX0_causeOfShape_66 : decode cX0_causeOfShape 66 = .ok (.ifCond .gt 5, 3) := by decide +kernel
theorem dX0_causeOfShape_69 : decode cX0_causeOfShape 69 = .ok (.iload_n 1, 1) := by decide +kernel
theorem dX0_causeOfShape_70 : decode cX0_causeOfShape 70 = .ok (.ireturn, 1) := by decide +kernel
theorem dX0_causeOfShape_71 : decode cX0_causeOfShape 71 = .ok (.iinc 1 1, 3) := by decide +kernel
theorem dX0_causeOfShape_74 : decode cX0_causeOfShape 74 = .ok (.goto (-72), 3) := by decide +kernel
theorem dX0_causeOfShape_77 : decode cX0_causeOfShape 77 = .ok (.aload_n 0, 1) := by decide +kernel
theorem dX0_causeOfShape_78 : decode cX0_causeOfShape 78 = .ok (.invokevirtual 67, 3) := by decide +kernel
theorem dX0_causeOfShape_81 : decode cX0_causeOfShape 81 = .ok (.iconst 1, 1) := by decide +kernel
theorem dX0_causeOfShape_82 : decode cX0_causeOfShape 82 = .ok (.if_icmp .le 10, 3) := by decide +kernel
theorem dX0_causeOfShape_85 : decode cX0_causeOfShape 85 = .ok (.aload_n 0, 1) := by decide +kernel
theorem dX0_causeOfShape_86 : decode cX0_causeOfShape 86 = .ok (.getfield 18, 3) := by decide +kernel
theorem dX0_causeOfShape_89 : decode cX0_causeOfShape 89 = .ok (.goto 4, 3) := by decide +kernel
theorem dX0_causeOfShape_92 : decode cX0_causeOfShape 92 = .ok (.iconst (-1), 1) := by decide +kernel
theorem dX0_causeOfShape_93 : decode cX0_causeOfShape 93 = .ok (.ireturn, 1) := by decide +kernel
set_option maxRecDepth 20000 in
theorem ggX0_timesRound_X0_pointsUp : GoodIn wsX0_timesRound wsX0_pointsUp := goodIn_r _ [6, 7, 8, 9, 5, 10, 1, 11, 12, 13, 14, 15, 16, 17, 18, 19, 20, 21, 22, 23] (by decide +kernel) (by decide +kernel)
set_option maxRecDepth 20000 in
theorem gX0_timesRound_X0_pointsUp : GoodIn wsX0_timesRound (wsV RX0 70 RX0 yX0_pointsUp wsX0_pointsUp) := goodIn_app (goodIn_of _ (by decide +kernel)) ggX0_timesRound_X0_pointsUp
set_option maxRecDepth 20000 in
theorem ggX0_timesRound_X0_following : GoodIn wsX0_timesRound wsX0_following := goodIn_r _ [10, 1, 21, 22, 23] (by decide +kernel) (by decide +kernel)
set_option maxRecDepth 20000 in
theorem gX0_timesRound_X0_following : GoodIn wsX0_timesRound (wsV RX0 52 RX0 yX0_following wsX0_following) := goodIn_app (goodIn_of _ (by decide +kernel)) ggX0_timesRound_X0_following
theorem dX0_timesRound_0 : decode cX0_timesRound 0 = .ok (.iconst 0, 1) := by decide +kernel
theorem dX0_timesRound_1 : decode cX0_timesRound 1 = .ok (.istore_n 1, 1) := by decide +kernel
theorem dX0_timesRound_2 : decode cX0_timesRound 2 = .ok (.iconst 0, 1) := by decide +kernel
theorem dX0_timesRound_3 : decode cX0_timesRound 3 = .ok (.istore_n 2, 1) := by decide +kernel
theorem dX0_timesRound_4 : decode cX0_timesRound 4 = .ok (.iload_n 2, 1) := by decide +kernel
theorem dX0_timesRound_5 : decode cX0_timesRound 5 = .ok (.aload_n 0, 1) := by decide +kernel
theorem dX0_timesRound_6 : decode cX0_timesRound 6 = .ok (.getfield 18, 3) := by decide +kernel
theorem dX0_timesRound_9 : decode cX0_timesRound 9 = .ok (.if_icmp .ge 32, 3) := by decide +kernel
theorem dX0_timesRound_12 : decode cX0_timesRound 12 = .ok (.aload_n 0, 1) := by decide +kernel
theorem dX0_timesRound_13 : decode cX0_timesRound 13 = .ok (.iload_n 2, 1) := by decide +kernel
theorem dX0_timesRound_14 : decode cX0_timesRound 14 = .ok (.invokevirtual 70, 3) := by decide +kernel
theorem dX0_timesRound_17 : decode cX0_timesRound 17 = .ok (.ifCond .ne 18, 3) := by decide +kernel
theorem dX0_timesRound_20 : decode cX0_timesRound 20 = .ok (.aload_n 0, 1) := by decide +kernel
theorem dX0_timesRound_21 : decode cX0_timesRound 21 = .ok (.aload_n 0, 1) := by decide +kernel
theorem dX0_timesRound_22 : decode cX0_timesRound 22 = .ok (.iload_n 2, 1) := by decide +kernel
theorem dX0_timesRound_23 : decode cX0_timesRound 23 = .ok (.invokevirtual 52, 3) := by decide +kernel
theorem dX0_timesRound_26 : decode cX0_timesRound 26 = .ok (.invokevirtual 70, 3) := by decide +kernel
theorem dX0_timesRound_29 : decode cX0_timesRound 29 = .ok (.ifCond .eq 6, 3) := by decide +kernel
theorem dX0_timesRound_32 : decode cX0_timesRound 32 = .ok (.iinc 1 1, 3) := by decide +kernel
theorem dX0_timesRound_35 : decode cX0_timesRound 35 = .ok (.iinc 2 1, 3) := by decide +kernel
theorem dX0_timesRound_38 : decode cX0_timesRound 38 = .ok (.goto (-34), 3) := by decide +kernel
theorem dX0_timesRound_41 : decode cX0_timesRound 41 = .ok (.iload_n 1, 1) := by decide +kernel
theorem dX0_timesRound_42 : decode cX0_timesRound 42 = .ok (.ireturn, 1) := by decide +kernel
set_option maxRecDepth 20000 in
theorem ggX0_pointsUp_X0_following : GoodIn wsX0_pointsUp wsX0_following := goodIn_r _ [5, 6, 17, 18, 19] (by decide +kernel) (by decide +kernel)
set_option maxRecDepth 20000 in
theorem gX0_pointsUp_X0_following : GoodIn wsX0_pointsUp (wsV RX0 52 RX0 yX0_following wsX0_following) := goodIn_app (goodIn_of _ (by decide +kernel)) ggX0_pointsUp_X0_following
set_option maxRecDepth 20000 in
theorem ggX0_pointsUp_X0_y : GoodIn wsX0_pointsUp wsX0_y := goodIn_r _ [10, 11, 17, 18, 19] (by decide +kernel) (by decide +kernel)
set_option maxRecDepth 20000 in
theorem gX0_pointsUp_X0_y : GoodIn wsX0_pointsUp (wsV RX0 30 RX0 yX0_y wsX0_y) := goodIn_app (goodIn_of _ (by decide +kernel)) ggX0_pointsUp_X0_y
set_option maxRecDepth 20000 in
theorem ggX0_pointsUp_X0_x : GoodIn wsX0_pointsUp wsX0_x := goodIn_r _ [15, 16, 17, 18, 19] (by decide +kernel) (by decide +kernel)
set_option maxRecDepth 20000 in
theorem gX0_pointsUp_X0_x : GoodIn wsX0_pointsUp (wsV RX0 26 RX0 yX0_x wsX0_x) := goodIn_app (goodIn_of _ (by decide +kernel)) ggX0_pointsUp_X0_x
theorem dX0_pointsUp_0 : decode cX0_pointsUp 0 = .ok (.aload_n 0, 1) := by decide +kernel
theorem dX0_pointsUp_1 : decode cX0_pointsUp 1 = .ok (.iload_n 1, 1) := by decide +kernel
theorem dX0_pointsUp_2 : decode cX0_pointsUp 2 = .ok (.invokevirtual 52, 3) := by decide +kernel
theorem dX0_pointsUp_5 : decode cX0_pointsUp 5 = .ok (.istore_n 2, 1) := by decide +kernel
theorem dX0_pointsUp_6 : decode cX0_pointsUp 6 = .ok (.aload_n 0, 1) := by decide +kernel
theorem dX0_pointsUp_7 : decode cX0_pointsUp 7 = .ok (.iload_n 2, 1) := by decide +kernel
theorem dX0_pointsUp_8 : decode cX0_pointsUp 8 = .ok (.invokevirtual 30, 3) := by decide +kernel
theorem dX0_pointsUp_11 : decode cX0_pointsUp 11 = .ok (.aload_n 0, 1) := by decide +kernel
theorem dX0_pointsUp_12 : decode cX0_pointsUp 12 = .ok (.iload_n 1, 1) := by decide +kernel
theorem dX0_pointsUp_13 : decode cX0_pointsUp 13 = .ok (.invokevirtual 30, 3) := by decide +kernel
theorem dX0_pointsUp_16 : decode cX0_pointsUp 16 = .ok (.if_icmp .gt 29, 3) := by decide +kernel
theorem dX0_pointsUp_19 : decode cX0_pointsUp 19 = .ok (.aload_n 0, 1) := by decide +kernel
theorem dX0_pointsUp_20 : decode cX0_pointsUp 20 = .ok (.iload_n 2, 1) := by decide +kernel
theorem dX0_pointsUp_21 : decode cX0_pointsUp 21 = .ok (.invokevirtual 30, 3) := by decide +kernel
theorem dX0_pointsUp_24 : decode cX0_pointsUp 24 = .ok (.aload_n 0, 1) := by decide +kernel
theorem dX0_pointsUp_25 : decode cX0_pointsUp 25 = .ok (.iload_n 1, 1) := by decide +kernel
theorem dX0_pointsUp_26 : decode cX0_pointsUp 26 = .ok (.invokevirtual 30, 3) := by decide +kernel
theorem dX0_pointsUp_29 : decode cX0_pointsUp 29 = .ok (.if_icmp .ne 20, 3) := by decide +kernel
theorem dX0_pointsUp_32 : decode cX0_pointsUp 32 = .ok (.aload_n 0, 1) := by decide +kernel
theorem dX0_pointsUp_33 : decode cX0_pointsUp 33 = .ok (.iload_n 2, 1) := by decide +kernel
theorem dX0_pointsUp_34 : decode cX0_pointsUp 34 = .ok (.invokevirtual 26, 3) := by decide +kernel
theorem dX0_pointsUp_37 : decode cX0_pointsUp 37 = .ok (.aload_n 0, 1) := by decide +kernel
theorem dX0_pointsUp_38 : decode cX0_pointsUp 38 = .ok (.iload_n 1, 1) := by decide +kernel
theorem dX0_pointsUp_39 : decode cX0_pointsUp 39 = .ok (.invokevirtual 26, 3) := by decide +kernel
theorem dX0_pointsUp_42 : decode cX0_pointsUp 42 = .ok (.if_icmp .le 7, 3) := by decide +kernel
theorem dX0_pointsUp_45 : decode cX0_pointsUp 45 = .ok (.iconst 1, 1) := by decide +kernel
theorem dX0_pointsUp_46 : decode cX0_pointsUp 46 = .ok (.goto 4, 3) := by decide +kernel
theorem dX0_pointsUp_49 : decode cX0_pointsUp 49 = .ok (.iconst 0, 1) := by decide +kernel
theorem dX0_pointsUp_50 : decode cX0_pointsUp 50 = .ok (.ireturn, 1) := by decide +kernel
set_option maxRecDepth 20000 in
theorem ggX1_init_X0_init : GoodIn wsX1_init wsX0_init := goodIn_r _ [17, 18, 2, 3, 19, 20, 21, 22, 30, 31, 32] (by decide +kernel) (by decide +kernel)
set_option maxRecDepth 20000 in
theorem gX1_init_X0_init : GoodIn wsX1_init (wsX0_init) := ggX1_init_X0_init
theorem dX1_init_0 : decode cX1_init 0 = .ok (.aload_n 0, 1) := by decide +kernel
theorem dX1_init_1 : decode cX1_init 1 = .ok (.invokespecial 3, 3) := by decide +kernel
theorem dX1_init_4 : decode cX1_init 4 = .ok (.aload_n 0, 1) := by decide +kernel
theorem dX1_init_5 : decode cX1_init 5 = .ok (.bipush 60, 2) := by decide +kernel
theorem dX1_init_7 : decode cX1_init 7 = .ok (.newarray .char, 2) := by decide +kernel
theorem dX1_init_9 : decode cX1_init 9 = .ok (.putfield 9, 3) := by decide +kernel
theorem dX1_init_12 : decode cX1_init 12 = .ok (.aload_n 0, 1) := by decide +kernel
theorem dX1_init_13 : decode cX1_init 13 = .ok (.new 15, 3) := by decide +kernel
theorem dX1_init_16 : decode cX1_init 16 = .ok (.dup, 1) := by decide +kernel
theorem dX1_init_17 : decode cX1_init 17 = .ok (.invokespecial 17, 3) := by decide +kernel
theorem dX1_init_20 : decode cX1_init 20 = .ok (.putfield 18, 3) := by decide +kernel
theorem dX1_init_23 : decode cX1_init 23 = .ok (.aload_n 0, 1) := by decide +kernel
theorem dX1_init_24 : decode cX1_init 24 = .ok (.iconst 0, 1) := by decide +kernel
theorem dX1_init_25 : decode cX1_init 25 = .ok (.putfield 22, 3) := by decide +kernel
theorem dX1_init_28 : decode cX1_init 28 = .ok (.aload_n 0, 1) := by decide +kernel
theorem dX1_init_29 : decode cX1_init 29 = .ok (.iconst 0, 1) := by decide +kernel
theorem dX1_init_30 : decode cX1_init 30 = .ok (.putfield 26, 3) := by decide +kernel
theorem dX1_init_33 : decode cX1_init 33 = .ok (.aload_n 0, 1) := by decide +kernel
theorem dX1_init_34 : decode cX1_init 34 = .ok (.iconst 0, 1) := by decide +kernel
theorem dX1_init_35 : decode cX1_init 35 = .ok (.putfield 29, 3) := by decide +kernel
theorem dX1_init_38 : decode cX1_init 38 = .ok (.aload_n 0, 1) := by decide +kernel
theorem dX1_init_39 : decode cX1_init 39 = .ok (.iconst 0, 1) := by decide +kernel
theorem dX1_init_40 : decode cX1_init 40 = .ok (.putfield 32, 3) := by decide +kernel
theorem dX1_init_43 : decode cX1_init 43 = .ok (.aload_n 0, 1) := by decide +kernel
theorem dX1_init_44 : decode cX1_init 44 = .ok (.iconst 0, 1) := by decide +kernel
theorem dX1_init_45 : decode cX1_init 45 = .ok (.putfield 35, 3) := by decide +kernel
theorem dX1_init_48 : decode cX1_init 48 = .ok (.return_, 1) := by decide +kernel
theorem dX1_append_0 : decode cX1_append 0 = .ok (.aload_n 0, 1) := by decide +kernel
theorem dX1_append_1 : decode cX1_append 1 = .ok (.getfield 26, 3) := by decide +kernel
theorem dX1_append_4 : decode cX1_append 4 = .ok (.ifCond .lt 35, 3) := by decide +kernel
theorem dX1_append_7 : decode cX1_append 7 = .ok (.aload_n 0, 1) := by decide +kernel
theorem dX1_append_8 : decode cX1_append 8 = .ok (.getfield 26, 3) := by decide +kernel
theorem dX1_append_11 : decode cX1_append 11 = .ok (.aload_n 0, 1) := by decide +kernel
theorem dX1_append_12 : decode cX1_append 12 = .ok (.getfield 9, 3) := by decide +kernel
theorem dX1_append_15 : decode cX1_append 15 = .ok (.arraylength, 1) := by decide +kernel
theorem dX1_append_16 : decode cX1_append 16 = .ok (.if_icmp .ge 23, 3) := by decide +kernel
theorem dX1_append_19 : decode cX1_append 19 = .ok (.aload_n 0, 1) := by decide +kernel
theorem dX1_append_20 : decode cX1_append 20 = .ok (.getfield 9, 3) := by decide +kernel
theorem dX1_append_23 : decode cX1_append 23 = .ok (.aload_n 0, 1) := by decide +kernel
theorem dX1_append_24 : decode cX1_append 24 = .ok (.getfield 26, 3) := by decide +kernel
theorem dX1_append_27 : decode cX1_append 27 = .ok (.iload_n 1, 1) := by decide +kernel
theorem dX1_append_28 : decode cX1_append 28 = .ok (.castore, 1) := by decide +kernel
theorem dX1_append_29 : decode cX1_append 29 = .ok (.aload_n 0, 1) := by decide +kernel
theorem dX1_append_30 : decode cX1_append 30 = .ok (.dup, 1) := by decide +kernel
theorem dX1_append_31 : decode cX1_append 31 = .ok (.getfield 26, 3) := by decide +kernel
theorem dX1_append_34 : decode cX1_append 34 = .ok (.iconst 1, 1) := by decide +kernel
theorem dX1_append_35 : decode cX1_append 35 = .ok (.iadd, 1) := by decide +kernel
theorem dX1_append_36 : decode cX1_append 36 = .ok (.putfield 26, 3) := by decide +kernel
theorem dX1_append_39 : decode cX1_append 39 = .ok (.return_, 1) := by decide +kernel
set_option maxRecDepth 20000 in
theorem ggX1_examine_X1_find : GoodIn wsX1_examine wsX1_find := goodIn_r _ [9, 10, 11, 12, 109, 110, 111, 112, 113, 114, 115] (by decide +kernel) (by decide +kernel)
set_option maxRecDepth 20000 in
theorem gX1_examine_X1_find : GoodIn wsX1_examine (wsV RX1 38 RX1 yX1_find wsX1_find) := goodIn_app (goodIn_of _ (by decide +kernel)) ggX1_examine_X1_find
set_option maxRecDepth 20000 in
theorem ggX1_examine_X1_readForm : GoodIn wsX1_examine wsX1_readForm := goodIn_r _ [16, 2, 17, 1, 18, 19, 20, 21, 8, 22, 23, 24, 25, 26, 27, 28, 29, 30, 31, 32, 33, 34, 35, 36, 37, 38, 39, 40, 41, 42, 43, 44, 45, 46, 47, 109, 110, 111, 112, 113, 114, 115, 122, 123, 124] (by decide +kernel) (by decide +kernel)
set_option maxRecDepth 20000 in
theorem gX1_examine_X1_readForm : GoodIn wsX1_examine (wsV RX1 42 RX1 yX1_readForm wsX1_readForm) := goodIn_app (goodIn_of _ (by decide +kernel)) ggX1_examine_X1_readForm
set_option maxRecDepth 20000 in
theorem ggX1_examine_X0_cornerOutside : GoodIn wsX1_examine wsX0_cornerOutside := goodIn_r _ [51, 41, 52, 53, 54, 39, 55, 46, 56, 57, 58, 59, 47, 122, 123, 124] (by decide +kernel) (by decide +kernel)
set_option maxRecDepth 20000 in
theorem gX1_examine_X0_cornerOutside : GoodIn wsX1_examine (wsV RX1 54 RX0 yX0_cornerOutside wsX0_cornerOutside) := goodIn_app (goodIn_of _ (by decide +kernel)) ggX1_examine_X0_cornerOutside
set_option maxRecDepth 20000 in
theorem ggX1_examine_X0_causeOfShape : GoodIn wsX1_examine wsX0_causeOfShape := goodIn_r _ [63, 41, 64, 65, 66, 39, 67, 52, 53, 54, 55, 46, 56, 57, 58, 59, 47, 68, 69, 70, 71, 72, 73, 74, 75, 76, 77, 78, 122, 123, 124] (by decide +kernel) (by decide +kernel)
set_option maxRecDepth 20000 in
theorem gX1_examine_X0_causeOfShape : GoodIn wsX1_examine (wsV RX1 58 RX0 yX0_causeOfShape wsX0_causeOfShape) := goodIn_app (goodIn_of _ (by decide +kernel)) ggX1_examine_X0_causeOfShape
set_option maxRecDepth 20000 in
theorem ggX1_examine_X3_overlapped : GoodIn wsX1_examine wsX3_overlapped := goodIn_r _ [83, 84, 85, 86, 87, 82, 88, 89, 90, 91, 92, 93, 39, 94, 41, 95, 96, 97, 98, 99, 100, 101, 102, 103, 104, 105, 106, 64, 65, 66, 67, 52, 53, 54, 55, 46, 56, 57, 58, 59, 47, 68, 69, 70, 116, 117, 118, 119, 120, 121, 122, 123, 124] (by decide +kernel) (by decide +kernel)
set_option maxRecDepth 20000 in
theorem gX1_examine_X3_overlapped : GoodIn wsX1_examine (wsV RX1 62 RX3 yX3_overlapped wsX3_overlapped) := goodIn_app (goodIn_of _ (by decide +kernel)) ggX1_examine_X3_overlapped
set_option maxRecDepth 20000 in
theorem ggX1_examine_X4_lowest : GoodIn wsX1_examine wsX4_lowest := goodIn_r _ [108] (by decide +kernel) (by decide +kernel)
set_option maxRecDepth 20000 in
theorem gX1_examine_X4_lowest_n66 : GoodIn wsX1_examine (wsX4_lowest) := ggX1_examine_X4_lowest
theorem dX1_examine_0 : decode cX1_examine 0 = .ok (.aload_n 0, 1) := by decide +kernel
theorem dX1_examine_1 : decode cX1_examine 1 = .ok (.iconst 0, 1) := by decide +kernel
theorem dX1_examine_2 : decode cX1_examine 2 = .ok (.iconst 0, 1) := by decide +kernel
theorem dX1_examine_3 : decode cX1_examine 3 = .ok (.iconst 0, 1) := by decide +kernel
theorem dX1_examine_4 : decode cX1_examine 4 = .ok (.invokevirtual 38, 3) := by decide +kernel
theorem dX1_examine_7 : decode cX1_examine 7 = .ok (.aload_n 0, 1) := by decide +kernel
theorem dX1_examine_8 : decode cX1_examine 8 = .ok (.invokevirtual 42, 3) := by decide +kernel
theorem dX1_examine_11 : decode cX1_examine 11 = .ok (.ifCond .ne 14, 3) := by decide +kernel
theorem dX1_examine_14 : decode cX1_examine 14 = .ok (.aload_n 0, 1) := by decide +kernel
theorem dX1_examine_15 : decode cX1_examine 15 = .ok (.aload_n 0, 1) := by decide +kernel
theorem dX1_examine_16 : decode cX1_examine 16 = .ok (.getfield 22, 3) := by decide +kernel
theorem dX1_examine_19 : decode cX1_examine 19 = .ok (.iconst 1, 1) := by decide +kernel
theorem dX1_examine_20 : decode cX1_examine 20 = .ok (.iconst 0, 1) := by decide +kernel
theorem dX1_examine_21 : decode cX1_examine 21 = .ok (.invokevirtual 38, 3) := by decide +kernel
theorem dX1_examine_24 : decode cX1_examine 24 = .ok (.return_, 1) := by decide +kernel
theorem dX1_examine_25 : decode cX1_examine 25 = .ok (.aload_n 0, 1) := by decide +kernel
theorem dX1_examine_26 : decode cX1_examine 26 = .ok (.getfield 18, 3) := by decide +kernel
theorem dX1_examine_29 : decode cX1_examine 29 = .ok (.aload_n 1, 1) := by decide +kernel
theorem dX1_examine_30 : decode cX1_examine 30 = .ok (.getfield 46, 3) := by decide +kernel
theorem dX1_examine_33 : decode cX1_examine 33 = .ok (.aload_n 1, 1) := by decide +kernel
theorem dX1_examine_34 : decode cX1_examine 34 = .ok (.getfield 51, 3) := by decide +kernel
theorem dX1_examine_37 : decode cX1_examine 37 = .ok (.invokevirtual 54, 3) := by decide +kernel
theorem dX1_examine_40 : decode cX1_examine 40 = .ok (.istore_n 2, 1) := by decide +kernel
theorem dX1_examine_41 : decode cX1_examine 41 = .ok (.iload_n 2, 1) := by decide +kernel
theorem dX1_examine_42 : decode cX1_examine 42 = .ok (.ifCond .lt 11, 3) := by decide +kernel
theorem dX1_examine_45 : decode cX1_examine 45 = .ok (.aload_n 0, 1) := by decide +kernel
theorem dX1_examine_46 : decode cX1_examine 46 = .ok (.iconst 0, 1) := by decide +kernel
theorem dX1_examine_47 : decode cX1_examine 47 = .ok (.iconst 2, 1) := by decide +kernel
theorem dX1_examine_48 : decode cX1_examine 48 = .ok (.iload_n 2, 1) := by decide +kernel
theorem dX1_examine_49 : decode cX1_examine 49 = .ok (.invokevirtual 38, 3) := by decide +kernel
theorem dX1_examine_52 : decode cX1_examine 52 = .ok (.return_, 1) := by decide +kernel
theorem dX1_examine_53 : decode cX1_examine 53 = .ok (.aload_n 0, 1) := by decide +kernel
theorem dX1_examine_54 : decode cX1_examine 54 = .ok (.getfield 18, 3) := by decide +kernel
theorem dX1_examine_57 : decode cX1_examine 57 = .ok (.invokevirtual 58, 3) := by decide +kernel
theorem dX1_examine_60 : decode cX1_examine 60 = .ok (.istore_n 3, 1) := by decide +kernel
theorem dX1_examine_61 : decode cX1_examine 61 = .ok (.iload_n 3, 1) := by decide +kernel
theorem dX1_examine_62 : decode cX1_examine 62 = .ok (.ifCond .lt 11, 3) := by decide +kernel
theorem dX1_examine_65 : decode cX1_examine 65 = .ok (.aload_n 0, 1) := by decide +kernel
theorem dX1_examine_66 : decode cX1_examine 66 = .ok (.iconst 0, 1) := by decide +kernel
theorem dX1_examine_67 : decode cX1_examine 67 = .ok (.iconst 3, 1) := by decide +kernel
theorem dX1_examine_68 : decode cX1_examine 68 = .ok (.iload_n 3, 1) := by decide +kernel
theorem dX1_examine_69 : decode cX1_examine 69 = .ok (.invokevirtual 38, 3) := by decide +kernel
theorem dX1_examine_72 : decode cX1_examine 72 = .ok (.return_, 1) := by decide +kernel
theorem dX1_examine_73 : decode cX1_examine 73 = .ok (.aload_n 1, 1) := by decide +kernel
theorem dX1_examine_74 : decode cX1_examine 74 = .ok (.aload_n 0, 1) := by decide +kernel
theorem dX1_examine_75 : decode cX1_examine 75 = .ok (.getfield 18, 3) := by decide +kernel
theorem dX1_examine_78 : decode cX1_examine 78 = .ok (.iconst (-1), 1) := by decide +kernel
theorem dX1_examine_79 : decode cX1_examine 79 = .ok (.invokevirtual 62, 3) := by decide +kernel
theorem dX1_examine_82 : decode cX1_examine 82 = .ok (.istore 4, 2) := by decide +kernel
theorem dX1_examine_84 : decode cX1_examine 84 = .ok (.iload 4, 2) := by decide +kernel
theorem dX1_examine_86 : decode cX1_examine 86 = .ok (.ifCond .eq 14, 3) := by decide +kernel
theorem dX1_examine_89 : decode cX1_examine 89 = .ok (.aload_n 0, 1) := by decide +kernel
theorem dX1_examine_90 : decode cX1_examine 90 = .ok (.iconst 0, 1) := by decide +kernel
theorem dX1_examine_91 : decode cX1_examine 91 = .ok (.iconst 4, 1) := by decide +kernel
theorem dX1_examine_92 : decode cX1_examine 92 = .ok (.iload 4, 2) := by decide +kernel
theorem dX1_examine_94 : decode cX1_examine 94 = .ok (.invokestatic 66, 3) := by decide +kernel
theorem dX1_examine_97 : decode cX1_examine 97 = .ok (.invokevirtual 38, 3) := by decide +kernel
theorem dX1_examine_100 : decode cX1_examine 100 = .ok (.return_, 1) := by decide +kernel
theorem dX1_find_0 : decode cX1_find 0 = .ok (.aload_n 0, 1) := by decide +kernel
theorem dX1_find_1 : decode cX1_find 1 = .ok (.iload_n 1, 1) := by decide +kernel
theorem dX1_find_2 : decode cX1_find 2 = .ok (.putfield 29, 3) := by decide +kernel
theorem dX1_find_5 : decode cX1_find 5 = .ok (.aload_n 0, 1) := by decide +kernel
theorem dX1_find_6 : decode cX1_find 6 = .ok (.iload_n 2, 1) := by decide +kernel
theorem dX1_find_7 : decode cX1_find 7 = .ok (.putfield 32, 3) := by decide +kernel
theorem dX1_find_10 : decode cX1_find 10 = .ok (.aload_n 0, 1) := by decide +kernel
theorem dX1_find_11 : decode cX1_find 11 = .ok (.iload_n 3, 1) := by decide +kernel
theorem dX1_find_12 : decode cX1_find 12 = .ok (.putfield 35, 3) := by decide +kernel
theorem dX1_find_15 : decode cX1_find 15 = .ok (.return_, 1) := by decide +kernel
set_option maxRecDepth 20000 in
theorem ggX1_readForm_X1_takes : GoodIn wsX1_readForm wsX1_takes := goodIn_r _ [9, 3, 10, 11, 12, 8, 13, 4, 14, 35, 36, 37, 38, 39, 40, 41] (by decide +kernel) (by decide +kernel)
set_option maxRecDepth 20000 in
theorem gX1_readForm_X1_takes : GoodIn wsX1_readForm (wsV RX1 73 RX1 yX1_takes wsX1_takes) := goodIn_app (goodIn_of _ (by decide +kernel)) ggX1_readForm_X1_takes
set_option maxRecDepth 20000 in
theorem ggX1_readForm_X1_takeNumber : GoodIn wsX1_readForm wsX1_takeNumber := goodIn_r _ [18, 19, 20, 21, 8, 22, 3, 10, 11, 12, 13, 4, 14, 35, 36, 37, 38, 39, 40, 41] (by decide +kernel) (by decide +kernel)
set_option maxRecDepth 20000 in
theorem gX1_readForm_X1_takeNumber : GoodIn wsX1_readForm (wsV RX1 77 RX1 yX1_takeNumber wsX1_takeNumber) := goodIn_app (goodIn_of _ (by decide +kernel)) ggX1_readForm_X1_takeNumber
set_option maxRecDepth 20000 in
theorem ggX1_readForm_X0_addCorner : GoodIn wsX1_readForm wsX0_addCorner := goodIn_r _ [27, 28, 29, 30, 31, 26, 32, 33, 34, 42, 43, 44] (by decide +kernel) (by decide +kernel)
set_option maxRecDepth 20000 in
theorem gX1_readForm_X0_addCorner : GoodIn wsX1_readForm (wsV RX1 80 RX0 yX0_addCorner wsX0_addCorner) := goodIn_app (goodIn_of _ (by decide +kernel)) ggX1_readForm_X0_addCorner
theorem dX1_readForm_0 : decode cX1_readForm 0 = .ok (.aload_n 0, 1) := by decide +kernel
theorem dX1_readForm_1 : decode cX1_readForm 1 = .ok (.getfield 18, 3) := by decide +kernel
theorem dX1_readForm_4 : decode cX1_readForm 4 = .ok (.iconst 0, 1) := by decide +kernel
theorem dX1_readForm_5 : decode cX1_readForm 5 = .ok (.putfield 70, 3) := by decide +kernel
theorem dX1_readForm_8 : decode cX1_readForm 8 = .ok (.aload_n 0, 1) := by decide +kernel
theorem dX1_readForm_9 : decode cX1_readForm 9 = .ok (.iconst 0, 1) := by decide +kernel
theorem dX1_readForm_10 : decode cX1_readForm 10 = .ok (.putfield 22, 3) := by decide +kernel
theorem dX1_readForm_13 : decode cX1_readForm 13 = .ok (.iconst 0, 1) := by decide +kernel
theorem dX1_readForm_14 : decode cX1_readForm 14 = .ok (.istore_n 1, 1) := by decide +kernel
theorem dX1_readForm_15 : decode cX1_readForm 15 = .ok (.iload_n 1, 1) := by decide +kernel
theorem dX1_readForm_16 : decode cX1_readForm 16 = .ok (.bipush 6, 2) := by decide +kernel
theorem dX1_readForm_18 : decode cX1_readForm 18 = .ok (.if_icmp .ge 84, 3) := by decide +kernel
theorem dX1_readForm_21 : decode cX1_readForm 21 = .ok (.iload_n 1, 1) := by decide +kernel
theorem dX1_readForm_22 : decode cX1_readForm 22 = .ok (.ifCond .le 14, 3) := by decide +kernel
theorem dX1_readForm_25 : decode cX1_readForm 25 = .ok (.aload_n 0, 1) := by decide +kernel
theorem dX1_readForm_26 : decode cX1_readForm 26 = .ok (.bipush 59, 2) := by decide +kernel
theorem dX1_readForm_28 : decode cX1_readForm 28 = .ok (.invokevirtual 73, 3) := by decide +kernel
theorem dX1_readForm_31 : decode cX1_readForm 31 = .ok (.ifCond .ne 5, 3) := by decide +kernel
theorem dX1_readForm_34 : decode cX1_readForm 34 = .ok (.iconst 0, 1) := by decide +kernel
theorem dX1_readForm_35 : decode cX1_readForm 35 = .ok (.ireturn, 1) := by decide +kernel
theorem dX1_readForm_36 : decode cX1_readForm 36 = .ok (.aload_n 0, 1) := by decide +kernel
theorem dX1_readForm_37 : decode cX1_readForm 37 = .ok (.invokevirtual 77, 3) := by decide +kernel
theorem dX1_readForm_40 : decode cX1_readForm 40 = .ok (.istore_n 2, 1) := by decide +kernel
theorem dX1_readForm_41 : decode cX1_readForm 41 = .ok (.iload_n 2, 1) := by decide +kernel
theorem dX1_readForm_42 : decode cX1_readForm 42 = .ok (.ifCond .lt 12, 3) := by decide +kernel
theorem dX1_readForm_45 : decode cX1_readForm 45 = .ok (.aload_n 0, 1) := by decide +kernel
theorem dX1_readForm_46 : decode cX1_readForm 46 = .ok (.bipush 44, 2) := by decide +kernel
theorem dX1_readForm_48 : decode cX1_readForm 48 = .ok (.invokevirtual 73, 3) := by decide +kernel
theorem dX1_readForm_51 : decode cX1_readForm 51 = .ok (.ifCond .ne 5, 3) := by decide +kernel
theorem dX1_readForm_54 : decode cX1_readForm 54 = .ok (.iconst 0, 1) := by decide +kernel
theorem dX1_readForm_55 : decode cX1_readForm 55 = .ok (.ireturn, 1) := by decide +kernel
theorem dX1_readForm_56 : decode cX1_readForm 56 = .ok (.aload_n 0, 1) := by decide +kernel
theorem dX1_readForm_57 : decode cX1_readForm 57 = .ok (.invokevirtual 77, 3) := by decide +kernel
theorem dX1_readForm_60 : decode cX1_readForm 60 = .ok (.istore_n 3, 1) := by decide +kernel
theorem dX1_readForm_61 : decode cX1_readForm 61 = .ok (.iload_n 3, 1) := by decide +kernel
theorem dX1_readForm_62 : decode cX1_readForm 62 = .ok (.ifCond .ge 5, 3) := by decide +kernel
theorem dX1_readForm_65 : decode cX1_readForm 65 = .ok (.iconst 0, 1) := by decide +kernel
theorem dX1_readForm_66 : decode cX1_readForm 66 = .ok (.ireturn, 1) := by decide +kernel
theorem dX1_readForm_67 : decode cX1_readForm 67 = .ok (.aload_n 0, 1) := by decide +kernel
theorem dX1_readForm_68 : decode cX1_readForm 68 = .ok (.getfield 18, 3) := by decide +kernel
theorem dX1_readForm_71 : decode cX1_readForm 71 = .ok (.iload_n 2, 1) := by decide +kernel
theorem dX1_readForm_72 : decode cX1_readForm 72 = .ok (.iload_n 3, 1) := by decide +kernel
theorem dX1_readForm_73 : decode cX1_readForm 73 = .ok (.invokevirtual 80, 3) := by decide +kernel
theorem dX1_readForm_76 : decode cX1_readForm 76 = .ok (.iload_n 1, 1) := by decide +kernel
theorem dX1_readForm_77 : decode cX1_readForm 77 = .ok (.iconst 1, 1) := by decide +kernel
theorem dX1_readForm_78 : decode cX1_readForm 78 = .ok (.iadd, 1) := by decide +kernel
theorem dX1_readForm_79 : decode cX1_readForm 79 = .ok (.iconst 3, 1) := by decide +kernel
theorem dX1_readForm_80 : decode cX1_readForm 80 = .ok (.if_icmp .lt 16, 3) := by decide +kernel
theorem dX1_readForm_83 : decode cX1_readForm 83 = .ok (.aload_n 0, 1) := by decide +kernel
theorem dX1_readForm_84 : decode cX1_readForm 84 = .ok (.getfield 22, 3) := by decide +kernel
theorem dX1_readForm_87 : decode cX1_readForm 87 = .ok (.aload_n 0, 1) := by decide +kernel
theorem dX1_readForm_88 : decode cX1_readForm 88 = .ok (.getfield 26, 3) := by decide +kernel
theorem dX1_readForm_91 : decode cX1_readForm 91 = .ok (.if_icmp .ne 5, 3) := by decide +kernel
theorem dX1_readForm_94 : decode cX1_readForm 94 = .ok (.iconst 1, 1) := by decide +kernel
theorem dX1_readForm_95 : decode cX1_readForm 95 = .ok (.ireturn, 1) := by decide +kernel
theorem dX1_readForm_96 : decode cX1_readForm 96 = .ok (.iinc 1 1, 3) := by decide +kernel
theorem dX1_readForm_99 : decode cX1_readForm 99 = .ok (.goto (-84), 3) := by decide +kernel
theorem dX1_readForm_102 : decode cX1_readForm 102 = .ok (.iconst 0, 1) := by decide +kernel
theorem dX1_readForm_103 : decode cX1_readForm 103 = .ok (.ireturn, 1) := by decide +kernel
theorem dX1_sign_0 : decode cX1_sign 0 = .ok (.aload_n 0, 1) := by decide +kernel
theorem dX1_sign_1 : decode cX1_sign 1 = .ok (.getfield 22, 3) := by decide +kernel
theorem dX1_sign_4 : decode cX1_sign 4 = .ok (.ifCond .lt 38, 3) := by decide +kernel
theorem dX1_sign_7 : decode cX1_sign 7 = .ok (.aload_n 0, 1) := by decide +kernel
theorem dX1_sign_8 : decode cX1_sign 8 = .ok (.getfield 22, 3) := by decide +kernel
theorem dX1_sign_11 : decode cX1_sign 11 = .ok (.aload_n 0, 1) := by decide +kernel
theorem dX1_sign_12 : decode cX1_sign 12 = .ok (.getfield 26, 3) := by decide +kernel
theorem dX1_sign_15 : decode cX1_sign 15 = .ok (.if_icmp .ge 27, 3) := by decide +kernel
theorem dX1_sign_18 : decode cX1_sign 18 = .ok (.aload_n 0, 1) := by decide +kernel
theorem dX1_sign_19 : decode cX1_sign 19 = .ok (.getfield 22, 3) := by decide +kernel
theorem dX1_sign_22 : decode cX1_sign 22 = .ok (.aload_n 0, 1) := by decide +kernel
theorem dX1_sign_23 : decode cX1_sign 23 = .ok (.getfield 9, 3) := by decide +kernel
theorem dX1_sign_26 : decode cX1_sign 26 = .ok (.arraylength, 1) := by decide +kernel
theorem dX1_sign_27 : decode cX1_sign 27 = .ok (.if_icmp .ge 15, 3) := by decide +kernel
theorem dX1_sign_30 : decode cX1_sign 30 = .ok (.aload_n 0, 1) := by decide +kernel
theorem dX1_sign_31 : decode cX1_sign 31 = .ok (.getfield 9, 3) := by decide +kernel
theorem dX1_sign_34 : decode cX1_sign 34 = .ok (.aload_n 0, 1) := by decide +kernel
theorem dX1_sign_35 : decode cX1_sign 35 = .ok (.getfield 22, 3) := by decide +kernel
theorem dX1_sign_38 : decode cX1_sign 38 = .ok (.caload, 1) := by decide +kernel
theorem dX1_sign_39 : decode cX1_sign 39 = .ok (.goto 4, 3) := by decide +kernel
theorem dX1_sign_42 : decode cX1_sign 42 = .ok (.iconst 0, 1) := by decide +kernel
theorem dX1_sign_43 : decode cX1_sign 43 = .ok (.ireturn, 1) := by decide +kernel
set_option maxRecDepth 20000 in
theorem ggX1_takes_X1_sign : GoodIn wsX1_takes wsX1_sign := goodIn_r _ [6, 1, 7, 8, 9, 10, 11, 12, 13, 14, 15] (by decide +kernel) (by decide +kernel)
set_option maxRecDepth 20000 in
theorem gX1_takes_X1_sign : GoodIn wsX1_takes (wsV RX1 84 RX1 yX1_sign wsX1_sign) := goodIn_app (goodIn_of _ (by decide +kernel)) ggX1_takes_X1_sign
theorem dX1_takes_0 : decode cX1_takes 0 = .ok (.aload_n 0, 1) := by decide +kernel
theorem dX1_takes_1 : decode cX1_takes 1 = .ok (.invokevirtual 84, 3) := by decide +kernel
theorem dX1_takes_4 : decode cX1_takes 4 = .ok (.iload_n 1, 1) := by decide +kernel
theorem dX1_takes_5 : decode cX1_takes 5 = .ok (.if_icmp .ne 7, 3) := by decide +kernel
theorem dX1_takes_8 : decode cX1_takes 8 = .ok (.iconst 1, 1) := by decide +kernel
theorem dX1_takes_9 : decode cX1_takes 9 = .ok (.goto 4, 3) := by decide +kernel
theorem dX1_takes_12 : decode cX1_takes 12 = .ok (.iconst 0, 1) := by decide +kernel
theorem dX1_takes_13 : decode cX1_takes 13 = .ok (.istore_n 2, 1) := by decide +kernel
theorem dX1_takes_14 : decode cX1_takes 14 = .ok (.iload_n 2, 1) := by decide +kernel
theorem dX1_takes_15 : decode cX1_takes 15 = .ok (.ifCond .eq 13, 3) := by decide +kernel
theorem dX1_takes_18 : decode cX1_takes 18 = .ok (.aload_n 0, 1) := by decide +kernel
theorem dX1_takes_19 : decode cX1_takes 19 = .ok (.dup, 1) := by decide +kernel
theorem dX1_takes_20 : decode cX1_takes 20 = .ok (.getfield 22, 3) := by decide +kernel
theorem dX1_takes_23 : decode cX1_takes 23 = .ok (.iconst 1, 1) := by decide +kernel
theorem dX1_takes_24 : decode cX1_takes 24 = .ok (.iadd, 1) := by decide +kernel
theorem dX1_takes_25 : decode cX1_takes 25 = .ok (.putfield 22, 3) := by decide +kernel
theorem dX1_takes_28 : decode cX1_takes 28 = .ok (.iload_n 2, 1) := by decide +kernel
theorem dX1_takes_29 : decode cX1_takes 29 = .ok (.ireturn, 1) := by decide +kernel
set_option maxRecDepth 20000 in
theorem ggX1_takeNumber_X1_takeDigit : GoodIn wsX1_takeNumber wsX1_takeDigit := goodIn_r _ [5, 6, 7, 8, 9, 4, 10, 11, 12, 13, 14, 15, 16, 17, 18, 19] (by decide +kernel) (by decide +kernel)
set_option maxRecDepth 20000 in
theorem gX1_takeNumber_X1_takeDigit : GoodIn wsX1_takeNumber (wsV RX1 88 RX1 yX1_takeDigit wsX1_takeDigit) := goodIn_app (goodIn_of _ (by decide +kernel)) ggX1_takeNumber_X1_takeDigit
theorem dX1_takeNumber_0 : decode cX1_takeNumber 0 = .ok (.aload_n 0, 1) := by decide +kernel
theorem dX1_takeNumber_1 : decode cX1_takeNumber 1 = .ok (.invokevirtual 88, 3) := by decide +kernel
theorem dX1_takeNumber_4 : decode cX1_takeNumber 4 = .ok (.istore_n 1, 1) := by decide +kernel
theorem dX1_takeNumber_5 : decode cX1_takeNumber 5 = .ok (.iload_n 1, 1) := by decide +kernel
theorem dX1_takeNumber_6 : decode cX1_takeNumber 6 = .ok (.ifCond .ge 5, 3) := by decide +kernel
theorem dX1_takeNumber_9 : decode cX1_takeNumber 9 = .ok (.iconst (-1), 1) := by decide +kernel
theorem dX1_takeNumber_10 : decode cX1_takeNumber 10 = .ok (.ireturn, 1) := by decide +kernel
theorem dX1_takeNumber_11 : decode cX1_takeNumber 11 = .ok (.aload_n 0, 1) := by decide +kernel
theorem dX1_takeNumber_12 : decode cX1_takeNumber 12 = .ok (.invokevirtual 88, 3) := by decide +kernel
theorem dX1_takeNumber_15 : decode cX1_takeNumber 15 = .ok (.istore_n 2, 1) := by decide +kernel
theorem dX1_takeNumber_16 : decode cX1_takeNumber 16 = .ok (.iload_n 2, 1) := by decide +kernel
theorem dX1_takeNumber_17 : decode cX1_takeNumber 17 = .ok (.ifCond .ge 7, 3) := by decide +kernel
theorem dX1_takeNumber_20 : decode cX1_takeNumber 20 = .ok (.iload_n 1, 1) := by decide +kernel
theorem dX1_takeNumber_21 : decode cX1_takeNumber 21 = .ok (.goto 9, 3) := by decide +kernel
theorem dX1_takeNumber_24 : decode cX1_takeNumber 24 = .ok (.bipush 10, 2) := by decide +kernel
theorem dX1_takeNumber_26 : decode cX1_takeNumber 26 = .ok (.iload_n 1, 1) := by decide +kernel
theorem dX1_takeNumber_27 : decode cX1_takeNumber 27 = .ok (.imul, 1) := by decide +kernel
theorem dX1_takeNumber_28 : decode cX1_takeNumber 28 = .ok (.iload_n 2, 1) := by decide +kernel
theorem dX1_takeNumber_29 : decode cX1_takeNumber 29 = .ok (.iadd, 1) := by decide +kernel
theorem dX1_takeNumber_30 : decode cX1_takeNumber 30 = .ok (.ireturn, 1) := by decide +kernel
set_option maxRecDepth 20000 in
theorem ggX1_takeDigit_X1_sign : GoodIn wsX1_takeDigit wsX1_sign := goodIn_r _ [6, 1, 7, 8, 9, 10, 11, 12, 13, 14, 15] (by decide +kernel) (by decide +kernel)
set_option maxRecDepth 20000 in
theorem gX1_takeDigit_X1_sign : GoodIn wsX1_takeDigit (wsV RX1 84 RX1 yX1_sign wsX1_sign) := goodIn_app (goodIn_of _ (by decide +kernel)) ggX1_takeDigit_X1_sign
theorem dX1_takeDigit_0 : decode cX1_takeDigit 0 = .ok (.aload_n 0, 1) := by decide +kernel
theorem dX1_takeDigit_1 : decode cX1_takeDigit 1 = .ok (.invokevirtual 84, 3) := by decide +kernel
theorem dX1_takeDigit_4 : decode cX1_takeDigit 4 = .ok (.istore_n 1, 1) := by decide +kernel
theorem dX1_takeDigit_5 : decode cX1_takeDigit 5 = .ok (.iload_n 1, 1) := by decide +kernel
theorem dX1_takeDigit_6 : decode cX1_takeDigit 6 = .ok (.bipush 48, 2) := by decide +kernel
theorem dX1_takeDigit_8 : decode cX1_takeDigit 8 = .ok (.if_icmp .lt 9, 3) := by decide +kernel
theorem dX1_takeDigit_11 : decode cX1_takeDigit 11 = .ok (.iload_n 1, 1) := by decide +kernel
theorem dX1_takeDigit_12 : decode cX1_takeDigit 12 = .ok (.bipush 57, 2) := by decide +kernel
theorem dX1_takeDigit_14 : decode cX1_takeDigit 14 = .ok (.if_icmp .le 5, 3) := by decide +kernel
theorem dX1_takeDigit_17 : decode cX1_takeDigit 17 = .ok (.iconst (-1), 1) := by decide +kernel
theorem dX1_takeDigit_18 : decode cX1_takeDigit 18 = .ok (.ireturn, 1) := by decide +kernel
theorem dX1_takeDigit_19 : decode cX1_takeDigit 19 = .ok (.aload_n 0, 1) := by decide +kernel
theorem dX1_takeDigit_20 : decode cX1_takeDigit 20 = .ok (.dup, 1) := by decide +kernel
theorem dX1_takeDigit_21 : decode cX1_takeDigit 21 = .ok (.getfield 22, 3) := by decide +kernel
theorem dX1_takeDigit_24 : decode cX1_takeDigit 24 = .ok (.iconst 1, 1) := by decide +kernel
theorem dX1_takeDigit_25 : decode cX1_takeDigit 25 = .ok (.iadd, 1) := by decide +kernel
theorem dX1_takeDigit_26 : decode cX1_takeDigit 26 = .ok (.putfield 22, 3) := by decide +kernel
theorem dX1_takeDigit_29 : decode cX1_takeDigit 29 = .ok (.iload_n 1, 1) := by decide +kernel
theorem dX1_takeDigit_30 : decode cX1_takeDigit 30 = .ok (.bipush 48, 2) := by decide +kernel
theorem dX1_takeDigit_32 : decode cX1_takeDigit 32 = .ok (.isub, 1) := by decide +kernel
theorem dX1_takeDigit_33 : decode cX1_takeDigit 33 = .ok (.ireturn, 1) := by decide +kernel
set_option maxRecDepth 20000 in
theorem ggX2_init_X3_init : GoodIn wsX2_init wsX3_init := goodIn_r _ [13, 14, 2, 3, 15, 16, 17, 18, 19, 20, 21, 22, 23, 24, 25, 26, 27, 28, 29, 30, 31, 36, 37, 38, 39, 40, 41, 42, 43, 44] (by decide +kernel) (by decide +kernel)
set_option maxRecDepth 20000 in
theorem gX2_init_X3_init : GoodIn wsX2_init (wsX3_init) := ggX2_init_X3_init
theorem dX2_init_0 : decode cX2_init 0 = .ok (.aload_n 0, 1) := by decide +kernel
theorem dX2_init_1 : decode cX2_init 1 = .ok (.invokespecial 3, 3) := by decide +kernel
theorem dX2_init_4 : decode cX2_init 4 = .ok (.aload_n 0, 1) := by decide +kernel
theorem dX2_init_5 : decode cX2_init 5 = .ok (.iconst 4, 1) := by decide +kernel
theorem dX2_init_6 : decode cX2_init 6 = .ok (.anewarray 9, 3) := by decide +kernel
theorem dX2_init_9 : decode cX2_init 9 = .ok (.putfield 11, 3) := by decide +kernel
theorem dX2_init_12 : decode cX2_init 12 = .ok (.iconst 0, 1) := by decide +kernel
theorem dX2_init_13 : decode cX2_init 13 = .ok (.istore_n 1, 1) := by decide +kernel
theorem dX2_init_14 : decode cX2_init 14 = .ok (.iload_n 1, 1) := by decide +kernel
theorem dX2_init_15 : decode cX2_init 15 = .ok (.aload_n 0, 1) := by decide +kernel
theorem dX2_init_16 : decode cX2_init 16 = .ok (.getfield 11, 3) := by decide +kernel
theorem dX2_init_19 : decode cX2_init 19 = .ok (.arraylength, 1) := by decide +kernel
theorem dX2_init_20 : decode cX2_init 20 = .ok (.if_icmp .ge 22, 3) := by decide +kernel
theorem dX2_init_23 : decode cX2_init 23 = .ok (.aload_n 0, 1) := by decide +kernel
theorem dX2_init_24 : decode cX2_init 24 = .ok (.getfield 11, 3) := by decide +kernel
theorem dX2_init_27 : decode cX2_init 27 = .ok (.iload_n 1, 1) := by decide +kernel
theorem dX2_init_28 : decode cX2_init 28 = .ok (.new 9, 3) := by decide +kernel
theorem dX2_init_31 : decode cX2_init 31 = .ok (.dup, 1) := by decide +kernel
theorem dX2_init_32 : decode cX2_init 32 = .ok (.invokespecial 17, 3) := by decide +kernel
theorem dX2_init_35 : decode cX2_init 35 = .ok (.aastore, 1) := by decide +kernel
theorem dX2_init_36 : decode cX2_init 36 = .ok (.iinc 1 1, 3) := by decide +kernel
theorem dX2_init_39 : decode cX2_init 39 = .ok (.goto (-25), 3) := by decide +kernel
theorem dX2_init_42 : decode cX2_init 42 = .ok (.aload_n 0, 1) := by decide +kernel
theorem dX2_init_43 : decode cX2_init 43 = .ok (.new 9, 3) := by decide +kernel
theorem dX2_init_46 : decode cX2_init 46 = .ok (.dup, 1) := by decide +kernel
theorem dX2_init_47 : decode cX2_init 47 = .ok (.invokespecial 17, 3) := by decide +kernel
theorem dX2_init_50 : decode cX2_init 50 = .ok (.putfield 18, 3) := by decide +kernel
theorem dX2_init_53 : decode cX2_init 53 = .ok (.aload_n 0, 1) := by decide +kernel
theorem dX2_init_54 : decode cX2_init 54 = .ok (.iconst 0, 1) := by decide +kernel
theorem dX2_init_55 : decode cX2_init 55 = .ok (.putfield 22, 3) := by decide +kernel
theorem dX2_init_58 : decode cX2_init 58 = .ok (.aload_n 0, 1) := by decide +kernel
theorem dX2_init_59 : decode cX2_init 59 = .ok (.iconst 0, 1) := by decide +kernel
theorem dX2_init_60 : decode cX2_init 60 = .ok (.putfield 26, 3) := by decide +kernel
theorem dX2_init_63 : decode cX2_init 63 = .ok (.return_, 1) := by decide +kernel
theorem dX2_at_0 : decode cX2_at 0 = .ok (.aload_n 0, 1) := by decide +kernel
theorem dX2_at_1 : decode cX2_at 1 = .ok (.getfield 22, 3) := by decide +kernel
theorem dX2_at_4 : decode cX2_at 4 = .ok (.iload_n 1, 1) := by decide +kernel
theorem dX2_at_5 : decode cX2_at 5 = .ok (.iadd, 1) := by decide +kernel
theorem dX2_at_6 : decode cX2_at 6 = .ok (.istore_n 2, 1) := by decide +kernel
theorem dX2_at_7 : decode cX2_at 7 = .ok (.iload_n 2, 1) := by decide +kernel
theorem dX2_at_8 : decode cX2_at 8 = .ok (.iconst 4, 1) := by decide +kernel
theorem dX2_at_9 : decode cX2_at 9 = .ok (.if_icmp .lt 6, 3) := by decide +kernel
theorem dX2_at_12 : decode cX2_at 12 = .ok (.iinc 2 (-4), 3) := by decide +kernel
theorem dX2_at_15 : decode cX2_at 15 = .ok (.iload_n 2, 1) := by decide +kernel
theorem dX2_at_16 : decode cX2_at 16 = .ok (.ifCond .lt 21, 3) := by decide +kernel
theorem dX2_at_19 : decode cX2_at 19 = .ok (.iload_n 2, 1) := by decide +kernel
theorem dX2_at_20 : decode cX2_at 20 = .ok (.aload_n 0, 1) := by decide +kernel
theorem dX2_at_21 : decode cX2_at 21 = .ok (.getfield 11, 3) := by decide +kernel
theorem dX2_at_24 : decode cX2_at 24 = .ok (.arraylength, 1) := by decide +kernel
theorem dX2_at_25 : decode cX2_at 25 = .ok (.if_icmp .ge 12, 3) := by decide +kernel
theorem dX2_at_28 : decode cX2_at 28 = .ok (.aload_n 0, 1) := by decide +kernel
theorem dX2_at_29 : decode cX2_at 29 = .ok (.getfield 11, 3) := by decide +kernel
theorem dX2_at_32 : decode cX2_at 32 = .ok (.iload_n 2, 1) := by decide +kernel
theorem dX2_at_33 : decode cX2_at 33 = .ok (.aaload, 1) := by decide +kernel
theorem dX2_at_34 : decode cX2_at 34 = .ok (.ifnonnull 8, 3) := by decide +kernel
theorem dX2_at_37 : decode cX2_at 37 = .ok (.aload_n 0, 1) := by decide +kernel
theorem dX2_at_38 : decode cX2_at 38 = .ok (.getfield 18, 3) := by decide +kernel
theorem dX2_at_41 : decode cX2_at 41 = .ok (.areturn, 1) := by decide +kernel
theorem dX2_at_42 : decode cX2_at 42 = .ok (.aload_n 0, 1) := by decide +kernel
theorem dX2_at_43 : decode cX2_at 43 = .ok (.getfield 11, 3) := by decide +kernel
theorem dX2_at_46 : decode cX2_at 46 = .ok (.iload_n 2, 1) := by decide +kernel
theorem dX2_at_47 : decode cX2_at 47 = .ok (.aaload, 1) := by decide +kernel
theorem dX2_at_48 : decode cX2_at 48 = .ok (.areturn, 1) := by decide +kernel
set_option maxRecDepth 20000 in
theorem ggX2_keep_X2_at : GoodIn wsX2_keep wsX2_at := goodIn_r _ [7, 2, 8, 9, 44, 45, 46, 47] (by decide +kernel) (by decide +kernel)
set_option maxRecDepth 20000 in
theorem gX2_keep_X2_at : GoodIn wsX2_keep (wsV RX2 29 RX2 yX2_at wsX2_at) := goodIn_app (goodIn_of _ (by decide +kernel)) ggX2_keep_X2_at
set_option maxRecDepth 20000 in
theorem ggX2_keep_X3_copyFrom : GoodIn wsX2_keep wsX3_copyFrom := goodIn_r _ [14, 15, 16, 17, 18, 19, 20, 13, 21, 22, 23, 24, 25, 26, 27, 28, 29, 30, 31, 32, 33, 34, 35, 36, 37, 38, 39, 40, 41, 42, 43, 48, 49, 50, 51, 52, 53, 54, 55, 56] (by decide +kernel) (by decide +kernel)
set_option maxRecDepth 20000 in
theorem gX2_keep_X3_copyFrom : GoodIn wsX2_keep (wsV RX2 33 RX3 yX3_copyFrom wsX3_copyFrom) := goodIn_app (goodIn_of _ (by decide +kernel)) ggX2_keep_X3_copyFrom
theorem dX2_keep_0 : decode cX2_keep 0 = .ok (.aload_n 0, 1) := by decide +kernel
theorem dX2_keep_1 : decode cX2_keep 1 = .ok (.getfield 26, 3) := by decide +kernel
theorem dX2_keep_4 : decode cX2_keep 4 = .ok (.iconst 4, 1) := by decide +kernel
theorem dX2_keep_5 : decode cX2_keep 5 = .ok (.if_icmp .ne 37, 3) := by decide +kernel
theorem dX2_keep_8 : decode cX2_keep 8 = .ok (.aload_n 0, 1) := by decide +kernel
theorem dX2_keep_9 : decode cX2_keep 9 = .ok (.aload_n 0, 1) := by decide +kernel
theorem dX2_keep_10 : decode cX2_keep 10 = .ok (.getfield 22, 3) := by decide +kernel
theorem dX2_keep_13 : decode cX2_keep 13 = .ok (.iconst 1, 1) := by decide +kernel
theorem dX2_keep_14 : decode cX2_keep 14 = .ok (.iadd, 1) := by decide +kernel
theorem dX2_keep_15 : decode cX2_keep 15 = .ok (.iconst 4, 1) := by decide +kernel
theorem dX2_keep_16 : decode cX2_keep 16 = .ok (.if_icmp .ge 12, 3) := by decide +kernel
theorem dX2_keep_19 : decode cX2_keep 19 = .ok (.aload_n 0, 1) := by decide +kernel
theorem dX2_keep_20 : decode cX2_keep 20 = .ok (.getfield 22, 3) := by decide +kernel
theorem dX2_keep_23 : decode cX2_keep 23 = .ok (.iconst 1, 1) := by decide +kernel
theorem dX2_keep_24 : decode cX2_keep 24 = .ok (.iadd, 1) := by decide +kernel
theorem dX2_keep_25 : decode cX2_keep 25 = .ok (.goto 4, 3) := by decide +kernel
theorem dX2_keep_28 : decode cX2_keep 28 = .ok (.iconst 0, 1) := by decide +kernel
theorem dX2_keep_29 : decode cX2_keep 29 = .ok (.putfield 22, 3) := by decide +kernel
theorem dX2_keep_32 : decode cX2_keep 32 = .ok (.aload_n 0, 1) := by decide +kernel
theorem dX2_keep_33 : decode cX2_keep 33 = .ok (.dup, 1) := by decide +kernel
theorem dX2_keep_34 : decode cX2_keep 34 = .ok (.getfield 26, 3) := by decide +kernel
theorem dX2_keep_37 : decode cX2_keep 37 = .ok (.iconst 1, 1) := by decide +kernel
theorem dX2_keep_38 : decode cX2_keep 38 = .ok (.isub, 1) := by decide +kernel
theorem dX2_keep_39 : decode cX2_keep 39 = .ok (.putfield 26, 3) := by decide +kernel
theorem dX2_keep_42 : decode cX2_keep 42 = .ok (.aload_n 0, 1) := by decide +kernel
theorem dX2_keep_43 : decode cX2_keep 43 = .ok (.aload_n 0, 1) := by decide +kernel
theorem dX2_keep_44 : decode cX2_keep 44 = .ok (.getfield 26, 3) := by decide +kernel
theorem dX2_keep_47 : decode cX2_keep 47 = .ok (.invokevirtual 29, 3) := by decide +kernel
theorem dX2_keep_50 : decode cX2_keep 50 = .ok (.aload_n 1, 1) := by decide +kernel
theorem dX2_keep_51 : decode cX2_keep 51 = .ok (.invokevirtual 33, 3) := by decide +kernel
theorem dX2_keep_54 : decode cX2_keep 54 = .ok (.aload_n 0, 1) := by decide +kernel
theorem dX2_keep_55 : decode cX2_keep 55 = .ok (.dup, 1) := by decide +kernel
theorem dX2_keep_56 : decode cX2_keep 56 = .ok (.getfield 26, 3) := by decide +kernel
theorem dX2_keep_59 : decode cX2_keep 59 = .ok (.iconst 1, 1) := by decide +kernel
theorem dX2_keep_60 : decode cX2_keep 60 = .ok (.iadd, 1) := by decide +kernel
theorem dX2_keep_61 : decode cX2_keep 61 = .ok (.putfield 26, 3) := by decide +kernel
theorem dX2_keep_64 : decode cX2_keep 64 = .ok (.return_, 1) := by decide +kernel
set_option maxRecDepth 20000 in
theorem ggX2_restore_X2_at : GoodIn wsX2_restore wsX2_at := goodIn_r _ [6, 7, 8, 9, 44, 45, 46, 47] (by decide +kernel) (by decide +kernel)
set_option maxRecDepth 20000 in
theorem gX2_restore_X2_at : GoodIn wsX2_restore (wsV RX2 29 RX2 yX2_at wsX2_at) := goodIn_app (goodIn_of _ (by decide +kernel)) ggX2_restore_X2_at
set_option maxRecDepth 20000 in
theorem ggX2_restore_X3_copyFrom : GoodIn wsX2_restore wsX3_copyFrom := goodIn_r _ [14, 15, 16, 17, 18, 19, 20, 13, 21, 22, 23, 24, 25, 26, 27, 28, 29, 30, 31, 32, 33, 34, 35, 36, 37, 38, 39, 40, 41, 42, 43, 48, 49, 50, 51, 52, 53, 54, 55, 56] (by decide +kernel) (by decide +kernel)
set_option maxRecDepth 20000 in
theorem gX2_restore_X3_copyFrom : GoodIn wsX2_restore (wsV RX2 33 RX3 yX3_copyFrom wsX3_copyFrom) := goodIn_app (goodIn_of _ (by decide +kernel)) ggX2_restore_X3_copyFrom
theorem dX2_restore_0 : decode cX2_restore 0 = .ok (.aload_n 0, 1) := by decide +kernel
theorem dX2_restore_1 : decode cX2_restore 1 = .ok (.getfield 26, 3) := by decide +kernel
theorem dX2_restore_4 : decode cX2_restore 4 = .ok (.ifCond .le 25, 3) := by decide +kernel
theorem dX2_restore_7 : decode cX2_restore 7 = .ok (.aload_n 0, 1) := by decide +kernel
theorem dX2_restore_8 : decode cX2_restore 8 = .ok (.dup, 1) := by decide +kernel
theorem dX2_restore_9 : decode cX2_restore 9 = .ok (.getfield 26, 3) := by decide +kernel
theorem dX2_restore_12 : decode cX2_restore 12 = .ok (.iconst 1, 1) := by decide +kernel
theorem dX2_restore_13 : decode cX2_restore 13 = .ok (.isub, 1) := by decide +kernel
theorem dX2_restore_14 : decode cX2_restore 14 = .ok (.putfield 26, 3) := by decide +kernel
theorem dX2_restore_17 : decode cX2_restore 17 = .ok (.aload_n 1, 1) := by decide +kernel
theorem dX2_restore_18 : decode cX2_restore 18 = .ok (.aload_n 0, 1) := by decide +kernel
theorem dX2_restore_19 : decode cX2_restore 19 = .ok (.aload_n 0, 1) := by decide +kernel
theorem dX2_restore_20 : decode cX2_restore 20 = .ok (.getfield 26, 3) := by decide +kernel
theorem dX2_restore_23 : decode cX2_restore 23 = .ok (.invokevirtual 29, 3) := by decide +kernel
theorem dX2_restore_26 : decode cX2_restore 26 = .ok (.invokevirtual 33, 3) := by decide +kernel
theorem dX2_restore_29 : decode cX2_restore 29 = .ok (.return_, 1) := by decide +kernel
set_option maxRecDepth 20000 in
theorem ggX3_init_X0_init : GoodIn wsX3_init wsX0_init := goodIn_r _ [15, 16, 2, 3, 17, 18, 19, 20, 27, 28, 29] (by decide +kernel) (by decide +kernel)
set_option maxRecDepth 20000 in
theorem gX3_init_X0_init : GoodIn wsX3_init (wsX0_init) := ggX3_init_X0_init
theorem dX3_init_0 : decode cX3_init 0 = .ok (.aload_n 0, 1) := by decide +kernel
theorem dX3_init_1 : decode cX3_init 1 = .ok (.invokespecial 3, 3) := by decide +kernel
theorem dX3_init_4 : decode cX3_init 4 = .ok (.aload_n 0, 1) := by decide +kernel
theorem dX3_init_5 : decode cX3_init 5 = .ok (.bipush 8, 2) := by decide +kernel
theorem dX3_init_7 : decode cX3_init 7 = .ok (.anewarray 9, 3) := by decide +kernel
theorem dX3_init_10 : decode cX3_init 10 = .ok (.putfield 11, 3) := by decide +kernel
theorem dX3_init_13 : decode cX3_init 13 = .ok (.iconst 0, 1) := by decide +kernel
theorem dX3_init_14 : decode cX3_init 14 = .ok (.istore_n 1, 1) := by decide +kernel
theorem dX3_init_15 : decode cX3_init 15 = .ok (.iload_n 1, 1) := by decide +kernel
theorem dX3_init_16 : decode cX3_init 16 = .ok (.aload_n 0, 1) := by decide +kernel
theorem dX3_init_17 : decode cX3_init 17 = .ok (.getfield 11, 3) := by decide +kernel
theorem dX3_init_20 : decode cX3_init 20 = .ok (.arraylength, 1) := by decide +kernel
theorem dX3_init_21 : decode cX3_init 21 = .ok (.if_icmp .ge 22, 3) := by decide +kernel
theorem dX3_init_24 : decode cX3_init 24 = .ok (.aload_n 0, 1) := by decide +kernel
theorem dX3_init_25 : decode cX3_init 25 = .ok (.getfield 11, 3) := by decide +kernel
theorem dX3_init_28 : decode cX3_init 28 = .ok (.iload_n 1, 1) := by decide +kernel
theorem dX3_init_29 : decode cX3_init 29 = .ok (.new 9, 3) := by decide +kernel
theorem dX3_init_32 : decode cX3_init 32 = .ok (.dup, 1) := by decide +kernel
theorem dX3_init_33 : decode cX3_init 33 = .ok (.invokespecial 17, 3) := by decide +kernel
theorem dX3_init_36 : decode cX3_init 36 = .ok (.aastore, 1) := by decide +kernel
theorem dX3_init_37 : decode cX3_init 37 = .ok (.iinc 1 1, 3) := by decide +kernel
theorem dX3_init_40 : decode cX3_init 40 = .ok (.goto (-25), 3) := by decide +kernel
theorem dX3_init_43 : decode cX3_init 43 = .ok (.aload_n 0, 1) := by decide +kernel
theorem dX3_init_44 : decode cX3_init 44 = .ok (.new 9, 3) := by decide +kernel
theorem dX3_init_47 : decode cX3_init 47 = .ok (.dup, 1) := by decide +kernel
theorem dX3_init_48 : decode cX3_init 48 = .ok (.invokespecial 17, 3) := by decide +kernel
theorem dX3_init_51 : decode cX3_init 51 = .ok (.putfield 18, 3) := by decide +kernel
theorem dX3_init_54 : decode cX3_init 54 = .ok (.aload_n 0, 1) := by decide +kernel
theorem dX3_init_55 : decode cX3_init 55 = .ok (.new 9, 3) := by decide +kernel
theorem dX3_init_58 : decode cX3_init 58 = .ok (.dup, 1) := by decide +kernel
theorem dX3_init_59 : decode cX3_init 59 = .ok (.invokespecial 17, 3) := by decide +kernel
theorem dX3_init_62 : decode cX3_init 62 = .ok (.putfield 22, 3) := by decide +kernel
theorem dX3_init_65 : decode cX3_init 65 = .ok (.aload_n 0, 1) := by decide +kernel
theorem dX3_init_66 : decode cX3_init 66 = .ok (.iconst 0, 1) := by decide +kernel
theorem dX3_init_67 : decode cX3_init 67 = .ok (.putfield 25, 3) := by decide +kernel
theorem dX3_init_70 : decode cX3_init 70 = .ok (.aload_n 0, 1) := by decide +kernel
theorem dX3_init_71 : decode cX3_init 71 = .ok (.bipush 20, 2) := by decide +kernel
theorem dX3_init_73 : decode cX3_init 73 = .ok (.putfield 29, 3) := by decide +kernel
theorem dX3_init_76 : decode cX3_init 76 = .ok (.aload_n 0, 1) := by decide +kernel
theorem dX3_init_77 : decode cX3_init 77 = .ok (.bipush 20, 2) := by decide +kernel
theorem dX3_init_79 : decode cX3_init 79 = .ok (.putfield 32, 3) := by decide +kernel
theorem dX3_init_82 : decode cX3_init 82 = .ok (.return_, 1) := by decide +kernel
theorem dX3_has_0 : decode cX3_has 0 = .ok (.iload_n 1, 1) := by decide +kernel
theorem dX3_has_1 : decode cX3_has 1 = .ok (.ifCond .lt 15, 3) := by decide +kernel
theorem dX3_has_4 : decode cX3_has 4 = .ok (.iload_n 1, 1) := by decide +kernel
theorem dX3_has_5 : decode cX3_has 5 = .ok (.aload_n 0, 1) := by decide +kernel
theorem dX3_has_6 : decode cX3_has 6 = .ok (.getfield 25, 3) := by decide +kernel
theorem dX3_has_9 : decode cX3_has 9 = .ok (.if_icmp .ge 7, 3) := by decide +kernel
theorem dX3_has_12 : decode cX3_has 12 = .ok (.iconst 1, 1) := by decide +kernel
theorem dX3_has_13 : decode cX3_has 13 = .ok (.goto 4, 3) := by decide +kernel
theorem dX3_has_16 : decode cX3_has 16 = .ok (.iconst 0, 1) := by decide +kernel
theorem dX3_has_17 : decode cX3_has 17 = .ok (.ireturn, 1) := by decide +kernel
theorem dX3_at_0 : decode cX3_at 0 = .ok (.iload_n 1, 1) := by decide +kernel
theorem dX3_at_1 : decode cX3_at 1 = .ok (.ifCond .lt 21, 3) := by decide +kernel
theorem dX3_at_4 : decode cX3_at 4 = .ok (.iload_n 1, 1) := by decide +kernel
theorem dX3_at_5 : decode cX3_at 5 = .ok (.aload_n 0, 1) := by decide +kernel
theorem dX3_at_6 : decode cX3_at 6 = .ok (.getfield 11, 3) := by decide +kernel
theorem dX3_at_9 : decode cX3_at 9 = .ok (.arraylength, 1) := by decide +kernel
theorem dX3_at_10 : decode cX3_at 10 = .ok (.if_icmp .ge 12, 3) := by decide +kernel
theorem dX3_at_13 : decode cX3_at 13 = .ok (.aload_n 0, 1) := by decide +kernel
theorem dX3_at_14 : decode cX3_at 14 = .ok (.getfield 11, 3) := by decide +kernel
theorem dX3_at_17 : decode cX3_at 17 = .ok (.iload_n 1, 1) := by decide +kernel
theorem dX3_at_18 : decode cX3_at 18 = .ok (.aaload, 1) := by decide +kernel
theorem dX3_at_19 : decode cX3_at 19 = .ok (.ifnonnull 8, 3) := by decide +kernel
theorem dX3_at_22 : decode cX3_at 22 = .ok (.aload_n 0, 1) := by decide +kernel
theorem dX3_at_23 : decode cX3_at 23 = .ok (.getfield 18, 3) := by decide +kernel
theorem dX3_at_26 : decode cX3_at 26 = .ok (.areturn, 1) := by decide +kernel
theorem dX3_at_27 : decode cX3_at 27 = .ok (.aload_n 0, 1) := by decide +kernel
theorem dX3_at_28 : decode cX3_at 28 = .ok (.getfield 11, 3) := by decide +kernel
theorem dX3_at_31 : decode cX3_at 31 = .ok (.iload_n 1, 1) := by decide +kernel
theorem dX3_at_32 : decode cX3_at 32 = .ok (.aaload, 1) := by decide +kernel
theorem dX3_at_33 : decode cX3_at 33 = .ok (.areturn, 1) := by decide +kernel
set_option maxRecDepth 20000 in
theorem ggX3_copyFrom_X3_at : GoodIn wsX3_copyFrom wsX3_at := goodIn_r _ [8, 9, 10, 31, 32, 33, 34, 35, 36] (by decide +kernel) (by decide +kernel)
set_option maxRecDepth 20000 in
theorem gX3_copyFrom_X3_at : GoodIn wsX3_copyFrom (wsV RX3 35 RX3 yX3_at wsX3_at) := goodIn_app (goodIn_of _ (by decide +kernel)) ggX3_copyFrom_X3_at
set_option maxRecDepth 20000 in
theorem ggX3_copyFrom_X0_copyFrom : GoodIn wsX3_copyFrom wsX0_copyFrom := goodIn_r _ [15, 16, 17, 18, 19, 14, 20, 21, 22, 23, 24, 25, 26, 27, 28, 29, 30, 37, 38, 39] (by decide +kernel) (by decide +kernel)
set_option maxRecDepth 20000 in
theorem gX3_copyFrom_X0_copyFrom : GoodIn wsX3_copyFrom (wsV RX3 39 RX0 yX0_copyFrom wsX0_copyFrom) := goodIn_app (goodIn_of _ (by decide +kernel)) ggX3_copyFrom_X0_copyFrom
theorem dX3_copyFrom_0 : decode cX3_copyFrom 0 = .ok (.aload_n 0, 1) := by decide +kernel
theorem dX3_copyFrom_1 : decode cX3_copyFrom 1 = .ok (.aload_n 1, 1) := by decide +kernel
theorem dX3_copyFrom_2 : decode cX3_copyFrom 2 = .ok (.getfield 25, 3) := by decide +kernel
theorem dX3_copyFrom_5 : decode cX3_copyFrom 5 = .ok (.putfield 25, 3) := by decide +kernel
theorem dX3_copyFrom_8 : decode cX3_copyFrom 8 = .ok (.aload_n 0, 1) := by decide +kernel
theorem dX3_copyFrom_9 : decode cX3_copyFrom 9 = .ok (.aload_n 1, 1) := by decide +kernel
theorem dX3_copyFrom_10 : decode cX3_copyFrom 10 = .ok (.getfield 29, 3) := by decide +kernel
theorem dX3_copyFrom_13 : decode cX3_copyFrom 13 = .ok (.putfield 29, 3) := by decide +kernel
theorem dX3_copyFrom_16 : decode cX3_copyFrom 16 = .ok (.aload_n 0, 1) := by decide +kernel
theorem dX3_copyFrom_17 : decode cX3_copyFrom 17 = .ok (.aload_n 1, 1) := by decide +kernel
theorem dX3_copyFrom_18 : decode cX3_copyFrom 18 = .ok (.getfield 32, 3) := by decide +kernel
theorem dX3_copyFrom_21 : decode cX3_copyFrom 21 = .ok (.putfield 32, 3) := by decide +kernel
theorem dX3_copyFrom_24 : decode cX3_copyFrom 24 = .ok (.iconst 0, 1) := by decide +kernel
theorem dX3_copyFrom_25 : decode cX3_copyFrom 25 = .ok (.istore_n 2, 1) := by decide +kernel
theorem dX3_copyFrom_26 : decode cX3_copyFrom 26 = .ok (.iload_n 2, 1) := by decide +kernel
theorem dX3_copyFrom_27 : decode cX3_copyFrom 27 = .ok (.aload_n 0, 1) := by decide +kernel
theorem dX3_copyFrom_28 : decode cX3_copyFrom 28 = .ok (.getfield 25, 3) := by decide +kernel
theorem dX3_copyFrom_31 : decode cX3_copyFrom 31 = .ok (.if_icmp .ge 22, 3) := by decide +kernel
theorem dX3_copyFrom_34 : decode cX3_copyFrom 34 = .ok (.aload_n 0, 1) := by decide +kernel
theorem dX3_copyFrom_35 : decode cX3_copyFrom 35 = .ok (.iload_n 2, 1) := by decide +kernel
theorem dX3_copyFrom_36 : decode cX3_copyFrom 36 = .ok (.invokevirtual 35, 3) := by decide +kernel
theorem dX3_copyFrom_39 : decode cX3_copyFrom 39 = .ok (.aload_n 1, 1) := by decide +kernel
theorem dX3_copyFrom_40 : decode cX3_copyFrom 40 = .ok (.iload_n 2, 1) := by decide +kernel
theorem dX3_copyFrom_41 : decode cX3_copyFrom 41 = .ok (.invokevirtual 35, 3) := by decide +kernel
theorem dX3_copyFrom_44 : decode cX3_copyFrom 44 = .ok (.invokevirtual 39, 3) := by decide +kernel
theorem dX3_copyFrom_47 : decode cX3_copyFrom 47 = .ok (.iinc 2 1, 3) := by decide +kernel
theorem dX3_copyFrom_50 : decode cX3_copyFrom 50 = .ok (.goto (-24), 3) := by decide +kernel
theorem dX3_copyFrom_53 : decode cX3_copyFrom 53 = .ok (.return_, 1) := by decide +kernel
set_option maxRecDepth 20000 in
theorem ggX3_add_X3_at : GoodIn wsX3_add wsX3_at := goodIn_r _ [6, 7, 8, 29, 30, 31, 32, 33, 34] (by decide +kernel) (by decide +kernel)
set_option maxRecDepth 20000 in
theorem gX3_add_X3_at : GoodIn wsX3_add (wsV RX3 35 RX3 yX3_at wsX3_at) := goodIn_app (goodIn_of _ (by decide +kernel)) ggX3_add_X3_at
set_option maxRecDepth 20000 in
theorem ggX3_add_X0_copyFrom : GoodIn wsX3_add wsX0_copyFrom := goodIn_r _ [13, 14, 15, 16, 17, 12, 18, 19, 20, 21, 22, 23, 24, 25, 26, 27, 28, 35, 36, 37] (by decide +kernel) (by decide +kernel)
set_option maxRecDepth 20000 in
theorem gX3_add_X0_copyFrom : GoodIn wsX3_add (wsV RX3 39 RX0 yX0_copyFrom wsX0_copyFrom) := goodIn_app (goodIn_of _ (by decide +kernel)) ggX3_add_X0_copyFrom
theorem dX3_add_0 : decode cX3_add 0 = .ok (.aload_n 0, 1) := by decide +kernel
theorem dX3_add_1 : decode cX3_add 1 = .ok (.aload_n 0, 1) := by decide +kernel
theorem dX3_add_2 : decode cX3_add 2 = .ok (.getfield 25, 3) := by decide +kernel
theorem dX3_add_5 : decode cX3_add 5 = .ok (.invokevirtual 35, 3) := by decide +kernel
theorem dX3_add_8 : decode cX3_add 8 = .ok (.aload_n 1, 1) := by decide +kernel
theorem dX3_add_9 : decode cX3_add 9 = .ok (.invokevirtual 39, 3) := by decide +kernel
theorem dX3_add_12 : decode cX3_add 12 = .ok (.aload_n 0, 1) := by decide +kernel
theorem dX3_add_13 : decode cX3_add 13 = .ok (.dup, 1) := by decide +kernel
theorem dX3_add_14 : decode cX3_add 14 = .ok (.getfield 25, 3) := by decide +kernel
theorem dX3_add_17 : decode cX3_add 17 = .ok (.iconst 1, 1) := by decide +kernel
theorem dX3_add_18 : decode cX3_add 18 = .ok (.iadd, 1) := by decide +kernel
theorem dX3_add_19 : decode cX3_add 19 = .ok (.putfield 25, 3) := by decide +kernel
theorem dX3_add_22 : decode cX3_add 22 = .ok (.aload_n 0, 1) := by decide +kernel
theorem dX3_add_23 : decode cX3_add 23 = .ok (.getfield 25, 3) := by decide +kernel
end
section
theorem dX3_add_26 : decode cX3_add 26 = .ok (.iconst 1, 1) := by decide +kernel
theorem dX3_add_27 : decode cX3_add 27 = .ok (.isub, 1) := by decide +kernel
theorem dX3_add_28 : decode cX3_add 28 = .ok (.ireturn, 1) := by decide +kernel
set_option maxRecDepth 20000 in
theorem ggX3_takeOut_X3_at : GoodIn wsX3_takeOut wsX3_at := goodIn_r _ [6, 7, 8, 29, 30, 31, 32, 33, 34] (by decide +kernel) (by decide +kernel)
set_option maxRecDepth 20000 in
theorem gX3_takeOut_X3_at : GoodIn wsX3_takeOut (wsV RX3 35 RX3 yX3_at wsX3_at) := goodIn_app (goodIn_of _ (by decide +kernel)) ggX3_takeOut_X3_at
set_option maxRecDepth 20000 in
theorem ggX3_takeOut_X0_copyFrom : GoodIn wsX3_takeOut wsX0_copyFrom := goodIn_r _ [13, 14, 15, 16, 17, 12, 18, 19, 20, 21, 22, 23, 24, 25, 26, 27, 28, 35, 36, 37] (by decide +kernel) (by decide +kernel)
set_option maxRecDepth 20000 in
theorem gX3_takeOut_X0_copyFrom : GoodIn wsX3_takeOut (wsV RX3 39 RX0 yX0_copyFrom wsX0_copyFrom) := goodIn_app (goodIn_of _ (by decide +kernel)) ggX3_takeOut_X0_copyFrom
theorem dX3_takeOut_0 : decode cX3_takeOut 0 = .ok (.iload_n 1, 1) := by decide +kernel
theorem dX3_takeOut_1 : decode cX3_takeOut 1 = .ok (.istore_n 2, 1) := by decide +kernel
theorem dX3_takeOut_2 : decode cX3_takeOut 2 = .ok (.iload_n 2, 1) := by decide +kernel
theorem dX3_takeOut_3 : decode cX3_takeOut 3 = .ok (.iconst 1, 1) := by decide +kernel
theorem dX3_takeOut_4 : decode cX3_takeOut 4 = .ok (.iadd, 1) := by decide +kernel
theorem dX3_takeOut_5 : decode cX3_takeOut 5 = .ok (.aload_n 0, 1) := by decide +kernel
theorem dX3_takeOut_6 : decode cX3_takeOut 6 = .ok (.getfield 25, 3) := by decide +kernel
theorem dX3_takeOut_9 : decode cX3_takeOut 9 = .ok (.if_icmp .ge 24, 3) := by decide +kernel
theorem dX3_takeOut_12 : decode cX3_takeOut 12 = .ok (.aload_n 0, 1) := by decide +kernel
theorem dX3_takeOut_13 : decode cX3_takeOut 13 = .ok (.iload_n 2, 1) := by decide +kernel
theorem dX3_takeOut_14 : decode cX3_takeOut 14 = .ok (.invokevirtual 35, 3) := by decide +kernel
theorem dX3_takeOut_17 : decode cX3_takeOut 17 = .ok (.aload_n 0, 1) := by decide +kernel
theorem dX3_takeOut_18 : decode cX3_takeOut 18 = .ok (.iload_n 2, 1) := by decide +kernel
theorem dX3_takeOut_19 : decode cX3_takeOut 19 = .ok (.iconst 1, 1) := by decide +kernel
theorem dX3_takeOut_20 : decode cX3_takeOut 20 = .ok (.iadd, 1) := by decide +kernel
theorem dX3_takeOut_21 : decode cX3_takeOut 21 = .ok (.invokevirtual 35, 3) := by decide +kernel
theorem dX3_takeOut_24 : decode cX3_takeOut 24 = .ok (.invokevirtual 39, 3) := by decide +kernel
theorem dX3_takeOut_27 : decode cX3_takeOut 27 = .ok (.iinc 2 1, 3) := by decide +kernel
theorem dX3_takeOut_30 : decode cX3_takeOut 30 = .ok (.goto (-28), 3) := by decide +kernel
theorem dX3_takeOut_33 : decode cX3_takeOut 33 = .ok (.aload_n 0, 1) := by decide +kernel
theorem dX3_takeOut_34 : decode cX3_takeOut 34 = .ok (.dup, 1) := by decide +kernel
theorem dX3_takeOut_35 : decode cX3_takeOut 35 = .ok (.getfield 25, 3) := by decide +kernel
theorem dX3_takeOut_38 : decode cX3_takeOut 38 = .ok (.iconst 1, 1) := by decide +kernel
theorem dX3_takeOut_39 : decode cX3_takeOut 39 = .ok (.isub, 1) := by decide +kernel
theorem dX3_takeOut_40 : decode cX3_takeOut 40 = .ok (.putfield 25, 3) := by decide +kernel
theorem dX3_takeOut_43 : decode cX3_takeOut 43 = .ok (.return_, 1) := by decide +kernel
set_option maxRecDepth 20000 in
theorem ggX3_fitsInto_X3_at : GoodIn wsX3_fitsInto wsX3_at := goodIn_r _ [6, 7, 8, 48, 49, 50, 51, 52, 53] (by decide +kernel) (by decide +kernel)
set_option maxRecDepth 20000 in
theorem gX3_fitsInto_X3_at : GoodIn wsX3_fitsInto (wsV RX3 35 RX3 yX3_at wsX3_at) := goodIn_app (goodIn_of _ (by decide +kernel)) ggX3_fitsInto_X3_at
set_option maxRecDepth 20000 in
theorem ggX3_fitsInto_X0_wallsBeyond : GoodIn wsX3_fitsInto wsX0_wallsBeyond := goodIn_r _ [13, 14, 15, 16, 12, 17, 18, 19, 20, 21, 22, 23, 24, 25, 26, 27, 28, 29, 30, 31, 32, 33, 34, 35, 36, 37, 38, 39, 40, 41, 42, 43, 44, 45, 46, 47, 54, 55, 56] (by decide +kernel) (by decide +kernel)
set_option maxRecDepth 20000 in
theorem gX3_fitsInto_X0_wallsBeyond : GoodIn wsX3_fitsInto (wsV RX3 43 RX0 yX0_wallsBeyond wsX0_wallsBeyond) := goodIn_app (goodIn_of _ (by decide +kernel)) ggX3_fitsInto_X0_wallsBeyond
theorem dX3_fitsInto_0 : decode cX3_fitsInto 0 = .ok (.iconst 0, 1) := by decide +kernel
theorem dX3_fitsInto_1 : decode cX3_fitsInto 1 = .ok (.istore_n 3, 1) := by decide +kernel
theorem dX3_fitsInto_2 : decode cX3_fitsInto 2 = .ok (.iload_n 3, 1) := by decide +kernel
theorem dX3_fitsInto_3 : decode cX3_fitsInto 3 = .ok (.aload_n 0, 1) := by decide +kernel
theorem dX3_fitsInto_4 : decode cX3_fitsInto 4 = .ok (.getfield 25, 3) := by decide +kernel
theorem dX3_fitsInto_7 : decode cX3_fitsInto 7 = .ok (.if_icmp .ge 24, 3) := by decide +kernel
theorem dX3_fitsInto_10 : decode cX3_fitsInto 10 = .ok (.aload_n 0, 1) := by decide +kernel
theorem dX3_fitsInto_11 : decode cX3_fitsInto 11 = .ok (.iload_n 3, 1) := by decide +kernel
theorem dX3_fitsInto_12 : decode cX3_fitsInto 12 = .ok (.invokevirtual 35, 3) := by decide +kernel
theorem dX3_fitsInto_15 : decode cX3_fitsInto 15 = .ok (.iload_n 1, 1) := by decide +kernel
theorem dX3_fitsInto_16 : decode cX3_fitsInto 16 = .ok (.iload_n 2, 1) := by decide +kernel
theorem dX3_fitsInto_17 : decode cX3_fitsInto 17 = .ok (.invokevirtual 43, 3) := by decide +kernel
theorem dX3_fitsInto_20 : decode cX3_fitsInto 20 = .ok (.ifCond .eq 5, 3) := by decide +kernel
theorem dX3_fitsInto_23 : decode cX3_fitsInto 23 = .ok (.iconst 0, 1) := by decide +kernel
theorem dX3_fitsInto_24 : decode cX3_fitsInto 24 = .ok (.ireturn, 1) := by decide +kernel
theorem dX3_fitsInto_25 : decode cX3_fitsInto 25 = .ok (.iinc 3 1, 3) := by decide +kernel
theorem dX3_fitsInto_28 : decode cX3_fitsInto 28 = .ok (.goto (-26), 3) := by decide +kernel
theorem dX3_fitsInto_31 : decode cX3_fitsInto 31 = .ok (.iconst 1, 1) := by decide +kernel
theorem dX3_fitsInto_32 : decode cX3_fitsInto 32 = .ok (.ireturn, 1) := by decide +kernel
set_option maxRecDepth 20000 in
theorem ggX3_overlapped_X3_at : GoodIn wsX3_overlapped wsX3_at := goodIn_r _ [6, 7, 8, 44, 45, 46, 47, 48, 49] (by decide +kernel) (by decide +kernel)
set_option maxRecDepth 20000 in
theorem gX3_overlapped_X3_at : GoodIn wsX3_overlapped (wsV RX3 35 RX3 yX3_at wsX3_at) := goodIn_app (goodIn_of _ (by decide +kernel)) ggX3_overlapped_X3_at
set_option maxRecDepth 20000 in
theorem ggX3_overlapped_X0_leastReach : GoodIn wsX3_overlapped wsX0_leastReach := goodIn_r _ [13, 14, 15, 16, 17, 18, 19, 20, 21, 12, 22, 23, 24, 25, 26, 27, 28, 29, 30, 31, 32, 33, 34, 35, 36, 37, 38, 39, 40, 41, 42, 43, 50, 51, 52] (by decide +kernel) (by decide +kernel)
set_option maxRecDepth 20000 in
theorem gX3_overlapped_X0_leastReach : GoodIn wsX3_overlapped (wsV RX3 47 RX0 yX0_leastReach wsX0_leastReach) := goodIn_app (goodIn_of _ (by decide +kernel)) ggX3_overlapped_X0_leastReach
theorem dX3_overlapped_0 : decode cX3_overlapped 0 = .ok (.iconst 0, 1) := by decide +kernel
theorem dX3_overlapped_1 : decode cX3_overlapped 1 = .ok (.istore_n 3, 1) := by decide +kernel
theorem dX3_overlapped_2 : decode cX3_overlapped 2 = .ok (.iconst 0, 1) := by decide +kernel
theorem dX3_overlapped_3 : decode cX3_overlapped 3 = .ok (.istore 4, 2) := by decide +kernel
theorem dX3_overlapped_5 : decode cX3_overlapped 5 = .ok (.iload 4, 2) := by decide +kernel
theorem dX3_overlapped_7 : decode cX3_overlapped 7 = .ok (.aload_n 0, 1) := by decide +kernel
theorem dX3_overlapped_8 : decode cX3_overlapped 8 = .ok (.getfield 25, 3) := by decide +kernel
theorem dX3_overlapped_11 : decode cX3_overlapped 11 = .ok (.if_icmp .ge 48, 3) := by decide +kernel
theorem dX3_overlapped_14 : decode cX3_overlapped 14 = .ok (.iload 4, 2) := by decide +kernel
theorem dX3_overlapped_16 : decode cX3_overlapped 16 = .ok (.iload_n 2, 1) := by decide +kernel
theorem dX3_overlapped_17 : decode cX3_overlapped 17 = .ok (.if_icmp .eq 36, 3) := by decide +kernel
theorem dX3_overlapped_20 : decode cX3_overlapped 20 = .ok (.aload_n 1, 1) := by decide +kernel
theorem dX3_overlapped_21 : decode cX3_overlapped 21 = .ok (.aload_n 0, 1) := by decide +kernel
theorem dX3_overlapped_22 : decode cX3_overlapped 22 = .ok (.iload 4, 2) := by decide +kernel
theorem dX3_overlapped_24 : decode cX3_overlapped 24 = .ok (.invokevirtual 35, 3) := by decide +kernel
theorem dX3_overlapped_27 : decode cX3_overlapped 27 = .ok (.invokevirtual 47, 3) := by decide +kernel
theorem dX3_overlapped_30 : decode cX3_overlapped 30 = .ok (.ifCond .le 23, 3) := by decide +kernel
theorem dX3_overlapped_33 : decode cX3_overlapped 33 = .ok (.aload_n 0, 1) := by decide +kernel
theorem dX3_overlapped_34 : decode cX3_overlapped 34 = .ok (.iload 4, 2) := by decide +kernel
theorem dX3_overlapped_36 : decode cX3_overlapped 36 = .ok (.invokevirtual 35, 3) := by decide +kernel
theorem dX3_overlapped_39 : decode cX3_overlapped 39 = .ok (.aload_n 1, 1) := by decide +kernel
theorem dX3_overlapped_40 : decode cX3_overlapped 40 = .ok (.invokevirtual 47, 3) := by decide +kernel
theorem dX3_overlapped_43 : decode cX3_overlapped 43 = .ok (.ifCond .le 10, 3) := by decide +kernel
theorem dX3_overlapped_46 : decode cX3_overlapped 46 = .ok (.iload_n 3, 1) := by decide +kernel
theorem dX3_overlapped_47 : decode cX3_overlapped 47 = .ok (.iconst 1, 1) := by decide +kernel
theorem dX3_overlapped_48 : decode cX3_overlapped 48 = .ok (.iload 4, 2) := by decide +kernel
theorem dX3_overlapped_50 : decode cX3_overlapped 50 = .ok (.ishl, 1) := by decide +kernel
theorem dX3_overlapped_51 : decode cX3_overlapped 51 = .ok (.ior, 1) := by decide +kernel
theorem dX3_overlapped_52 : decode cX3_overlapped 52 = .ok (.istore_n 3, 1) := by decide +kernel
theorem dX3_overlapped_53 : decode cX3_overlapped 53 = .ok (.iinc 4 1, 3) := by decide +kernel
theorem dX3_overlapped_56 : decode cX3_overlapped 56 = .ok (.goto (-51), 3) := by decide +kernel
theorem dX3_overlapped_59 : decode cX3_overlapped 59 = .ok (.iload_n 3, 1) := by decide +kernel
theorem dX3_overlapped_60 : decode cX3_overlapped 60 = .ok (.ireturn, 1) := by decide +kernel
set_option maxRecDepth 20000 in
theorem ggX3_touching_X3_at : GoodIn wsX3_touching wsX3_at := goodIn_r _ [10, 11, 12, 45, 46, 47, 48, 49, 50] (by decide +kernel) (by decide +kernel)
set_option maxRecDepth 20000 in
theorem gX3_touching_X3_at : GoodIn wsX3_touching (wsV RX3 35 RX3 yX3_at wsX3_at) := goodIn_app (goodIn_of _ (by decide +kernel)) ggX3_touching_X3_at
set_option maxRecDepth 20000 in
theorem ggX3_touching_X0_leastReach : GoodIn wsX3_touching wsX0_leastReach := goodIn_r _ [17, 18, 19, 3, 4, 5, 20, 21, 22, 16, 23, 24, 25, 26, 27, 28, 29, 30, 31, 32, 33, 34, 35, 36, 37, 38, 39, 40, 41, 42, 43, 44, 51, 52, 53] (by decide +kernel) (by decide +kernel)
set_option maxRecDepth 20000 in
theorem gX3_touching_X0_leastReach : GoodIn wsX3_touching (wsV RX3 47 RX0 yX0_leastReach wsX0_leastReach) := goodIn_app (goodIn_of _ (by decide +kernel)) ggX3_touching_X0_leastReach
theorem dX3_touching_0 : decode cX3_touching 0 = .ok (.aload_n 0, 1) := by decide +kernel
theorem dX3_touching_1 : decode cX3_touching 1 = .ok (.iload_n 1, 1) := by decide +kernel
theorem dX3_touching_2 : decode cX3_touching 2 = .ok (.invokevirtual 35, 3) := by decide +kernel
theorem dX3_touching_5 : decode cX3_touching 5 = .ok (.astore_n 2, 1) := by decide +kernel
theorem dX3_touching_6 : decode cX3_touching 6 = .ok (.iconst 0, 1) := by decide +kernel
theorem dX3_touching_7 : decode cX3_touching 7 = .ok (.istore_n 3, 1) := by decide +kernel
theorem dX3_touching_8 : decode cX3_touching 8 = .ok (.iconst 0, 1) := by decide +kernel
theorem dX3_touching_9 : decode cX3_touching 9 = .ok (.istore 4, 2) := by decide +kernel
theorem dX3_touching_11 : decode cX3_touching 11 = .ok (.iload 4, 2) := by decide +kernel
theorem dX3_touching_13 : decode cX3_touching 13 = .ok (.aload_n 0, 1) := by decide +kernel
theorem dX3_touching_14 : decode cX3_touching 14 = .ok (.getfield 25, 3) := by decide +kernel
theorem dX3_touching_17 : decode cX3_touching 17 = .ok (.if_icmp .ge 48, 3) := by decide +kernel
theorem dX3_touching_20 : decode cX3_touching 20 = .ok (.iload 4, 2) := by decide +kernel
theorem dX3_touching_22 : decode cX3_touching 22 = .ok (.iload_n 1, 1) := by decide +kernel
theorem dX3_touching_23 : decode cX3_touching 23 = .ok (.if_icmp .eq 36, 3) := by decide +kernel
theorem dX3_touching_26 : decode cX3_touching 26 = .ok (.aload_n 2, 1) := by decide +kernel
theorem dX3_touching_27 : decode cX3_touching 27 = .ok (.aload_n 0, 1) := by decide +kernel
theorem dX3_touching_28 : decode cX3_touching 28 = .ok (.iload 4, 2) := by decide +kernel
theorem dX3_touching_30 : decode cX3_touching 30 = .ok (.invokevirtual 35, 3) := by decide +kernel
theorem dX3_touching_33 : decode cX3_touching 33 = .ok (.invokevirtual 47, 3) := by decide +kernel
theorem dX3_touching_36 : decode cX3_touching 36 = .ok (.aload_n 0, 1) := by decide +kernel
theorem dX3_touching_37 : decode cX3_touching 37 = .ok (.iload 4, 2) := by decide +kernel
theorem dX3_touching_39 : decode cX3_touching 39 = .ok (.invokevirtual 35, 3) := by decide +kernel
theorem dX3_touching_42 : decode cX3_touching 42 = .ok (.aload_n 2, 1) := by decide +kernel
theorem dX3_touching_43 : decode cX3_touching 43 = .ok (.invokevirtual 47, 3) := by decide +kernel
theorem dX3_touching_46 : decode cX3_touching 46 = .ok (.invokestatic 51, 3) := by decide +kernel
theorem dX3_touching_49 : decode cX3_touching 49 = .ok (.ifCond .ne 10, 3) := by decide +kernel
theorem dX3_touching_52 : decode cX3_touching 52 = .ok (.iload_n 3, 1) := by decide +kernel
theorem dX3_touching_53 : decode cX3_touching 53 = .ok (.iconst 1, 1) := by decide +kernel
theorem dX3_touching_54 : decode cX3_touching 54 = .ok (.iload 4, 2) := by decide +kernel
theorem dX3_touching_56 : decode cX3_touching 56 = .ok (.ishl, 1) := by decide +kernel
theorem dX3_touching_57 : decode cX3_touching 57 = .ok (.ior, 1) := by decide +kernel
theorem dX3_touching_58 : decode cX3_touching 58 = .ok (.istore_n 3, 1) := by decide +kernel
theorem dX3_touching_59 : decode cX3_touching 59 = .ok (.iinc 4 1, 3) := by decide +kernel
theorem dX3_touching_62 : decode cX3_touching 62 = .ok (.goto (-51), 3) := by decide +kernel
theorem dX3_touching_65 : decode cX3_touching 65 = .ok (.iload_n 3, 1) := by decide +kernel
theorem dX3_touching_66 : decode cX3_touching 66 = .ok (.ireturn, 1) := by decide +kernel
set_option maxRecDepth 20000 in
theorem ggX3_touchingNone_X3_touching : GoodIn wsX3_touchingNone wsX3_touching := goodIn_r _ [6, 1, 7, 8, 9, 10, 11, 12, 13, 5, 14, 15, 16, 17, 18, 19, 20, 21, 22, 23, 24, 25, 26, 27, 28, 29, 30, 31, 32, 33, 34, 35, 36, 37, 38, 39, 40, 41, 42, 43, 44, 45, 46, 47, 48, 49, 50, 51, 52, 53, 54, 55, 56, 57] (by decide +kernel) (by decide +kernel)
set_option maxRecDepth 20000 in
theorem gX3_touchingNone_X3_touching : GoodIn wsX3_touchingNone (wsV RX3 56 RX3 yX3_touching wsX3_touching) := goodIn_app (goodIn_of _ (by decide +kernel)) ggX3_touchingNone_X3_touching
theorem dX3_touchingNone_0 : decode cX3_touchingNone 0 = .ok (.iconst 0, 1) := by decide +kernel
theorem dX3_touchingNone_1 : decode cX3_touchingNone 1 = .ok (.istore_n 1, 1) := by decide +kernel
theorem dX3_touchingNone_2 : decode cX3_touchingNone 2 = .ok (.iconst 0, 1) := by decide +kernel
theorem dX3_touchingNone_3 : decode cX3_touchingNone 3 = .ok (.istore_n 2, 1) := by decide +kernel
theorem dX3_touchingNone_4 : decode cX3_touchingNone 4 = .ok (.iload_n 2, 1) := by decide +kernel
theorem dX3_touchingNone_5 : decode cX3_touchingNone 5 = .ok (.aload_n 0, 1) := by decide +kernel
theorem dX3_touchingNone_6 : decode cX3_touchingNone 6 = .ok (.getfield 25, 3) := by decide +kernel
theorem dX3_touchingNone_9 : decode cX3_touchingNone 9 = .ok (.if_icmp .ge 23, 3) := by decide +kernel
theorem dX3_touchingNone_12 : decode cX3_touchingNone 12 = .ok (.aload_n 0, 1) := by decide +kernel
theorem dX3_touchingNone_13 : decode cX3_touchingNone 13 = .ok (.iload_n 2, 1) := by decide +kernel
theorem dX3_touchingNone_14 : decode cX3_touchingNone 14 = .ok (.invokevirtual 56, 3) := by decide +kernel
theorem dX3_touchingNone_17 : decode cX3_touchingNone 17 = .ok (.ifCond .ne 9, 3) := by decide +kernel
theorem dX3_touchingNone_20 : decode cX3_touchingNone 20 = .ok (.iload_n 1, 1) := by decide +kernel
theorem dX3_touchingNone_21 : decode cX3_touchingNone 21 = .ok (.iconst 1, 1) := by decide +kernel
theorem dX3_touchingNone_22 : decode cX3_touchingNone 22 = .ok (.iload_n 2, 1) := by decide +kernel
theorem dX3_touchingNone_23 : decode cX3_touchingNone 23 = .ok (.ishl, 1) := by decide +kernel
theorem dX3_touchingNone_24 : decode cX3_touchingNone 24 = .ok (.ior, 1) := by decide +kernel
theorem dX3_touchingNone_25 : decode cX3_touchingNone 25 = .ok (.istore_n 1, 1) := by decide +kernel
theorem dX3_touchingNone_26 : decode cX3_touchingNone 26 = .ok (.iinc 2 1, 3) := by decide +kernel
theorem dX3_touchingNone_29 : decode cX3_touchingNone 29 = .ok (.goto (-25), 3) := by decide +kernel
theorem dX3_touchingNone_32 : decode cX3_touchingNone 32 = .ok (.iload_n 1, 1) := by decide +kernel
theorem dX3_touchingNone_33 : decode cX3_touchingNone 33 = .ok (.ireturn, 1) := by decide +kernel
set_option maxRecDepth 20000 in
theorem ggX3_touchingPairs_X3_touching : GoodIn wsX3_touchingPairs wsX3_touching := goodIn_r _ [6, 1, 7, 8, 9, 10, 11, 12, 13, 5, 14, 15, 16, 17, 18, 19, 20, 21, 22, 23, 24, 25, 26, 27, 28, 29, 30, 31, 32, 33, 34, 35, 36, 37, 38, 39, 40, 41, 42, 43, 44, 45, 46, 47, 48, 56, 57, 58, 59, 60, 61, 62, 63, 64] (by decide +kernel) (by decide +kernel)
set_option maxRecDepth 20000 in
theorem gX3_touchingPairs_X3_touching : GoodIn wsX3_touchingPairs (wsV RX3 56 RX3 yX3_touching wsX3_touching) := goodIn_app (goodIn_of _ (by decide +kernel)) ggX3_touchingPairs_X3_touching
set_option maxRecDepth 20000 in
theorem ggX3_touchingPairs_J6_bitCount_0f7a4 : GoodIn wsX3_touchingPairs wsJ6_bitCount_0f7a4 := goodIn_r _ [52, 53, 54, 55] (by decide +kernel) (by decide +kernel)
set_option maxRecDepth 20000 in
theorem gX3_touchingPairs_J6_bitCount_0f7a4 : GoodIn wsX3_touchingPairs (va_wsS RX3 60 yJ6_bitCount_0f7a4 wsJ6_bitCount_0f7a4) := goodIn_app (goodIn_of _ (by decide +kernel)) ggX3_touchingPairs_J6_bitCount_0f7a4
theorem dX3_touchingPairs_0 : decode cX3_touchingPairs 0 = .ok (.iconst 0, 1) := by decide +kernel
theorem dX3_touchingPairs_1 : decode cX3_touchingPairs 1 = .ok (.istore_n 1, 1) := by decide +kernel
theorem dX3_touchingPairs_2 : decode cX3_touchingPairs 2 = .ok (.iconst 0, 1) := by decide +kernel
theorem dX3_touchingPairs_3 : decode cX3_touchingPairs 3 = .ok (.istore_n 2, 1) := by decide +kernel
theorem dX3_touchingPairs_4 : decode cX3_touchingPairs 4 = .ok (.iload_n 2, 1) := by decide +kernel
theorem dX3_touchingPairs_5 : decode cX3_touchingPairs 5 = .ok (.aload_n 0, 1) := by decide +kernel
theorem dX3_touchingPairs_6 : decode cX3_touchingPairs 6 = .ok (.getfield 25, 3) := by decide +kernel
theorem dX3_touchingPairs_9 : decode cX3_touchingPairs 9 = .ok (.if_icmp .ge 20, 3) := by decide +kernel
theorem dX3_touchingPairs_12 : decode cX3_touchingPairs 12 = .ok (.iload_n 1, 1) := by decide +kernel
theorem dX3_touchingPairs_13 : decode cX3_touchingPairs 13 = .ok (.aload_n 0, 1) := by decide +kernel
theorem dX3_touchingPairs_14 : decode cX3_touchingPairs 14 = .ok (.iload_n 2, 1) := by decide +kernel
theorem dX3_touchingPairs_15 : decode cX3_touchingPairs 15 = .ok (.invokevirtual 56, 3) := by decide +kernel
theorem dX3_touchingPairs_18 : decode cX3_touchingPairs 18 = .ok (.invokestatic 60, 3) := by decide +kernel
theorem dX3_touchingPairs_21 : decode cX3_touchingPairs 21 = .ok (.iadd, 1) := by decide +kernel
theorem dX3_touchingPairs_22 : decode cX3_touchingPairs 22 = .ok (.istore_n 1, 1) := by decide +kernel
theorem dX3_touchingPairs_23 : decode cX3_touchingPairs 23 = .ok (.iinc 2 1, 3) := by decide +kernel
theorem dX3_touchingPairs_26 : decode cX3_touchingPairs 26 = .ok (.goto (-22), 3) := by decide +kernel
theorem dX3_touchingPairs_29 : decode cX3_touchingPairs 29 = .ok (.iload_n 1, 1) := by decide +kernel
theorem dX3_touchingPairs_30 : decode cX3_touchingPairs 30 = .ok (.iconst 1, 1) := by decide +kernel
theorem dX3_touchingPairs_31 : decode cX3_touchingPairs 31 = .ok (.ishr, 1) := by decide +kernel
theorem dX3_touchingPairs_32 : decode cX3_touchingPairs 32 = .ok (.ireturn, 1) := by decide +kernel
set_option maxRecDepth 20000 in
theorem ggX3_touchingWalls_X3_at : GoodIn wsX3_touchingWalls wsX3_at := goodIn_r _ [8, 9, 10, 50, 51, 52, 53, 54, 55] (by decide +kernel) (by decide +kernel)
set_option maxRecDepth 20000 in
theorem gX3_touchingWalls_X3_at : GoodIn wsX3_touchingWalls (wsV RX3 35 RX3 yX3_at wsX3_at) := goodIn_app (goodIn_of _ (by decide +kernel)) ggX3_touchingWalls_X3_at
set_option maxRecDepth 20000 in
theorem ggX3_touchingWalls_X0_wallsTouched : GoodIn wsX3_touchingWalls wsX0_wallsTouched := goodIn_r _ [15, 16, 17, 18, 14, 19, 20, 21, 22, 23, 24, 25, 26, 27, 28, 29, 30, 31, 32, 33, 34, 35, 36, 37, 38, 39, 40, 41, 42, 43, 44, 45, 46, 47, 48, 49, 56, 57, 58] (by decide +kernel) (by decide +kernel)
set_option maxRecDepth 20000 in
theorem gX3_touchingWalls_X0_wallsTouched : GoodIn wsX3_touchingWalls (wsV RX3 65 RX0 yX0_wallsTouched wsX0_wallsTouched) := goodIn_app (goodIn_of _ (by decide +kernel)) ggX3_touchingWalls_X0_wallsTouched
theorem dX3_touchingWalls_0 : decode cX3_touchingWalls 0 = .ok (.iconst 0, 1) := by decide +kernel
theorem dX3_touchingWalls_1 : decode cX3_touchingWalls 1 = .ok (.istore_n 2, 1) := by decide +kernel
theorem dX3_touchingWalls_2 : decode cX3_touchingWalls 2 = .ok (.iconst 0, 1) := by decide +kernel
theorem dX3_touchingWalls_3 : decode cX3_touchingWalls 3 = .ok (.istore_n 3, 1) := by decide +kernel
theorem dX3_touchingWalls_4 : decode cX3_touchingWalls 4 = .ok (.iload_n 3, 1) := by decide +kernel
theorem dX3_touchingWalls_5 : decode cX3_touchingWalls 5 = .ok (.aload_n 0, 1) := by decide +kernel
theorem dX3_touchingWalls_6 : decode cX3_touchingWalls 6 = .ok (.getfield 25, 3) := by decide +kernel
theorem dX3_touchingWalls_9 : decode cX3_touchingWalls 9 = .ok (.if_icmp .ge 36, 3) := by decide +kernel
theorem dX3_touchingWalls_12 : decode cX3_touchingWalls 12 = .ok (.aload_n 0, 1) := by decide +kernel
theorem dX3_touchingWalls_13 : decode cX3_touchingWalls 13 = .ok (.iload_n 3, 1) := by decide +kernel
theorem dX3_touchingWalls_14 : decode cX3_touchingWalls 14 = .ok (.invokevirtual 35, 3) := by decide +kernel
theorem dX3_touchingWalls_17 : decode cX3_touchingWalls 17 = .ok (.aload_n 0, 1) := by decide +kernel
theorem dX3_touchingWalls_18 : decode cX3_touchingWalls 18 = .ok (.getfield 29, 3) := by decide +kernel
theorem dX3_touchingWalls_21 : decode cX3_touchingWalls 21 = .ok (.aload_n 0, 1) := by decide +kernel
theorem dX3_touchingWalls_22 : decode cX3_touchingWalls 22 = .ok (.getfield 32, 3) := by decide +kernel
theorem dX3_touchingWalls_25 : decode cX3_touchingWalls 25 = .ok (.invokevirtual 65, 3) := by decide +kernel
theorem dX3_touchingWalls_28 : decode cX3_touchingWalls 28 = .ok (.iload_n 1, 1) := by decide +kernel
theorem dX3_touchingWalls_29 : decode cX3_touchingWalls 29 = .ok (.iand, 1) := by decide +kernel
theorem dX3_touchingWalls_30 : decode cX3_touchingWalls 30 = .ok (.ifCond .eq 9, 3) := by decide +kernel
theorem dX3_touchingWalls_33 : decode cX3_touchingWalls 33 = .ok (.iload_n 2, 1) := by decide +kernel
theorem dX3_touchingWalls_34 : decode cX3_touchingWalls 34 = .ok (.iconst 1, 1) := by decide +kernel
theorem dX3_touchingWalls_35 : decode cX3_touchingWalls 35 = .ok (.iload_n 3, 1) := by decide +kernel
theorem dX3_touchingWalls_36 : decode cX3_touchingWalls 36 = .ok (.ishl, 1) := by decide +kernel
theorem dX3_touchingWalls_37 : decode cX3_touchingWalls 37 = .ok (.ior, 1) := by decide +kernel
theorem dX3_touchingWalls_38 : decode cX3_touchingWalls 38 = .ok (.istore_n 2, 1) := by decide +kernel
theorem dX3_touchingWalls_39 : decode cX3_touchingWalls 39 = .ok (.iinc 3 1, 3) := by decide +kernel
theorem dX3_touchingWalls_42 : decode cX3_touchingWalls 42 = .ok (.goto (-38), 3) := by decide +kernel
theorem dX3_touchingWalls_45 : decode cX3_touchingWalls 45 = .ok (.iload_n 2, 1) := by decide +kernel
theorem dX3_touchingWalls_46 : decode cX3_touchingWalls 46 = .ok (.ireturn, 1) := by decide +kernel
set_option maxRecDepth 20000 in
theorem ggX3_spread_X4_lowest : GoodIn wsX3_spread wsX4_lowest := goodIn_r _ [3] (by decide +kernel) (by decide +kernel)
set_option maxRecDepth 20000 in
theorem gX3_spread_X4_lowest_n68 : GoodIn wsX3_spread (wsX4_lowest) := ggX3_spread_X4_lowest
set_option maxRecDepth 20000 in
theorem ggX3_spread_X3_touching : GoodIn wsX3_spread wsX3_touching := goodIn_r _ [8, 9, 10, 11, 12, 13, 14, 15, 16, 7, 17, 18, 19, 20, 21, 22, 23, 24, 25, 26, 27, 28, 29, 30, 31, 32, 33, 34, 35, 36, 37, 38, 39, 40, 41, 42, 43, 44, 45, 46, 47, 48, 49, 2, 50, 51, 52, 53, 54, 55, 56, 57, 58, 59] (by decide +kernel) (by decide +kernel)
set_option maxRecDepth 20000 in
theorem gX3_spread_X3_touching : GoodIn wsX3_spread (wsV RX3 56 RX3 yX3_touching wsX3_touching) := goodIn_app (goodIn_of _ (by decide +kernel)) ggX3_spread_X3_touching
theorem dX3_spread_0 : decode cX3_spread 0 = .ok (.iload_n 1, 1) := by decide +kernel
theorem dX3_spread_1 : decode cX3_spread 1 = .ok (.istore_n 2, 1) := by decide +kernel
theorem dX3_spread_2 : decode cX3_spread 2 = .ok (.iconst 0, 1) := by decide +kernel
theorem dX3_spread_3 : decode cX3_spread 3 = .ok (.istore_n 3, 1) := by decide +kernel
theorem dX3_spread_4 : decode cX3_spread 4 = .ok (.iconst 0, 1) := by decide +kernel
theorem dX3_spread_5 : decode cX3_spread 5 = .ok (.istore 4, 2) := by decide +kernel
theorem dX3_spread_7 : decode cX3_spread 7 = .ok (.iload 4, 2) := by decide +kernel
theorem dX3_spread_9 : decode cX3_spread 9 = .ok (.bipush 8, 2) := by decide +kernel
theorem dX3_spread_11 : decode cX3_spread 11 = .ok (.if_icmp .ge 40, 3) := by decide +kernel
theorem dX3_spread_14 : decode cX3_spread 14 = .ok (.iload_n 3, 1) := by decide +kernel
theorem dX3_spread_15 : decode cX3_spread 15 = .ok (.iload_n 2, 1) := by decide +kernel
theorem dX3_spread_16 : decode cX3_spread 16 = .ok (.if_icmp .eq 35, 3) := by decide +kernel
theorem dX3_spread_19 : decode cX3_spread 19 = .ok (.iload_n 2, 1) := by decide +kernel
theorem dX3_spread_20 : decode cX3_spread 20 = .ok (.iload_n 3, 1) := by decide +kernel
theorem dX3_spread_21 : decode cX3_spread 21 = .ok (.iconst (-1), 1) := by decide +kernel
theorem dX3_spread_22 : decode cX3_spread 22 = .ok (.ixor, 1) := by decide +kernel
theorem dX3_spread_23 : decode cX3_spread 23 = .ok (.iand, 1) := by decide +kernel
theorem dX3_spread_24 : decode cX3_spread 24 = .ok (.invokestatic 68, 3) := by decide +kernel
theorem dX3_spread_27 : decode cX3_spread 27 = .ok (.istore 5, 2) := by decide +kernel
theorem dX3_spread_29 : decode cX3_spread 29 = .ok (.iload_n 3, 1) := by decide +kernel
theorem dX3_spread_30 : decode cX3_spread 30 = .ok (.iconst 1, 1) := by decide +kernel
theorem dX3_spread_31 : decode cX3_spread 31 = .ok (.iload 5, 2) := by decide +kernel
theorem dX3_spread_33 : decode cX3_spread 33 = .ok (.ishl, 1) := by decide +kernel
theorem dX3_spread_34 : decode cX3_spread 34 = .ok (.ior, 1) := by decide +kernel
theorem dX3_spread_35 : decode cX3_spread 35 = .ok (.istore_n 3, 1) := by decide +kernel
theorem dX3_spread_36 : decode cX3_spread 36 = .ok (.iload_n 2, 1) := by decide +kernel
theorem dX3_spread_37 : decode cX3_spread 37 = .ok (.aload_n 0, 1) := by decide +kernel
theorem dX3_spread_38 : decode cX3_spread 38 = .ok (.iload 5, 2) := by decide +kernel
theorem dX3_spread_40 : decode cX3_spread 40 = .ok (.invokevirtual 56, 3) := by decide +kernel
theorem dX3_spread_43 : decode cX3_spread 43 = .ok (.ior, 1) := by decide +kernel
theorem dX3_spread_44 : decode cX3_spread 44 = .ok (.istore_n 2, 1) := by decide +kernel
theorem dX3_spread_45 : decode cX3_spread 45 = .ok (.iinc 4 1, 3) := by decide +kernel
theorem dX3_spread_48 : decode cX3_spread 48 = .ok (.goto (-41), 3) := by decide +kernel
theorem dX3_spread_51 : decode cX3_spread 51 = .ok (.iload_n 2, 1) := by decide +kernel
theorem dX3_spread_52 : decode cX3_spread 52 = .ok (.ireturn, 1) := by decide +kernel
set_option maxRecDepth 20000 in
theorem ggX3_freeSteps_X3_at : GoodIn wsX3_freeSteps wsX3_at := goodIn_r _ [8, 9, 10, 89, 90, 91, 92, 93, 94] (by decide +kernel) (by decide +kernel)
set_option maxRecDepth 20000 in
theorem gX3_freeSteps_X3_at : GoodIn wsX3_freeSteps (wsV RX3 35 RX3 yX3_at wsX3_at) := goodIn_app (goodIn_of _ (by decide +kernel)) ggX3_freeSteps_X3_at
set_option maxRecDepth 20000 in
theorem ggX3_freeSteps_X0_copyFrom : GoodIn wsX3_freeSteps wsX0_copyFrom := goodIn_r _ [15, 16, 17, 18, 19, 14, 20, 21, 22, 23, 24, 25, 26, 27, 28, 29, 30, 95, 96, 97] (by decide +kernel) (by decide +kernel)
set_option maxRecDepth 20000 in
theorem gX3_freeSteps_X0_copyFrom : GoodIn wsX3_freeSteps (wsV RX3 39 RX0 yX0_copyFrom wsX0_copyFrom) := goodIn_app (goodIn_of _ (by decide +kernel)) ggX3_freeSteps_X0_copyFrom
set_option maxRecDepth 20000 in
theorem ggX3_freeSteps_X4_stepX : GoodIn wsX3_freeSteps wsX4_stepX := goodIn_r _ [33, 34] (by decide +kernel) (by decide +kernel)
set_option maxRecDepth 20000 in
theorem gX3_freeSteps_X4_stepX_n71 : GoodIn wsX3_freeSteps (wsX4_stepX) := ggX3_freeSteps_X4_stepX
set_option maxRecDepth 20000 in
theorem ggX3_freeSteps_X4_stepY : GoodIn wsX3_freeSteps wsX4_stepY := goodIn_r _ [36, 37] (by decide +kernel) (by decide +kernel)
set_option maxRecDepth 20000 in
theorem gX3_freeSteps_X4_stepY_n74 : GoodIn wsX3_freeSteps (wsX4_stepY) := ggX3_freeSteps_X4_stepY
set_option maxRecDepth 20000 in
theorem ggX3_freeSteps_X0_move : GoodIn wsX3_freeSteps wsX0_move := goodIn_r _ [41, 16, 17, 18, 19, 14, 20, 21, 22, 23, 24, 25, 26, 27, 28, 29, 30, 95, 96, 97] (by decide +kernel) (by decide +kernel)
set_option maxRecDepth 20000 in
theorem gX3_freeSteps_X0_move : GoodIn wsX3_freeSteps (wsV RX3 77 RX0 yX0_move wsX0_move) := goodIn_app (goodIn_of _ (by decide +kernel)) ggX3_freeSteps_X0_move
set_option maxRecDepth 20000 in
theorem ggX3_freeSteps_X0_wallsBeyond : GoodIn wsX3_freeSteps wsX0_wallsBeyond := goodIn_r _ [45, 46, 47, 48, 14, 49, 16, 50, 51, 52, 53, 17, 18, 19, 20, 21, 54, 55, 56, 57, 58, 59, 60, 61, 62, 63, 64, 22, 23, 24, 25, 26, 65, 66, 67, 68, 95, 96, 97] (by decide +kernel) (by decide +kernel)
set_option maxRecDepth 20000 in
theorem gX3_freeSteps_X0_wallsBeyond : GoodIn wsX3_freeSteps (wsV RX3 43 RX0 yX0_wallsBeyond wsX0_wallsBeyond) := goodIn_app (goodIn_of _ (by decide +kernel)) ggX3_freeSteps_X0_wallsBeyond
set_option maxRecDepth 20000 in
theorem ggX3_freeSteps_X3_overlapped : GoodIn wsX3_freeSteps wsX3_overlapped := goodIn_r _ [72, 73, 4, 5, 6, 7, 8, 9, 10, 74, 75, 76, 14, 77, 16, 50, 51, 52, 53, 78, 79, 80, 81, 82, 58, 59, 60, 83, 84, 85, 86, 17, 18, 19, 20, 21, 22, 23, 24, 25, 26, 87, 32, 88, 89, 90, 91, 92, 93, 94, 95, 96, 97] (by decide +kernel) (by decide +kernel)
set_option maxRecDepth 20000 in
theorem gX3_freeSteps_X3_overlapped : GoodIn wsX3_freeSteps (wsV RX3 81 RX3 yX3_overlapped wsX3_overlapped) := goodIn_app (goodIn_of _ (by decide +kernel)) ggX3_freeSteps_X3_overlapped
theorem dX3_freeSteps_0 : decode cX3_freeSteps 0 = .ok (.aload_n 0, 1) := by decide +kernel
theorem dX3_freeSteps_1 : decode cX3_freeSteps 1 = .ok (.getfield 22, 3) := by decide +kernel
theorem dX3_freeSteps_4 : decode cX3_freeSteps 4 = .ok (.aload_n 0, 1) := by decide +kernel
theorem dX3_freeSteps_5 : decode cX3_freeSteps 5 = .ok (.iload_n 1, 1) := by decide +kernel
theorem dX3_freeSteps_6 : decode cX3_freeSteps 6 = .ok (.invokevirtual 35, 3) := by decide +kernel
theorem dX3_freeSteps_9 : decode cX3_freeSteps 9 = .ok (.invokevirtual 39, 3) := by decide +kernel
theorem dX3_freeSteps_12 : decode cX3_freeSteps 12 = .ok (.iconst 0, 1) := by decide +kernel
theorem dX3_freeSteps_13 : decode cX3_freeSteps 13 = .ok (.istore 4, 2) := by decide +kernel
theorem dX3_freeSteps_15 : decode cX3_freeSteps 15 = .ok (.iload 4, 2) := by decide +kernel
theorem dX3_freeSteps_17 : decode cX3_freeSteps 17 = .ok (.iload_n 3, 1) := by decide +kernel
theorem dX3_freeSteps_18 : decode cX3_freeSteps 18 = .ok (.if_icmp .ge 57, 3) := by decide +kernel
theorem dX3_freeSteps_21 : decode cX3_freeSteps 21 = .ok (.aload_n 0, 1) := by decide +kernel
theorem dX3_freeSteps_22 : decode cX3_freeSteps 22 = .ok (.getfield 22, 3) := by decide +kernel
theorem dX3_freeSteps_25 : decode cX3_freeSteps 25 = .ok (.iload_n 2, 1) := by decide +kernel
theorem dX3_freeSteps_26 : decode cX3_freeSteps 26 = .ok (.invokestatic 71, 3) := by decide +kernel
theorem dX3_freeSteps_29 : decode cX3_freeSteps 29 = .ok (.iload_n 2, 1) := by decide +kernel
theorem dX3_freeSteps_30 : decode cX3_freeSteps 30 = .ok (.invokestatic 74, 3) := by decide +kernel
theorem dX3_freeSteps_33 : decode cX3_freeSteps 33 = .ok (.invokevirtual 77, 3) := by decide +kernel
theorem dX3_freeSteps_36 : decode cX3_freeSteps 36 = .ok (.aload_n 0, 1) := by decide +kernel
theorem dX3_freeSteps_37 : decode cX3_freeSteps 37 = .ok (.getfield 22, 3) := by decide +kernel
theorem dX3_freeSteps_40 : decode cX3_freeSteps 40 = .ok (.aload_n 0, 1) := by decide +kernel
theorem dX3_freeSteps_41 : decode cX3_freeSteps 41 = .ok (.getfield 29, 3) := by decide +kernel
theorem dX3_freeSteps_44 : decode cX3_freeSteps 44 = .ok (.aload_n 0, 1) := by decide +kernel
theorem dX3_freeSteps_45 : decode cX3_freeSteps 45 = .ok (.getfield 32, 3) := by decide +kernel
theorem dX3_freeSteps_48 : decode cX3_freeSteps 48 = .ok (.invokevirtual 43, 3) := by decide +kernel
theorem dX3_freeSteps_51 : decode cX3_freeSteps 51 = .ok (.ifCond .ne 15, 3) := by decide +kernel
theorem dX3_freeSteps_54 : decode cX3_freeSteps 54 = .ok (.aload_n 0, 1) := by decide +kernel
theorem dX3_freeSteps_55 : decode cX3_freeSteps 55 = .ok (.aload_n 0, 1) := by decide +kernel
theorem dX3_freeSteps_56 : decode cX3_freeSteps 56 = .ok (.getfield 22, 3) := by decide +kernel
theorem dX3_freeSteps_59 : decode cX3_freeSteps 59 = .ok (.iload_n 1, 1) := by decide +kernel
theorem dX3_freeSteps_60 : decode cX3_freeSteps 60 = .ok (.invokevirtual 81, 3) := by decide +kernel
theorem dX3_freeSteps_63 : decode cX3_freeSteps 63 = .ok (.ifCond .eq 6, 3) := by decide +kernel
theorem dX3_freeSteps_66 : decode cX3_freeSteps 66 = .ok (.iload 4, 2) := by decide +kernel
theorem dX3_freeSteps_68 : decode cX3_freeSteps 68 = .ok (.ireturn, 1) := by decide +kernel
theorem dX3_freeSteps_69 : decode cX3_freeSteps 69 = .ok (.iinc 4 1, 3) := by decide +kernel
theorem dX3_freeSteps_72 : decode cX3_freeSteps 72 = .ok (.goto (-57), 3) := by decide +kernel
theorem dX3_freeSteps_75 : decode cX3_freeSteps 75 = .ok (.iload_n 3, 1) := by decide +kernel
theorem dX3_freeSteps_76 : decode cX3_freeSteps 76 = .ok (.ireturn, 1) := by decide +kernel
set_option maxRecDepth 20000 in
theorem ggX3_freeDirections_X3_freeSteps : GoodIn wsX3_freeDirections wsX3_freeSteps := goodIn_r _ [5, 6, 7, 8, 9, 10, 11, 4, 12, 13, 14, 15, 16, 17, 18, 19, 20, 21, 22, 23, 24, 25, 26, 27, 28, 29, 30, 31, 32, 33, 34, 35, 36, 37, 38, 39, 40, 41, 42, 43, 44, 45, 46, 47, 48, 49, 50, 51, 52, 53, 54, 55, 56, 57, 58, 59, 60, 61, 62, 63, 64, 65, 66, 67, 68, 69, 70, 71, 72, 73, 74, 75, 76, 77, 78, 79, 80, 81, 82, 83, 84, 85, 86, 87, 88, 89, 90, 91, 92, 93, 94, 95, 96, 97, 98, 99, 100, 101] (by decide +kernel) (by decide +kernel)
set_option maxRecDepth 20000 in
theorem gX3_freeDirections_X3_freeSteps : GoodIn wsX3_freeDirections (wsV RX3 85 RX3 yX3_freeSteps wsX3_freeSteps) := goodIn_app (goodIn_of _ (by decide +kernel)) ggX3_freeDirections_X3_freeSteps
theorem dX3_freeDirections_0 : decode cX3_freeDirections 0 = .ok (.iconst 0, 1) := by decide +kernel
theorem dX3_freeDirections_1 : decode cX3_freeDirections 1 = .ok (.istore_n 2, 1) := by decide +kernel
theorem dX3_freeDirections_2 : decode cX3_freeDirections 2 = .ok (.iconst 0, 1) := by decide +kernel
theorem dX3_freeDirections_3 : decode cX3_freeDirections 3 = .ok (.istore_n 3, 1) := by decide +kernel
theorem dX3_freeDirections_4 : decode cX3_freeDirections 4 = .ok (.iload_n 3, 1) := by decide +kernel
theorem dX3_freeDirections_5 : decode cX3_freeDirections 5 = .ok (.bipush 8, 2) := by decide +kernel
theorem dX3_freeDirections_7 : decode cX3_freeDirections 7 = .ok (.if_icmp .ge 26, 3) := by decide +kernel
theorem dX3_freeDirections_10 : decode cX3_freeDirections 10 = .ok (.aload_n 0, 1) := by decide +kernel
theorem dX3_freeDirections_11 : decode cX3_freeDirections 11 = .ok (.iload_n 1, 1) := by decide +kernel
theorem dX3_freeDirections_12 : decode cX3_freeDirections 12 = .ok (.iload_n 3, 1) := by decide +kernel
theorem dX3_freeDirections_13 : decode cX3_freeDirections 13 = .ok (.iconst 1, 1) := by decide +kernel
theorem dX3_freeDirections_14 : decode cX3_freeDirections 14 = .ok (.invokevirtual 85, 3) := by decide +kernel
theorem dX3_freeDirections_17 : decode cX3_freeDirections 17 = .ok (.iconst 1, 1) := by decide +kernel
theorem dX3_freeDirections_18 : decode cX3_freeDirections 18 = .ok (.if_icmp .ne 9, 3) := by decide +kernel
theorem dX3_freeDirections_21 : decode cX3_freeDirections 21 = .ok (.iload_n 2, 1) := by decide +kernel
theorem dX3_freeDirections_22 : decode cX3_freeDirections 22 = .ok (.iconst 1, 1) := by decide +kernel
theorem dX3_freeDirections_23 : decode cX3_freeDirections 23 = .ok (.iload_n 3, 1) := by decide +kernel
theorem dX3_freeDirections_24 : decode cX3_freeDirections 24 = .ok (.ishl, 1) := by decide +kernel
theorem dX3_freeDirections_25 : decode cX3_freeDirections 25 = .ok (.ior, 1) := by decide +kernel
theorem dX3_freeDirections_26 : decode cX3_freeDirections 26 = .ok (.istore_n 2, 1) := by decide +kernel
theorem dX3_freeDirections_27 : decode cX3_freeDirections 27 = .ok (.iinc 3 1, 3) := by decide +kernel
theorem dX3_freeDirections_30 : decode cX3_freeDirections 30 = .ok (.goto (-26), 3) := by decide +kernel
theorem dX3_freeDirections_33 : decode cX3_freeDirections 33 = .ok (.iload_n 2, 1) := by decide +kernel
theorem dX3_freeDirections_34 : decode cX3_freeDirections 34 = .ok (.ireturn, 1) := by decide +kernel
set_option maxRecDepth 20000 in
theorem ggX3_jammed_X3_freeSteps : GoodIn wsX3_jammed wsX3_freeSteps := goodIn_r _ [6, 7, 8, 9, 10, 11, 12, 5, 13, 14, 15, 16, 17, 18, 19, 20, 21, 22, 23, 24, 25, 26, 27, 28, 29, 30, 31, 32, 33, 34, 35, 36, 37, 38, 39, 40, 41, 42, 43, 44, 45, 46, 47, 48, 49, 50, 51, 52, 53, 54, 55, 56, 57, 58, 59, 60, 61, 62, 63, 64, 65, 66, 67, 68, 69, 70, 71, 72, 73, 74, 75, 76, 77, 1, 78, 79, 80, 81, 82, 83, 84, 85, 86, 87, 88, 89, 90, 91, 92, 93, 94, 95, 96, 97, 98, 99, 100, 101] (by decide +kernel) (by decide +kernel)
set_option maxRecDepth 20000 in
theorem gX3_jammed_X3_freeSteps : GoodIn wsX3_jammed (wsV RX3 85 RX3 yX3_freeSteps wsX3_freeSteps) := goodIn_app (goodIn_of _ (by decide +kernel)) ggX3_jammed_X3_freeSteps
theorem dX3_jammed_0 : decode cX3_jammed 0 = .ok (.iconst 0, 1) := by decide +kernel
theorem dX3_jammed_1 : decode cX3_jammed 1 = .ok (.istore_n 1, 1) := by decide +kernel
theorem dX3_jammed_2 : decode cX3_jammed 2 = .ok (.iconst 0, 1) := by decide +kernel
theorem dX3_jammed_3 : decode cX3_jammed 3 = .ok (.istore_n 2, 1) := by decide +kernel
theorem dX3_jammed_4 : decode cX3_jammed 4 = .ok (.iload_n 2, 1) := by decide +kernel
theorem dX3_jammed_5 : decode cX3_jammed 5 = .ok (.aload_n 0, 1) := by decide +kernel
theorem dX3_jammed_6 : decode cX3_jammed 6 = .ok (.getfield 25, 3) := by decide +kernel
theorem dX3_jammed_9 : decode cX3_jammed 9 = .ok (.if_icmp .ge 59, 3) := by decide +kernel
theorem dX3_jammed_12 : decode cX3_jammed 12 = .ok (.iconst 0, 1) := by decide +kernel
theorem dX3_jammed_13 : decode cX3_jammed 13 = .ok (.istore_n 3, 1) := by decide +kernel
theorem dX3_jammed_14 : decode cX3_jammed 14 = .ok (.iconst 0, 1) := by decide +kernel
theorem dX3_jammed_15 : decode cX3_jammed 15 = .ok (.istore 4, 2) := by decide +kernel
theorem dX3_jammed_17 : decode cX3_jammed 17 = .ok (.iload 4, 2) := by decide +kernel
theorem dX3_jammed_19 : decode cX3_jammed 19 = .ok (.bipush 8, 2) := by decide +kernel
theorem dX3_jammed_21 : decode cX3_jammed 21 = .ok (.if_icmp .ge 31, 3) := by decide +kernel
theorem dX3_jammed_24 : decode cX3_jammed 24 = .ok (.iload_n 3, 1) := by decide +kernel
theorem dX3_jammed_25 : decode cX3_jammed 25 = .ok (.ifCond .ne 27, 3) := by decide +kernel
theorem dX3_jammed_28 : decode cX3_jammed 28 = .ok (.aload_n 0, 1) := by decide +kernel
theorem dX3_jammed_29 : decode cX3_jammed 29 = .ok (.iload_n 2, 1) := by decide +kernel
theorem dX3_jammed_30 : decode cX3_jammed 30 = .ok (.iload 4, 2) := by decide +kernel
theorem dX3_jammed_32 : decode cX3_jammed 32 = .ok (.iconst 1, 1) := by decide +kernel
theorem dX3_jammed_33 : decode cX3_jammed 33 = .ok (.invokevirtual 85, 3) := by decide +kernel
theorem dX3_jammed_36 : decode cX3_jammed 36 = .ok (.iconst 1, 1) := by decide +kernel
theorem dX3_jammed_37 : decode cX3_jammed 37 = .ok (.if_icmp .ne 7, 3) := by decide +kernel
theorem dX3_jammed_40 : decode cX3_jammed 40 = .ok (.iconst 1, 1) := by decide +kernel
theorem dX3_jammed_41 : decode cX3_jammed 41 = .ok (.goto 4, 3) := by decide +kernel
theorem dX3_jammed_44 : decode cX3_jammed 44 = .ok (.iconst 0, 1) := by decide +kernel
theorem dX3_jammed_45 : decode cX3_jammed 45 = .ok (.istore_n 3, 1) := by decide +kernel
theorem dX3_jammed_46 : decode cX3_jammed 46 = .ok (.iinc 4 2, 3) := by decide +kernel
theorem dX3_jammed_49 : decode cX3_jammed 49 = .ok (.goto (-32), 3) := by decide +kernel
theorem dX3_jammed_52 : decode cX3_jammed 52 = .ok (.iload_n 3, 1) := by decide +kernel
theorem dX3_jammed_53 : decode cX3_jammed 53 = .ok (.ifCond .ne 9, 3) := by decide +kernel
theorem dX3_jammed_56 : decode cX3_jammed 56 = .ok (.iload_n 1, 1) := by decide +kernel
theorem dX3_jammed_57 : decode cX3_jammed 57 = .ok (.iconst 1, 1) := by decide +kernel
theorem dX3_jammed_58 : decode cX3_jammed 58 = .ok (.iload_n 2, 1) := by decide +kernel
theorem dX3_jammed_59 : decode cX3_jammed 59 = .ok (.ishl, 1) := by decide +kernel
theorem dX3_jammed_60 : decode cX3_jammed 60 = .ok (.ior, 1) := by decide +kernel
theorem dX3_jammed_61 : decode cX3_jammed 61 = .ok (.istore_n 1, 1) := by decide +kernel
theorem dX3_jammed_62 : decode cX3_jammed 62 = .ok (.iinc 2 1, 3) := by decide +kernel
theorem dX3_jammed_65 : decode cX3_jammed 65 = .ok (.goto (-61), 3) := by decide +kernel
theorem dX3_jammed_68 : decode cX3_jammed 68 = .ok (.iload_n 1, 1) := by decide +kernel
theorem dX3_jammed_69 : decode cX3_jammed 69 = .ok (.ireturn, 1) := by decide +kernel
set_option maxRecDepth 20000 in
theorem ggX3_shift_X3_at : GoodIn wsX3_shift wsX3_at := goodIn_r _ [5, 6, 7, 35, 36, 37, 38, 39, 40] (by decide +kernel) (by decide +kernel)
set_option maxRecDepth 20000 in
theorem gX3_shift_X3_at : GoodIn wsX3_shift (wsV RX3 35 RX3 yX3_at wsX3_at) := goodIn_app (goodIn_of _ (by decide +kernel)) ggX3_shift_X3_at
set_option maxRecDepth 20000 in
theorem ggX3_shift_X4_stepX : GoodIn wsX3_shift wsX4_stepX := goodIn_r _ [10, 11] (by decide +kernel) (by decide +kernel)
set_option maxRecDepth 20000 in
theorem gX3_shift_X4_stepX_n71 : GoodIn wsX3_shift (wsX4_stepX) := ggX3_shift_X4_stepX
set_option maxRecDepth 20000 in
theorem ggX3_shift_X4_stepY : GoodIn wsX3_shift wsX4_stepY := goodIn_r _ [13, 14] (by decide +kernel) (by decide +kernel)
set_option maxRecDepth 20000 in
theorem gX3_shift_X4_stepY_n74 : GoodIn wsX3_shift (wsX4_stepY) := ggX3_shift_X4_stepY
set_option maxRecDepth 20000 in
theorem ggX3_shift_X0_move : GoodIn wsX3_shift wsX0_move := goodIn_r _ [19, 20, 21, 22, 23, 18, 24, 25, 26, 27, 28, 29, 30, 31, 32, 33, 34, 41, 42, 43] (by decide +kernel) (by decide +kernel)
set_option maxRecDepth 20000 in
theorem gX3_shift_X0_move : GoodIn wsX3_shift (wsV RX3 77 RX0 yX0_move wsX0_move) := goodIn_app (goodIn_of _ (by decide +kernel)) ggX3_shift_X0_move
theorem dX3_shift_0 : decode cX3_shift 0 = .ok (.aload_n 0, 1) := by decide +kernel
theorem dX3_shift_1 : decode cX3_shift 1 = .ok (.iload_n 1, 1) := by decide +kernel
theorem dX3_shift_2 : decode cX3_shift 2 = .ok (.invokevirtual 35, 3) := by decide +kernel
theorem dX3_shift_5 : decode cX3_shift 5 = .ok (.iload_n 3, 1) := by decide +kernel
theorem dX3_shift_6 : decode cX3_shift 6 = .ok (.iload_n 2, 1) := by decide +kernel
theorem dX3_shift_7 : decode cX3_shift 7 = .ok (.invokestatic 71, 3) := by decide +kernel
theorem dX3_shift_10 : decode cX3_shift 10 = .ok (.imul, 1) := by decide +kernel
theorem dX3_shift_11 : decode cX3_shift 11 = .ok (.iload_n 3, 1) := by decide +kernel
theorem dX3_shift_12 : decode cX3_shift 12 = .ok (.iload_n 2, 1) := by decide +kernel
theorem dX3_shift_13 : decode cX3_shift 13 = .ok (.invokestatic 74, 3) := by decide +kernel
theorem dX3_shift_16 : decode cX3_shift 16 = .ok (.imul, 1) := by decide +kernel
theorem dX3_shift_17 : decode cX3_shift 17 = .ok (.invokevirtual 77, 3) := by decide +kernel
theorem dX3_shift_20 : decode cX3_shift 20 = .ok (.return_, 1) := by decide +kernel
set_option maxRecDepth 20000 in
theorem ggX3_shifted_X3_at : GoodIn wsX3_shifted wsX3_at := goodIn_r _ [6, 7, 8, 40, 41, 42, 43, 44, 45] (by decide +kernel) (by decide +kernel)
set_option maxRecDepth 20000 in
theorem gX3_shifted_X3_at : GoodIn wsX3_shifted (wsV RX3 35 RX3 yX3_at wsX3_at) := goodIn_app (goodIn_of _ (by decide +kernel)) ggX3_shifted_X3_at
set_option maxRecDepth 20000 in
theorem ggX3_shifted_X0_copyFrom : GoodIn wsX3_shifted wsX0_copyFrom := goodIn_r _ [13, 14, 15, 16, 17, 12, 18, 19, 20, 21, 22, 23, 24, 25, 26, 27, 28, 46, 47, 48] (by decide +kernel) (by decide +kernel)
set_option maxRecDepth 20000 in
theorem gX3_shifted_X0_copyFrom : GoodIn wsX3_shifted (wsV RX3 39 RX0 yX0_copyFrom wsX0_copyFrom) := goodIn_app (goodIn_of _ (by decide +kernel)) ggX3_shifted_X0_copyFrom
set_option maxRecDepth 20000 in
theorem ggX3_shifted_X4_stepX : GoodIn wsX3_shifted wsX4_stepX := goodIn_r _ [31, 32] (by decide +kernel) (by decide +kernel)
set_option maxRecDepth 20000 in
theorem gX3_shifted_X4_stepX_n71 : GoodIn wsX3_shifted (wsX4_stepX) := ggX3_shifted_X4_stepX
set_option maxRecDepth 20000 in
theorem ggX3_shifted_X4_stepY : GoodIn wsX3_shifted wsX4_stepY := goodIn_r _ [34, 35] (by decide +kernel) (by decide +kernel)
set_option maxRecDepth 20000 in
theorem gX3_shifted_X4_stepY_n74 : GoodIn wsX3_shifted (wsX4_stepY) := ggX3_shifted_X4_stepY
set_option maxRecDepth 20000 in
theorem ggX3_shifted_X0_move : GoodIn wsX3_shifted wsX0_move := goodIn_r _ [39, 14, 15, 16, 17, 12, 18, 19, 20, 21, 22, 23, 24, 25, 26, 27, 28, 46, 47, 48] (by decide +kernel) (by decide +kernel)
set_option maxRecDepth 20000 in
theorem gX3_shifted_X0_move : GoodIn wsX3_shifted (wsV RX3 77 RX0 yX0_move wsX0_move) := goodIn_app (goodIn_of _ (by decide +kernel)) ggX3_shifted_X0_move
theorem dX3_shifted_0 : decode cX3_shifted 0 = .ok (.aload_n 0, 1) := by decide +kernel
theorem dX3_shifted_1 : decode cX3_shifted 1 = .ok (.getfield 22, 3) := by decide +kernel
theorem dX3_shifted_4 : decode cX3_shifted 4 = .ok (.aload_n 0, 1) := by decide +kernel
theorem dX3_shifted_5 : decode cX3_shifted 5 = .ok (.iload_n 1, 1) := by decide +kernel
theorem dX3_shifted_6 : decode cX3_shifted 6 = .ok (.invokevirtual 35, 3) := by decide +kernel
theorem dX3_shifted_9 : decode cX3_shifted 9 = .ok (.invokevirtual 39, 3) := by decide +kernel
theorem dX3_shifted_12 : decode cX3_shifted 12 = .ok (.aload_n 0, 1) := by decide +kernel
theorem dX3_shifted_13 : decode cX3_shifted 13 = .ok (.getfield 22, 3) := by decide +kernel
theorem dX3_shifted_16 : decode cX3_shifted 16 = .ok (.iload_n 3, 1) := by decide +kernel
theorem dX3_shifted_17 : decode cX3_shifted 17 = .ok (.iload_n 2, 1) := by decide +kernel
theorem dX3_shifted_18 : decode cX3_shifted 18 = .ok (.invokestatic 71, 3) := by decide +kernel
theorem dX3_shifted_21 : decode cX3_shifted 21 = .ok (.imul, 1) := by decide +kernel
theorem dX3_shifted_22 : decode cX3_shifted 22 = .ok (.iload_n 3, 1) := by decide +kernel
theorem dX3_shifted_23 : decode cX3_shifted 23 = .ok (.iload_n 2, 1) := by decide +kernel
theorem dX3_shifted_24 : decode cX3_shifted 24 = .ok (.invokestatic 74, 3) := by decide +kernel
theorem dX3_shifted_27 : decode cX3_shifted 27 = .ok (.imul, 1) := by decide +kernel
theorem dX3_shifted_28 : decode cX3_shifted 28 = .ok (.invokevirtual 77, 3) := by decide +kernel
theorem dX3_shifted_31 : decode cX3_shifted 31 = .ok (.aload_n 0, 1) := by decide +kernel
theorem dX3_shifted_32 : decode cX3_shifted 32 = .ok (.getfield 22, 3) := by decide +kernel
theorem dX3_shifted_35 : decode cX3_shifted 35 = .ok (.areturn, 1) := by decide +kernel
set_option maxRecDepth 20000 in
theorem ggX3_canTurn_X3_at : GoodIn wsX3_canTurn wsX3_at := goodIn_r _ [8, 9, 10, 83, 84, 85, 86, 87, 88] (by decide +kernel) (by decide +kernel)
set_option maxRecDepth 20000 in
theorem gX3_canTurn_X3_at : GoodIn wsX3_canTurn (wsV RX3 35 RX3 yX3_at wsX3_at) := goodIn_app (goodIn_of _ (by decide +kernel)) ggX3_canTurn_X3_at
set_option maxRecDepth 20000 in
theorem ggX3_canTurn_X0_copyFrom : GoodIn wsX3_canTurn wsX0_copyFrom := goodIn_r _ [15, 16, 17, 18, 19, 14, 20, 21, 22, 23, 24, 25, 26, 27, 28, 29, 30, 89, 90, 91] (by decide +kernel) (by decide +kernel)
set_option maxRecDepth 20000 in
theorem gX3_canTurn_X0_copyFrom : GoodIn wsX3_canTurn (wsV RX3 39 RX0 yX0_copyFrom wsX0_copyFrom) := goodIn_app (goodIn_of _ (by decide +kernel)) ggX3_canTurn_X0_copyFrom
set_option maxRecDepth 20000 in
theorem ggX3_canTurn_X0_turnLeft : GoodIn wsX3_canTurn wsX0_turnLeft := goodIn_r _ [34, 16, 35, 36, 37, 14, 38, 39, 40, 41, 42, 17, 18, 19, 20, 21, 43, 44, 45, 46, 22, 23, 24, 25, 26, 47, 48, 49, 50, 51, 52, 53, 27, 28, 29, 30, 89, 90, 91] (by decide +kernel) (by decide +kernel)
set_option maxRecDepth 20000 in
theorem gX3_canTurn_X0_turnLeft : GoodIn wsX3_canTurn (wsV RX3 89 RX0 yX0_turnLeft wsX0_turnLeft) := goodIn_app (goodIn_of _ (by decide +kernel)) ggX3_canTurn_X0_turnLeft
set_option maxRecDepth 20000 in
theorem ggX3_canTurn_X0_wallsBeyond : GoodIn wsX3_canTurn wsX0_wallsBeyond := goodIn_r _ [57, 35, 36, 37, 14, 38, 16, 39, 40, 41, 42, 17, 18, 19, 20, 21, 58, 59, 60, 61, 51, 52, 53, 43, 44, 45, 46, 22, 23, 24, 25, 26, 47, 48, 49, 50, 89, 90, 91] (by decide +kernel) (by decide +kernel)
set_option maxRecDepth 20000 in
theorem gX3_canTurn_X0_wallsBeyond : GoodIn wsX3_canTurn (wsV RX3 43 RX0 yX0_wallsBeyond wsX0_wallsBeyond) := goodIn_app (goodIn_of _ (by decide +kernel)) ggX3_canTurn_X0_wallsBeyond
set_option maxRecDepth 20000 in
theorem ggX3_canTurn_X3_overlapped : GoodIn wsX3_canTurn wsX3_overlapped := goodIn_r _ [65, 66, 4, 5, 6, 7, 8, 9, 10, 67, 68, 69, 14, 70, 16, 39, 40, 41, 42, 71, 72, 73, 74, 75, 51, 52, 53, 76, 77, 78, 79, 17, 18, 19, 20, 21, 22, 23, 24, 25, 26, 80, 81, 82, 83, 84, 85, 86, 87, 88, 89, 90, 91] (by decide +kernel) (by decide +kernel)
set_option maxRecDepth 20000 in
theorem gX3_canTurn_X3_overlapped : GoodIn wsX3_canTurn (wsV RX3 81 RX3 yX3_overlapped wsX3_overlapped) := goodIn_app (goodIn_of _ (by decide +kernel)) ggX3_canTurn_X3_overlapped
theorem dX3_canTurn_0 : decode cX3_canTurn 0 = .ok (.aload_n 0, 1) := by decide +kernel
theorem dX3_canTurn_1 : decode cX3_canTurn 1 = .ok (.getfield 22, 3) := by decide +kernel
theorem dX3_canTurn_4 : decode cX3_canTurn 4 = .ok (.aload_n 0, 1) := by decide +kernel
theorem dX3_canTurn_5 : decode cX3_canTurn 5 = .ok (.iload_n 1, 1) := by decide +kernel
theorem dX3_canTurn_6 : decode cX3_canTurn 6 = .ok (.invokevirtual 35, 3) := by decide +kernel
theorem dX3_canTurn_9 : decode cX3_canTurn 9 = .ok (.invokevirtual 39, 3) := by decide +kernel
theorem dX3_canTurn_12 : decode cX3_canTurn 12 = .ok (.aload_n 0, 1) := by decide +kernel
theorem dX3_canTurn_13 : decode cX3_canTurn 13 = .ok (.getfield 22, 3) := by decide +kernel
theorem dX3_canTurn_16 : decode cX3_canTurn 16 = .ok (.invokevirtual 89, 3) := by decide +kernel
theorem dX3_canTurn_19 : decode cX3_canTurn 19 = .ok (.aload_n 0, 1) := by decide +kernel
theorem dX3_canTurn_20 : decode cX3_canTurn 20 = .ok (.getfield 22, 3) := by decide +kernel
theorem dX3_canTurn_23 : decode cX3_canTurn 23 = .ok (.aload_n 0, 1) := by decide +kernel
theorem dX3_canTurn_24 : decode cX3_canTurn 24 = .ok (.getfield 29, 3) := by decide +kernel
theorem dX3_canTurn_27 : decode cX3_canTurn 27 = .ok (.aload_n 0, 1) := by decide +kernel
theorem dX3_canTurn_28 : decode cX3_canTurn 28 = .ok (.getfield 32, 3) := by decide +kernel
theorem dX3_canTurn_31 : decode cX3_canTurn 31 = .ok (.invokevirtual 43, 3) := by decide +kernel
theorem dX3_canTurn_34 : decode cX3_canTurn 34 = .ok (.ifCond .ne 19, 3) := by decide +kernel
theorem dX3_canTurn_37 : decode cX3_canTurn 37 = .ok (.aload_n 0, 1) := by decide +kernel
theorem dX3_canTurn_38 : decode cX3_canTurn 38 = .ok (.aload_n 0, 1) := by decide +kernel
theorem dX3_canTurn_39 : decode cX3_canTurn 39 = .ok (.getfield 22, 3) := by decide +kernel
theorem dX3_canTurn_42 : decode cX3_canTurn 42 = .ok (.iload_n 1, 1) := by decide +kernel
theorem dX3_canTurn_43 : decode cX3_canTurn 43 = .ok (.invokevirtual 81, 3) := by decide +kernel
theorem dX3_canTurn_46 : decode cX3_canTurn 46 = .ok (.ifCond .ne 7, 3) := by decide +kernel
theorem dX3_canTurn_49 : decode cX3_canTurn 49 = .ok (.iconst 1, 1) := by decide +kernel
theorem dX3_canTurn_50 : decode cX3_canTurn 50 = .ok (.goto 4, 3) := by decide +kernel
theorem dX3_canTurn_53 : decode cX3_canTurn 53 = .ok (.iconst 0, 1) := by decide +kernel
theorem dX3_canTurn_54 : decode cX3_canTurn 54 = .ok (.ireturn, 1) := by decide +kernel
set_option maxRecDepth 20000 in
theorem ggX3_settleAll_X3_freeSteps : GoodIn wsX3_settleAll wsX3_freeSteps := goodIn_r _ [6, 7, 8, 9, 10, 11, 12, 5, 13, 14, 15, 16, 17, 18, 19, 20, 21, 22, 23, 24, 25, 26, 27, 28, 29, 30, 31, 32, 33, 34, 35, 36, 37, 38, 39, 40, 41, 42, 43, 44, 45, 46, 47, 48, 49, 50, 51, 52, 53, 54, 55, 56, 57, 58, 59, 60, 61, 62, 63, 64, 65, 66, 67, 68, 69, 70, 71, 72, 73, 74, 75, 76, 77, 1, 78, 79, 80, 81, 82, 83, 84, 85, 86, 87, 88, 89, 90, 91, 92, 97, 98, 99, 100, 101, 102, 103, 104, 105] (by decide +kernel) (by decide +kernel)
set_option maxRecDepth 20000 in
theorem gX3_settleAll_X3_freeSteps : GoodIn wsX3_settleAll (wsV RX3 85 RX3 yX3_freeSteps wsX3_freeSteps) := goodIn_app (goodIn_of _ (by decide +kernel)) ggX3_settleAll_X3_freeSteps
set_option maxRecDepth 20000 in
theorem ggX3_settleAll_X3_shift : GoodIn wsX3_settleAll wsX3_shift := goodIn_r _ [96, 10, 11, 12, 5, 13, 14, 15, 36, 37, 38, 39, 40, 41, 42, 43, 44, 45, 19, 46, 21, 22, 23, 24, 25, 26, 27, 28, 29, 30, 31, 32, 33, 34, 35, 97, 98, 99, 100, 101, 102, 103, 104, 105] (by decide +kernel) (by decide +kernel)
set_option maxRecDepth 20000 in
theorem gX3_settleAll_X3_shift : GoodIn wsX3_settleAll (wsV RX3 92 RX3 yX3_shift wsX3_shift) := goodIn_app (goodIn_of _ (by decide +kernel)) ggX3_settleAll_X3_shift
theorem dX3_settleAll_0 : decode cX3_settleAll 0 = .ok (.iconst 0, 1) := by decide +kernel
theorem dX3_settleAll_1 : decode cX3_settleAll 1 = .ok (.istore_n 2, 1) := by decide +kernel
theorem dX3_settleAll_2 : decode cX3_settleAll 2 = .ok (.iconst 0, 1) := by decide +kernel
theorem dX3_settleAll_3 : decode cX3_settleAll 3 = .ok (.istore_n 3, 1) := by decide +kernel
theorem dX3_settleAll_4 : decode cX3_settleAll 4 = .ok (.iload_n 3, 1) := by decide +kernel
theorem dX3_settleAll_5 : decode cX3_settleAll 5 = .ok (.sipush 1000, 3) := by decide +kernel
theorem dX3_settleAll_8 : decode cX3_settleAll 8 = .ok (.if_icmp .ge 69, 3) := by decide +kernel
theorem dX3_settleAll_11 : decode cX3_settleAll 11 = .ok (.iconst 0, 1) := by decide +kernel
theorem dX3_settleAll_12 : decode cX3_settleAll 12 = .ok (.istore 4, 2) := by decide +kernel
theorem dX3_settleAll_14 : decode cX3_settleAll 14 = .ok (.iconst 0, 1) := by decide +kernel
theorem dX3_settleAll_15 : decode cX3_settleAll 15 = .ok (.istore 5, 2) := by decide +kernel
theorem dX3_settleAll_17 : decode cX3_settleAll 17 = .ok (.iload 5, 2) := by decide +kernel
theorem dX3_settleAll_19 : decode cX3_settleAll 19 = .ok (.aload_n 0, 1) := by decide +kernel
theorem dX3_settleAll_20 : decode cX3_settleAll 20 = .ok (.getfield 25, 3) := by decide +kernel
theorem dX3_settleAll_23 : decode cX3_settleAll 23 = .ok (.if_icmp .ge 36, 3) := by decide +kernel
theorem dX3_settleAll_26 : decode cX3_settleAll 26 = .ok (.aload_n 0, 1) := by decide +kernel
theorem dX3_settleAll_27 : decode cX3_settleAll 27 = .ok (.iload 5, 2) := by decide +kernel
theorem dX3_settleAll_29 : decode cX3_settleAll 29 = .ok (.iload_n 1, 1) := by decide +kernel
theorem dX3_settleAll_30 : decode cX3_settleAll 30 = .ok (.bipush 60, 2) := by decide +kernel
theorem dX3_settleAll_32 : decode cX3_settleAll 32 = .ok (.invokevirtual 85, 3) := by decide +kernel
theorem dX3_settleAll_35 : decode cX3_settleAll 35 = .ok (.istore 6, 2) := by decide +kernel
theorem dX3_settleAll_37 : decode cX3_settleAll 37 = .ok (.aload_n 0, 1) := by decide +kernel
theorem dX3_settleAll_38 : decode cX3_settleAll 38 = .ok (.iload 5, 2) := by decide +kernel
theorem dX3_settleAll_40 : decode cX3_settleAll 40 = .ok (.iload_n 1, 1) := by decide +kernel
theorem dX3_settleAll_41 : decode cX3_settleAll 41 = .ok (.iload 6, 2) := by decide +kernel
theorem dX3_settleAll_43 : decode cX3_settleAll 43 = .ok (.invokevirtual 92, 3) := by decide +kernel
theorem dX3_settleAll_46 : decode cX3_settleAll 46 = .ok (.iload 4, 2) := by decide +kernel
theorem dX3_settleAll_48 : decode cX3_settleAll 48 = .ok (.iload 6, 2) := by decide +kernel
theorem dX3_settleAll_50 : decode cX3_settleAll 50 = .ok (.iadd, 1) := by decide +kernel
theorem dX3_settleAll_51 : decode cX3_settleAll 51 = .ok (.istore 4, 2) := by decide +kernel
theorem dX3_settleAll_53 : decode cX3_settleAll 53 = .ok (.iinc 5 1, 3) := by decide +kernel
theorem dX3_settleAll_56 : decode cX3_settleAll 56 = .ok (.goto (-39), 3) := by decide +kernel
theorem dX3_settleAll_59 : decode cX3_settleAll 59 = .ok (.iload 4, 2) := by decide +kernel
theorem dX3_settleAll_61 : decode cX3_settleAll 61 = .ok (.ifCond .ne 5, 3) := by decide +kernel
theorem dX3_settleAll_64 : decode cX3_settleAll 64 = .ok (.iload_n 2, 1) := by decide +kernel
theorem dX3_settleAll_65 : decode cX3_settleAll 65 = .ok (.ireturn, 1) := by decide +kernel
theorem dX3_settleAll_66 : decode cX3_settleAll 66 = .ok (.iload_n 2, 1) := by decide +kernel
theorem dX3_settleAll_67 : decode cX3_settleAll 67 = .ok (.iload 4, 2) := by decide +kernel
theorem dX3_settleAll_69 : decode cX3_settleAll 69 = .ok (.iadd, 1) := by decide +kernel
theorem dX3_settleAll_70 : decode cX3_settleAll 70 = .ok (.istore_n 2, 1) := by decide +kernel
theorem dX3_settleAll_71 : decode cX3_settleAll 71 = .ok (.iinc 3 1, 3) := by decide +kernel
theorem dX3_settleAll_74 : decode cX3_settleAll 74 = .ok (.goto (-70), 3) := by decide +kernel
theorem dX3_settleAll_77 : decode cX3_settleAll 77 = .ok (.iload_n 2, 1) := by decide +kernel
theorem dX3_settleAll_78 : decode cX3_settleAll 78 = .ok (.ireturn, 1) := by decide +kernel
set_option maxRecDepth 20000 in
theorem ggX3_doubleArea_X3_at : GoodIn wsX3_doubleArea wsX3_at := goodIn_r _ [6, 7, 8, 29, 30, 31, 32, 33, 34] (by decide +kernel) (by decide +kernel)
set_option maxRecDepth 20000 in
theorem gX3_doubleArea_X3_at : GoodIn wsX3_doubleArea (wsV RX3 35 RX3 yX3_at wsX3_at) := goodIn_app (goodIn_of _ (by decide +kernel)) ggX3_doubleArea_X3_at
set_option maxRecDepth 20000 in
theorem ggX3_doubleArea_X0_doubleArea : GoodIn wsX3_doubleArea wsX0_doubleArea := goodIn_r _ [13, 14, 15, 16, 17, 12, 18, 19, 20, 21, 22, 23, 24, 25, 26, 27, 28, 35, 36, 37] (by decide +kernel) (by decide +kernel)
set_option maxRecDepth 20000 in
theorem gX3_doubleArea_X0_doubleArea : GoodIn wsX3_doubleArea (wsV RX3 96 RX0 yX0_doubleArea wsX0_doubleArea) := goodIn_app (goodIn_of _ (by decide +kernel)) ggX3_doubleArea_X0_doubleArea
theorem dX3_doubleArea_0 : decode cX3_doubleArea 0 = .ok (.iconst 0, 1) := by decide +kernel
theorem dX3_doubleArea_1 : decode cX3_doubleArea 1 = .ok (.istore_n 1, 1) := by decide +kernel
theorem dX3_doubleArea_2 : decode cX3_doubleArea 2 = .ok (.iconst 0, 1) := by decide +kernel
theorem dX3_doubleArea_3 : decode cX3_doubleArea 3 = .ok (.istore_n 2, 1) := by decide +kernel
theorem dX3_doubleArea_4 : decode cX3_doubleArea 4 = .ok (.iload_n 2, 1) := by decide +kernel
theorem dX3_doubleArea_5 : decode cX3_doubleArea 5 = .ok (.aload_n 0, 1) := by decide +kernel
theorem dX3_doubleArea_6 : decode cX3_doubleArea 6 = .ok (.getfield 25, 3) := by decide +kernel
theorem dX3_doubleArea_9 : decode cX3_doubleArea 9 = .ok (.if_icmp .ge 20, 3) := by decide +kernel
theorem dX3_doubleArea_12 : decode cX3_doubleArea 12 = .ok (.iload_n 1, 1) := by decide +kernel
theorem dX3_doubleArea_13 : decode cX3_doubleArea 13 = .ok (.aload_n 0, 1) := by decide +kernel
theorem dX3_doubleArea_14 : decode cX3_doubleArea 14 = .ok (.iload_n 2, 1) := by decide +kernel
theorem dX3_doubleArea_15 : decode cX3_doubleArea 15 = .ok (.invokevirtual 35, 3) := by decide +kernel
theorem dX3_doubleArea_18 : decode cX3_doubleArea 18 = .ok (.invokevirtual 96, 3) := by decide +kernel
theorem dX3_doubleArea_21 : decode cX3_doubleArea 21 = .ok (.iadd, 1) := by decide +kernel
theorem dX3_doubleArea_22 : decode cX3_doubleArea 22 = .ok (.istore_n 1, 1) := by decide +kernel
theorem dX3_doubleArea_23 : decode cX3_doubleArea 23 = .ok (.iinc 2 1, 3) := by decide +kernel
theorem dX3_doubleArea_26 : decode cX3_doubleArea 26 = .ok (.goto (-22), 3) := by decide +kernel
theorem dX3_doubleArea_29 : decode cX3_doubleArea 29 = .ok (.iload_n 1, 1) := by decide +kernel
theorem dX3_doubleArea_30 : decode cX3_doubleArea 30 = .ok (.ireturn, 1) := by decide +kernel
set_option maxRecDepth 20000 in
theorem ggX3_allCorners_X3_at : GoodIn wsX3_allCorners wsX3_at := goodIn_r _ [7, 8, 9, 10, 11, 12, 13, 14, 15] (by decide +kernel) (by decide +kernel)
set_option maxRecDepth 20000 in
theorem gX3_allCorners_X3_at : GoodIn wsX3_allCorners (wsV RX3 35 RX3 yX3_at wsX3_at) := goodIn_app (goodIn_of _ (by decide +kernel)) ggX3_allCorners_X3_at
theorem dX3_allCorners_0 : decode cX3_allCorners 0 = .ok (.iconst 0, 1) := by decide +kernel
theorem dX3_allCorners_1 : decode cX3_allCorners 1 = .ok (.istore_n 1, 1) := by decide +kernel
theorem dX3_allCorners_2 : decode cX3_allCorners 2 = .ok (.iconst 0, 1) := by decide +kernel
theorem dX3_allCorners_3 : decode cX3_allCorners 3 = .ok (.istore_n 2, 1) := by decide +kernel
theorem dX3_allCorners_4 : decode cX3_allCorners 4 = .ok (.iload_n 2, 1) := by decide +kernel
theorem dX3_allCorners_5 : decode cX3_allCorners 5 = .ok (.aload_n 0, 1) := by decide +kernel
theorem dX3_allCorners_6 : decode cX3_allCorners 6 = .ok (.getfield 25, 3) := by decide +kernel
theorem dX3_allCorners_9 : decode cX3_allCorners 9 = .ok (.if_icmp .ge 20, 3) := by decide +kernel
theorem dX3_allCorners_12 : decode cX3_allCorners 12 = .ok (.iload_n 1, 1) := by decide +kernel
theorem dX3_allCorners_13 : decode cX3_allCorners 13 = .ok (.aload_n 0, 1) := by decide +kernel
theorem dX3_allCorners_14 : decode cX3_allCorners 14 = .ok (.iload_n 2, 1) := by decide +kernel
theorem dX3_allCorners_15 : decode cX3_allCorners 15 = .ok (.invokevirtual 35, 3) := by decide +kernel
theorem dX3_allCorners_18 : decode cX3_allCorners 18 = .ok (.getfield 100, 3) := by decide +kernel
theorem dX3_allCorners_21 : decode cX3_allCorners 21 = .ok (.iadd, 1) := by decide +kernel
theorem dX3_allCorners_22 : decode cX3_allCorners 22 = .ok (.istore_n 1, 1) := by decide +kernel
theorem dX3_allCorners_23 : decode cX3_allCorners 23 = .ok (.iinc 2 1, 3) := by decide +kernel
theorem dX3_allCorners_26 : decode cX3_allCorners 26 = .ok (.goto (-22), 3) := by decide +kernel
theorem dX3_allCorners_29 : decode cX3_allCorners 29 = .ok (.iload_n 1, 1) := by decide +kernel
theorem dX3_allCorners_30 : decode cX3_allCorners 30 = .ok (.ireturn, 1) := by decide +kernel
set_option maxRecDepth 20000 in
theorem ggX4_init_X3_init : GoodIn wsX4_init wsX3_init := goodIn_r _ [19, 20, 2, 3, 21, 22, 23, 24, 25, 26, 27, 28, 29, 30, 31, 32, 33, 34, 35, 36, 37, 62, 63, 64, 65, 66, 67, 83, 84, 85] (by decide +kernel) (by decide +kernel)
set_option maxRecDepth 20000 in
theorem gX4_init_X3_init : GoodIn wsX4_init (wsX3_init) := ggX4_init_X3_init
set_option maxRecDepth 20000 in
theorem ggX4_init_X2_init : GoodIn wsX4_init wsX2_init := goodIn_r _ [40, 41, 2, 3, 42, 43, 5, 6, 44, 45, 46, 47, 18, 19, 20, 21, 22, 23, 24, 25, 26, 27, 28, 29, 30, 31, 32, 33, 34, 35, 36, 37, 72, 73, 74, 75, 62, 63, 64, 65, 66, 67, 83, 84, 85] (by decide +kernel) (by decide +kernel)
set_option maxRecDepth 20000 in
theorem gX4_init_X2_init : GoodIn wsX4_init (wsX2_init) := ggX4_init_X2_init
set_option maxRecDepth 20000 in
theorem ggX4_init_X1_init : GoodIn wsX4_init wsX1_init := goodIn_r _ [50, 51, 2, 3, 52, 53, 54, 23, 24, 55, 56, 57, 58, 59, 60, 61, 31, 32, 33, 34, 35, 36, 37, 76, 77, 78, 79, 80, 81, 82, 83, 84, 85] (by decide +kernel) (by decide +kernel)
set_option maxRecDepth 20000 in
theorem gX4_init_X1_init : GoodIn wsX4_init (wsX1_init) := ggX4_init_X1_init
theorem dX4_init_0 : decode cX4_init 0 = .ok (.aload_n 0, 1) := by decide +kernel
theorem dX4_init_1 : decode cX4_init 1 = .ok (.invokespecial 1, 3) := by decide +kernel
theorem dX4_init_4 : decode cX4_init 4 = .ok (.aload_n 0, 1) := by decide +kernel
theorem dX4_init_5 : decode cX4_init 5 = .ok (.new 7, 3) := by decide +kernel
theorem dX4_init_8 : decode cX4_init 8 = .ok (.dup, 1) := by decide +kernel
theorem dX4_init_9 : decode cX4_init 9 = .ok (.invokespecial 9, 3) := by decide +kernel
theorem dX4_init_12 : decode cX4_init 12 = .ok (.putfield 10, 3) := by decide +kernel
theorem dX4_init_15 : decode cX4_init 15 = .ok (.aload_n 0, 1) := by decide +kernel
theorem dX4_init_16 : decode cX4_init 16 = .ok (.new 7, 3) := by decide +kernel
theorem dX4_init_19 : decode cX4_init 19 = .ok (.dup, 1) := by decide +kernel
theorem dX4_init_20 : decode cX4_init 20 = .ok (.invokespecial 9, 3) := by decide +kernel
theorem dX4_init_23 : decode cX4_init 23 = .ok (.putfield 16, 3) := by decide +kernel
theorem dX4_init_26 : decode cX4_init 26 = .ok (.aload_n 0, 1) := by decide +kernel
theorem dX4_init_27 : decode cX4_init 27 = .ok (.new 19, 3) := by decide +kernel
theorem dX4_init_30 : decode cX4_init 30 = .ok (.dup, 1) := by decide +kernel
theorem dX4_init_31 : decode cX4_init 31 = .ok (.invokespecial 21, 3) := by decide +kernel
theorem dX4_init_34 : decode cX4_init 34 = .ok (.putfield 22, 3) := by decide +kernel
theorem dX4_init_37 : decode cX4_init 37 = .ok (.aload_n 0, 1) := by decide +kernel
theorem dX4_init_38 : decode cX4_init 38 = .ok (.new 26, 3) := by decide +kernel
theorem dX4_init_41 : decode cX4_init 41 = .ok (.dup, 1) := by decide +kernel
theorem dX4_init_42 : decode cX4_init 42 = .ok (.invokespecial 28, 3) := by decide +kernel
theorem dX4_init_45 : decode cX4_init 45 = .ok (.putfield 29, 3) := by decide +kernel
theorem dX4_init_48 : decode cX4_init 48 = .ok (.return_, 1) := by decide +kernel
set_option maxRecDepth 20000 in
theorem ggX4_box_X4_isSize : GoodIn wsX4_box wsX4_isSize := goodIn_r _ [10] (by decide +kernel) (by decide +kernel)
set_option maxRecDepth 20000 in
theorem gX4_box_X4_isSize : GoodIn wsX4_box (va_wsS RX4 33 yX4_isSize wsX4_isSize) := goodIn_app (goodIn_of _ (by decide +kernel)) ggX4_box_X4_isSize
set_option maxRecDepth 20000 in
theorem ggX4_box_X3_fitsInto : GoodIn wsX4_box wsX3_fitsInto := goodIn_r _ [15, 16, 17, 18, 19, 14, 20, 21, 22, 23, 24, 25, 26, 27, 28, 29, 30, 31, 32, 33, 34, 35, 36, 37, 38, 39, 40, 41, 42, 43, 44, 45, 46, 47, 48, 49, 50, 51, 52, 53, 54, 55, 56, 57, 58, 59, 60, 61, 93, 94, 95, 96, 97, 98, 99, 100, 101] (by decide +kernel) (by decide +kernel)
set_option maxRecDepth 20000 in
theorem gX4_box_X3_fitsInto : GoodIn wsX4_box (wsV RX4 38 RX3 yX3_fitsInto wsX3_fitsInto) := goodIn_app (goodIn_of _ (by decide +kernel)) ggX4_box_X3_fitsInto
set_option maxRecDepth 20000 in
theorem ggX4_box_X2_keep : GoodIn wsX4_box wsX2_keep := goodIn_r _ [66, 67, 68, 69, 70, 71, 65, 72, 73, 74, 75, 76, 77, 14, 78, 16, 79, 80, 17, 18, 19, 20, 21, 22, 81, 82, 83, 26, 84, 32, 37, 38, 39, 40, 41, 53, 54, 55, 56, 57, 85, 86, 87, 88, 102, 103, 104, 105, 93, 94, 95, 96, 97, 98, 99, 100, 101] (by decide +kernel) (by decide +kernel)
set_option maxRecDepth 20000 in
theorem gX4_box_X2_keep : GoodIn wsX4_box (wsV RX4 43 RX2 yX2_keep wsX2_keep) := goodIn_app (goodIn_of _ (by decide +kernel)) ggX4_box_X2_keep
theorem dX4_box_0 : decode cX4_box 0 = .ok (.iload_n 1, 1) := by decide +kernel
theorem dX4_box_1 : decode cX4_box 1 = .ok (.invokestatic 33, 3) := by decide +kernel
theorem dX4_box_4 : decode cX4_box 4 = .ok (.ifCond .eq 10, 3) := by decide +kernel
theorem dX4_box_7 : decode cX4_box 7 = .ok (.iload_n 2, 1) := by decide +kernel
theorem dX4_box_8 : decode cX4_box 8 = .ok (.invokestatic 33, 3) := by decide +kernel
theorem dX4_box_11 : decode cX4_box 11 = .ok (.ifCond .ne 6, 3) := by decide +kernel
theorem dX4_box_14 : decode cX4_box 14 = .ok (.ldc 37, 2) := by decide +kernel
theorem dX4_box_16 : decode cX4_box 16 = .ok (.ireturn, 1) := by decide +kernel
theorem dX4_box_17 : decode cX4_box 17 = .ok (.aload_n 0, 1) := by decide +kernel
theorem dX4_box_18 : decode cX4_box 18 = .ok (.getfield 10, 3) := by decide +kernel
end
section
theorem dX4_box_21 : decode cX4_box 21 = .ok (.iload_n 1, 1) := by decide +kernel
theorem dX4_box_22 : decode cX4_box 22 = .ok (.iload_n 2, 1) := by decide +kernel
theorem dX4_box_23 : decode cX4_box 23 = .ok (.invokevirtual 38, 3) := by decide +kernel
theorem dX4_box_26 : decode cX4_box 26 = .ok (.ifCond .ne 6, 3) := by decide +kernel
theorem dX4_box_29 : decode cX4_box 29 = .ok (.ldc 42, 2) := by decide +kernel
theorem dX4_box_31 : decode cX4_box 31 = .ok (.ireturn, 1) := by decide +kernel
theorem dX4_box_32 : decode cX4_box 32 = .ok (.aload_n 0, 1) := by decide +kernel
theorem dX4_box_33 : decode cX4_box 33 = .ok (.getfield 22, 3) := by decide +kernel
theorem dX4_box_36 : decode cX4_box 36 = .ok (.aload_n 0, 1) := by decide +kernel
theorem dX4_box_37 : decode cX4_box 37 = .ok (.getfield 10, 3) := by decide +kernel
theorem dX4_box_40 : decode cX4_box 40 = .ok (.invokevirtual 43, 3) := by decide +kernel
theorem dX4_box_43 : decode cX4_box 43 = .ok (.bipush 100, 2) := by decide +kernel
theorem dX4_box_45 : decode cX4_box 45 = .ok (.aload_n 0, 1) := by decide +kernel
theorem dX4_box_46 : decode cX4_box 46 = .ok (.getfield 10, 3) := by decide +kernel
theorem dX4_box_49 : decode cX4_box 49 = .ok (.getfield 47, 3) := by decide +kernel
theorem dX4_box_52 : decode cX4_box 52 = .ok (.imul, 1) := by decide +kernel
theorem dX4_box_53 : decode cX4_box 53 = .ok (.aload_n 0, 1) := by decide +kernel
theorem dX4_box_54 : decode cX4_box 54 = .ok (.getfield 10, 3) := by decide +kernel
theorem dX4_box_57 : decode cX4_box 57 = .ok (.getfield 51, 3) := by decide +kernel
theorem dX4_box_60 : decode cX4_box 60 = .ok (.iadd, 1) := by decide +kernel
theorem dX4_box_61 : decode cX4_box 61 = .ok (.istore_n 3, 1) := by decide +kernel
theorem dX4_box_62 : decode cX4_box 62 = .ok (.aload_n 0, 1) := by decide +kernel
theorem dX4_box_63 : decode cX4_box 63 = .ok (.getfield 10, 3) := by decide +kernel
theorem dX4_box_66 : decode cX4_box 66 = .ok (.iload_n 1, 1) := by decide +kernel
theorem dX4_box_67 : decode cX4_box 67 = .ok (.putfield 47, 3) := by decide +kernel
theorem dX4_box_70 : decode cX4_box 70 = .ok (.aload_n 0, 1) := by decide +kernel
theorem dX4_box_71 : decode cX4_box 71 = .ok (.getfield 10, 3) := by decide +kernel
theorem dX4_box_74 : decode cX4_box 74 = .ok (.iload_n 2, 1) := by decide +kernel
theorem dX4_box_75 : decode cX4_box 75 = .ok (.putfield 51, 3) := by decide +kernel
theorem dX4_box_78 : decode cX4_box 78 = .ok (.iload_n 3, 1) := by decide +kernel
theorem dX4_box_79 : decode cX4_box 79 = .ok (.ireturn, 1) := by decide +kernel
set_option maxRecDepth 20000 in
theorem ggX4_put_X1_examine : GoodIn wsX4_put wsX1_examine := goodIn_r _ [13, 14, 15, 16, 17, 18, 19, 20, 12, 21, 22, 23, 24, 25, 26, 27, 28, 29, 30, 31, 32, 33, 34, 35, 36, 37, 38, 39, 40, 41, 42, 43, 44, 45, 46, 47, 48, 49, 50, 51, 52, 53, 54, 55, 56, 57, 58, 59, 60, 61, 62, 63, 64, 65, 66, 67, 68, 69, 70, 71, 72, 73, 74, 75, 76, 77, 78, 79, 80, 81, 82, 83, 84, 85, 86, 87, 88, 89, 90, 91, 92, 93, 94, 95, 96, 97, 98, 99, 100, 101, 102, 103, 104, 105, 106, 107, 108, 109, 110, 111, 112, 113, 114, 115, 116, 117, 118, 119, 120, 152, 153, 154, 155, 156, 157, 158, 159, 160, 161, 162, 163, 164, 165, 166, 167] (by decide +kernel) (by decide +kernel)
set_option maxRecDepth 20000 in
theorem gX4_put_X1_examine : GoodIn wsX4_put (wsV RX4 54 RX1 yX1_examine wsX1_examine) := goodIn_app (goodIn_of _ (by decide +kernel)) ggX4_put_X1_examine
set_option maxRecDepth 20000 in
theorem ggX4_put_X2_keep : GoodIn wsX4_put wsX2_keep := goodIn_r _ [125, 126, 127, 128, 129, 130, 124, 131, 132, 133, 134, 135, 136, 94, 137, 96, 138, 139, 97, 98, 99, 100, 101, 102, 140, 141, 142, 51, 143, 53, 64, 65, 66, 67, 58, 68, 69, 70, 71, 59, 54, 55, 56, 57, 168, 169, 170, 171, 159, 160, 161, 162, 163, 164, 165, 166, 167] (by decide +kernel) (by decide +kernel)
set_option maxRecDepth 20000 in
theorem gX4_put_X2_keep : GoodIn wsX4_put (wsV RX4 43 RX2 yX2_keep wsX2_keep) := goodIn_app (goodIn_of _ (by decide +kernel)) ggX4_put_X2_keep
set_option maxRecDepth 20000 in
theorem ggX4_put_X3_add : GoodIn wsX4_put wsX3_add := goodIn_r _ [147, 96, 97, 98, 99, 94, 100, 101, 102, 140, 141, 142, 51, 143, 53, 64, 65, 66, 67, 58, 68, 69, 70, 71, 59, 54, 55, 56, 57, 159, 160, 161, 162, 163, 164, 165, 166, 167] (by decide +kernel) (by decide +kernel)
set_option maxRecDepth 20000 in
theorem gX4_put_X3_add : GoodIn wsX4_put (wsV RX4 68 RX3 yX3_add wsX3_add) := goodIn_app (goodIn_of _ (by decide +kernel)) ggX4_put_X3_add
theorem dX4_put_0 : decode cX4_put 0 = .ok (.aload_n 0, 1) := by decide +kernel
theorem dX4_put_1 : decode cX4_put 1 = .ok (.getfield 29, 3) := by decide +kernel
theorem dX4_put_4 : decode cX4_put 4 = .ok (.aload_n 0, 1) := by decide +kernel
theorem dX4_put_5 : decode cX4_put 5 = .ok (.getfield 10, 3) := by decide +kernel
theorem dX4_put_8 : decode cX4_put 8 = .ok (.invokevirtual 54, 3) := by decide +kernel
theorem dX4_put_11 : decode cX4_put 11 = .ok (.aload_n 0, 1) := by decide +kernel
theorem dX4_put_12 : decode cX4_put 12 = .ok (.getfield 29, 3) := by decide +kernel
theorem dX4_put_15 : decode cX4_put 15 = .ok (.getfield 57, 3) := by decide +kernel
theorem dX4_put_18 : decode cX4_put 18 = .ok (.ifCond .eq 6, 3) := by decide +kernel
theorem dX4_put_21 : decode cX4_put 21 = .ok (.ldc 42, 2) := by decide +kernel
theorem dX4_put_23 : decode cX4_put 23 = .ok (.ireturn, 1) := by decide +kernel
theorem dX4_put_24 : decode cX4_put 24 = .ok (.aload_n 0, 1) := by decide +kernel
theorem dX4_put_25 : decode cX4_put 25 = .ok (.getfield 10, 3) := by decide +kernel
theorem dX4_put_28 : decode cX4_put 28 = .ok (.getfield 60, 3) := by decide +kernel
theorem dX4_put_31 : decode cX4_put 31 = .ok (.bipush 8, 2) := by decide +kernel
theorem dX4_put_33 : decode cX4_put 33 = .ok (.if_icmp .lt 6, 3) := by decide +kernel
theorem dX4_put_36 : decode cX4_put 36 = .ok (.ldc 63, 2) := by decide +kernel
theorem dX4_put_38 : decode cX4_put 38 = .ok (.ireturn, 1) := by decide +kernel
theorem dX4_put_39 : decode cX4_put 39 = .ok (.aload_n 0, 1) := by decide +kernel
theorem dX4_put_40 : decode cX4_put 40 = .ok (.getfield 22, 3) := by decide +kernel
theorem dX4_put_43 : decode cX4_put 43 = .ok (.aload_n 0, 1) := by decide +kernel
theorem dX4_put_44 : decode cX4_put 44 = .ok (.getfield 10, 3) := by decide +kernel
theorem dX4_put_47 : decode cX4_put 47 = .ok (.invokevirtual 43, 3) := by decide +kernel
theorem dX4_put_50 : decode cX4_put 50 = .ok (.aload_n 0, 1) := by decide +kernel
theorem dX4_put_51 : decode cX4_put 51 = .ok (.getfield 10, 3) := by decide +kernel
theorem dX4_put_54 : decode cX4_put 54 = .ok (.aload_n 0, 1) := by decide +kernel
theorem dX4_put_55 : decode cX4_put 55 = .ok (.getfield 29, 3) := by decide +kernel
theorem dX4_put_58 : decode cX4_put 58 = .ok (.getfield 64, 3) := by decide +kernel
theorem dX4_put_61 : decode cX4_put 61 = .ok (.invokevirtual 68, 3) := by decide +kernel
theorem dX4_put_64 : decode cX4_put 64 = .ok (.ireturn, 1) := by decide +kernel
set_option maxRecDepth 20000 in
theorem ggX4_remove_X3_has : GoodIn wsX4_remove wsX3_has := goodIn_r _ [9, 10, 64, 65, 66, 67, 68, 69] (by decide +kernel) (by decide +kernel)
set_option maxRecDepth 20000 in
theorem gX4_remove_X3_has : GoodIn wsX4_remove (wsV RX4 72 RX3 yX3_has wsX3_has) := goodIn_app (goodIn_of _ (by decide +kernel)) ggX4_remove_X3_has
set_option maxRecDepth 20000 in
theorem ggX4_remove_X2_keep : GoodIn wsX4_remove wsX2_keep := goodIn_r _ [15, 16, 17, 18, 19, 20, 14, 21, 22, 23, 24, 25, 26, 8, 27, 10, 28, 29, 30, 31, 32, 33, 34, 35, 36, 37, 38, 39, 40, 41, 42, 43, 44, 45, 46, 47, 48, 49, 50, 51, 52, 53, 54, 55, 70, 71, 72, 73, 64, 65, 66, 67, 68, 69, 74, 75, 76] (by decide +kernel) (by decide +kernel)
set_option maxRecDepth 20000 in
theorem gX4_remove_X2_keep : GoodIn wsX4_remove (wsV RX4 43 RX2 yX2_keep wsX2_keep) := goodIn_app (goodIn_of _ (by decide +kernel)) ggX4_remove_X2_keep
set_option maxRecDepth 20000 in
theorem ggX4_remove_X3_takeOut : GoodIn wsX4_remove wsX3_takeOut := goodIn_r _ [59, 10, 30, 31, 32, 8, 33, 34, 35, 36, 37, 38, 39, 40, 41, 42, 43, 44, 45, 46, 47, 48, 49, 50, 51, 52, 53, 54, 55, 64, 65, 66, 67, 68, 69, 74, 75, 76] (by decide +kernel) (by decide +kernel)
set_option maxRecDepth 20000 in
theorem gX4_remove_X3_takeOut : GoodIn wsX4_remove (wsV RX4 75 RX3 yX3_takeOut wsX3_takeOut) := goodIn_app (goodIn_of _ (by decide +kernel)) ggX4_remove_X3_takeOut
theorem dX4_remove_0 : decode cX4_remove 0 = .ok (.aload_n 0, 1) := by decide +kernel
theorem dX4_remove_1 : decode cX4_remove 1 = .ok (.getfield 10, 3) := by decide +kernel
theorem dX4_remove_4 : decode cX4_remove 4 = .ok (.iload_n 1, 1) := by decide +kernel
theorem dX4_remove_5 : decode cX4_remove 5 = .ok (.invokevirtual 72, 3) := by decide +kernel
theorem dX4_remove_8 : decode cX4_remove 8 = .ok (.ifCond .ne 6, 3) := by decide +kernel
theorem dX4_remove_11 : decode cX4_remove 11 = .ok (.ldc 37, 2) := by decide +kernel
theorem dX4_remove_13 : decode cX4_remove 13 = .ok (.ireturn, 1) := by decide +kernel
theorem dX4_remove_14 : decode cX4_remove 14 = .ok (.aload_n 0, 1) := by decide +kernel
theorem dX4_remove_15 : decode cX4_remove 15 = .ok (.getfield 22, 3) := by decide +kernel
theorem dX4_remove_18 : decode cX4_remove 18 = .ok (.aload_n 0, 1) := by decide +kernel
theorem dX4_remove_19 : decode cX4_remove 19 = .ok (.getfield 10, 3) := by decide +kernel
theorem dX4_remove_22 : decode cX4_remove 22 = .ok (.invokevirtual 43, 3) := by decide +kernel
theorem dX4_remove_25 : decode cX4_remove 25 = .ok (.aload_n 0, 1) := by decide +kernel
theorem dX4_remove_26 : decode cX4_remove 26 = .ok (.getfield 10, 3) := by decide +kernel
theorem dX4_remove_29 : decode cX4_remove 29 = .ok (.iload_n 1, 1) := by decide +kernel
theorem dX4_remove_30 : decode cX4_remove 30 = .ok (.invokevirtual 75, 3) := by decide +kernel
theorem dX4_remove_33 : decode cX4_remove 33 = .ok (.aload_n 0, 1) := by decide +kernel
theorem dX4_remove_34 : decode cX4_remove 34 = .ok (.getfield 10, 3) := by decide +kernel
theorem dX4_remove_37 : decode cX4_remove 37 = .ok (.getfield 60, 3) := by decide +kernel
theorem dX4_remove_40 : decode cX4_remove 40 = .ok (.ireturn, 1) := by decide +kernel
set_option maxRecDepth 20000 in
theorem ggX4_empty_X2_keep : GoodIn wsX4_empty wsX2_keep := goodIn_r _ [8, 9, 10, 11, 12, 13, 7, 14, 15, 16, 17, 18, 19, 20, 21, 22, 23, 24, 25, 26, 27, 28, 29, 30, 31, 32, 33, 34, 35, 36, 37, 38, 39, 40, 41, 42, 43, 44, 45, 46, 47, 48, 49, 50, 61, 62, 63, 64, 55, 56, 57, 58, 59, 60, 65, 66, 67] (by decide +kernel) (by decide +kernel)
set_option maxRecDepth 20000 in
theorem gX4_empty_X2_keep : GoodIn wsX4_empty (wsV RX4 43 RX2 yX2_keep wsX2_keep) := goodIn_app (goodIn_of _ (by decide +kernel)) ggX4_empty_X2_keep
theorem dX4_empty_0 : decode cX4_empty 0 = .ok (.aload_n 0, 1) := by decide +kernel
theorem dX4_empty_1 : decode cX4_empty 1 = .ok (.getfield 22, 3) := by decide +kernel
theorem dX4_empty_4 : decode cX4_empty 4 = .ok (.aload_n 0, 1) := by decide +kernel
theorem dX4_empty_5 : decode cX4_empty 5 = .ok (.getfield 10, 3) := by decide +kernel
theorem dX4_empty_8 : decode cX4_empty 8 = .ok (.invokevirtual 43, 3) := by decide +kernel
theorem dX4_empty_11 : decode cX4_empty 11 = .ok (.aload_n 0, 1) := by decide +kernel
theorem dX4_empty_12 : decode cX4_empty 12 = .ok (.getfield 10, 3) := by decide +kernel
theorem dX4_empty_15 : decode cX4_empty 15 = .ok (.getfield 60, 3) := by decide +kernel
theorem dX4_empty_18 : decode cX4_empty 18 = .ok (.istore_n 1, 1) := by decide +kernel
theorem dX4_empty_19 : decode cX4_empty 19 = .ok (.aload_n 0, 1) := by decide +kernel
theorem dX4_empty_20 : decode cX4_empty 20 = .ok (.getfield 10, 3) := by decide +kernel
theorem dX4_empty_23 : decode cX4_empty 23 = .ok (.iconst 0, 1) := by decide +kernel
theorem dX4_empty_24 : decode cX4_empty 24 = .ok (.putfield 60, 3) := by decide +kernel
theorem dX4_empty_27 : decode cX4_empty 27 = .ok (.iload_n 1, 1) := by decide +kernel
theorem dX4_empty_28 : decode cX4_empty 28 = .ok (.ireturn, 1) := by decide +kernel
set_option maxRecDepth 20000 in
theorem ggX4_slide_X3_has : GoodIn wsX4_slide wsX3_has := goodIn_r _ [9, 10, 129, 130, 131, 132, 133, 134] (by decide +kernel) (by decide +kernel)
set_option maxRecDepth 20000 in
theorem gX4_slide_X3_has : GoodIn wsX4_slide (wsV RX4 72 RX3 yX3_has wsX3_has) := goodIn_app (goodIn_of _ (by decide +kernel)) ggX4_slide_X3_has
set_option maxRecDepth 20000 in
theorem ggX4_slide_X4_isDirection : GoodIn wsX4_slide wsX4_isDirection := goodIn_r _ [14] (by decide +kernel) (by decide +kernel)
set_option maxRecDepth 20000 in
theorem gX4_slide_X4_isDirection : GoodIn wsX4_slide (va_wsS RX4 79 yX4_isDirection wsX4_isDirection) := goodIn_app (goodIn_of _ (by decide +kernel)) ggX4_slide_X4_isDirection
set_option maxRecDepth 20000 in
theorem ggX4_slide_X3_freeSteps : GoodIn wsX4_slide wsX3_freeSteps := goodIn_r _ [18, 19, 20, 21, 22, 23, 24, 8, 25, 26, 27, 28, 29, 30, 31, 32, 33, 34, 35, 36, 37, 38, 39, 40, 41, 42, 43, 44, 45, 46, 47, 48, 13, 49, 50, 51, 52, 53, 54, 55, 56, 57, 58, 59, 60, 61, 62, 63, 64, 65, 66, 67, 68, 69, 70, 71, 72, 73, 74, 75, 76, 77, 78, 79, 80, 81, 82, 83, 84, 85, 86, 87, 88, 10, 89, 90, 91, 92, 93, 94, 95, 96, 97, 98, 99, 100, 101, 102, 103, 129, 130, 131, 132, 133, 134, 135, 136, 137] (by decide +kernel) (by decide +kernel)
set_option maxRecDepth 20000 in
theorem gX4_slide_X3_freeSteps : GoodIn wsX4_slide (wsV RX4 82 RX3 yX3_freeSteps wsX3_freeSteps) := goodIn_app (goodIn_of _ (by decide +kernel)) ggX4_slide_X3_freeSteps
set_option maxRecDepth 20000 in
theorem ggX4_slide_X2_keep : GoodIn wsX4_slide wsX2_keep := goodIn_r _ [108, 109, 110, 111, 112, 113, 107, 114, 115, 116, 117, 118, 119, 8, 120, 10, 20, 21, 22, 23, 24, 25, 26, 27, 28, 29, 30, 31, 32, 33, 34, 35, 36, 37, 38, 39, 40, 41, 42, 43, 44, 45, 46, 47, 138, 139, 140, 141, 129, 130, 131, 132, 133, 134, 135, 136, 137] (by decide +kernel) (by decide +kernel)
set_option maxRecDepth 20000 in
theorem gX4_slide_X2_keep : GoodIn wsX4_slide (wsV RX4 43 RX2 yX2_keep wsX2_keep) := goodIn_app (goodIn_of _ (by decide +kernel)) ggX4_slide_X2_keep
set_option maxRecDepth 20000 in
theorem ggX4_slide_X3_shift : GoodIn wsX4_slide wsX3_shift := goodIn_r _ [124, 22, 23, 24, 8, 25, 26, 27, 48, 13, 49, 50, 51, 52, 53, 54, 55, 56, 31, 57, 33, 34, 35, 36, 37, 38, 39, 40, 41, 42, 43, 44, 45, 46, 47, 129, 130, 131, 132, 133, 134, 135, 136, 137] (by decide +kernel) (by decide +kernel)
set_option maxRecDepth 20000 in
theorem gX4_slide_X3_shift : GoodIn wsX4_slide (wsV RX4 86 RX3 yX3_shift wsX3_shift) := goodIn_app (goodIn_of _ (by decide +kernel)) ggX4_slide_X3_shift
theorem dX4_slide_0 : decode cX4_slide 0 = .ok (.aload_n 0, 1) := by decide +kernel
theorem dX4_slide_1 : decode cX4_slide 1 = .ok (.getfield 10, 3) := by decide +kernel
theorem dX4_slide_4 : decode cX4_slide 4 = .ok (.iload_n 1, 1) := by decide +kernel
theorem dX4_slide_5 : decode cX4_slide 5 = .ok (.invokevirtual 72, 3) := by decide +kernel
theorem dX4_slide_8 : decode cX4_slide 8 = .ok (.ifCond .eq 21, 3) := by decide +kernel
theorem dX4_slide_11 : decode cX4_slide 11 = .ok (.iload_n 2, 1) := by decide +kernel
theorem dX4_slide_12 : decode cX4_slide 12 = .ok (.invokestatic 79, 3) := by decide +kernel
theorem dX4_slide_15 : decode cX4_slide 15 = .ok (.ifCond .eq 14, 3) := by decide +kernel
theorem dX4_slide_18 : decode cX4_slide 18 = .ok (.iload_n 3, 1) := by decide +kernel
theorem dX4_slide_19 : decode cX4_slide 19 = .ok (.iconst 1, 1) := by decide +kernel
theorem dX4_slide_20 : decode cX4_slide 20 = .ok (.if_icmp .lt 9, 3) := by decide +kernel
theorem dX4_slide_23 : decode cX4_slide 23 = .ok (.iload_n 3, 1) := by decide +kernel
theorem dX4_slide_24 : decode cX4_slide 24 = .ok (.bipush 60, 2) := by decide +kernel
theorem dX4_slide_26 : decode cX4_slide 26 = .ok (.if_icmp .le 6, 3) := by decide +kernel
theorem dX4_slide_29 : decode cX4_slide 29 = .ok (.ldc 37, 2) := by decide +kernel
theorem dX4_slide_31 : decode cX4_slide 31 = .ok (.ireturn, 1) := by decide +kernel
theorem dX4_slide_32 : decode cX4_slide 32 = .ok (.aload_n 0, 1) := by decide +kernel
theorem dX4_slide_33 : decode cX4_slide 33 = .ok (.getfield 10, 3) := by decide +kernel
theorem dX4_slide_36 : decode cX4_slide 36 = .ok (.iload_n 1, 1) := by decide +kernel
theorem dX4_slide_37 : decode cX4_slide 37 = .ok (.iload_n 2, 1) := by decide +kernel
theorem dX4_slide_38 : decode cX4_slide 38 = .ok (.iload_n 3, 1) := by decide +kernel
theorem dX4_slide_39 : decode cX4_slide 39 = .ok (.invokevirtual 82, 3) := by decide +kernel
theorem dX4_slide_42 : decode cX4_slide 42 = .ok (.istore 4, 2) := by decide +kernel
theorem dX4_slide_44 : decode cX4_slide 44 = .ok (.iload 4, 2) := by decide +kernel
theorem dX4_slide_46 : decode cX4_slide 46 = .ok (.ifCond .ne 6, 3) := by decide +kernel
theorem dX4_slide_49 : decode cX4_slide 49 = .ok (.ldc 42, 2) := by decide +kernel
theorem dX4_slide_51 : decode cX4_slide 51 = .ok (.ireturn, 1) := by decide +kernel
theorem dX4_slide_52 : decode cX4_slide 52 = .ok (.aload_n 0, 1) := by decide +kernel
theorem dX4_slide_53 : decode cX4_slide 53 = .ok (.getfield 22, 3) := by decide +kernel
theorem dX4_slide_56 : decode cX4_slide 56 = .ok (.aload_n 0, 1) := by decide +kernel
theorem dX4_slide_57 : decode cX4_slide 57 = .ok (.getfield 10, 3) := by decide +kernel
theorem dX4_slide_60 : decode cX4_slide 60 = .ok (.invokevirtual 43, 3) := by decide +kernel
theorem dX4_slide_63 : decode cX4_slide 63 = .ok (.aload_n 0, 1) := by decide +kernel
theorem dX4_slide_64 : decode cX4_slide 64 = .ok (.getfield 10, 3) := by decide +kernel
theorem dX4_slide_67 : decode cX4_slide 67 = .ok (.iload_n 1, 1) := by decide +kernel
theorem dX4_slide_68 : decode cX4_slide 68 = .ok (.iload_n 2, 1) := by decide +kernel
theorem dX4_slide_69 : decode cX4_slide 69 = .ok (.iload 4, 2) := by decide +kernel
theorem dX4_slide_71 : decode cX4_slide 71 = .ok (.invokevirtual 86, 3) := by decide +kernel
theorem dX4_slide_74 : decode cX4_slide 74 = .ok (.iload 4, 2) := by decide +kernel
theorem dX4_slide_76 : decode cX4_slide 76 = .ok (.ireturn, 1) := by decide +kernel
set_option maxRecDepth 20000 in
theorem ggX4_turn_X3_has : GoodIn wsX4_turn wsX3_has := goodIn_r _ [9, 10, 120, 121, 122, 123, 124, 125] (by decide +kernel) (by decide +kernel)
set_option maxRecDepth 20000 in
theorem gX4_turn_X3_has : GoodIn wsX4_turn (wsV RX4 72 RX3 yX3_has wsX3_has) := goodIn_app (goodIn_of _ (by decide +kernel)) ggX4_turn_X3_has
set_option maxRecDepth 20000 in
theorem ggX4_turn_X3_canTurn : GoodIn wsX4_turn wsX3_canTurn := goodIn_r _ [14, 15, 16, 17, 18, 19, 20, 8, 21, 22, 23, 24, 25, 26, 27, 28, 29, 30, 31, 32, 33, 34, 35, 36, 37, 38, 39, 40, 41, 42, 43, 44, 45, 46, 47, 48, 49, 50, 51, 52, 53, 54, 55, 56, 57, 58, 59, 60, 61, 62, 63, 64, 65, 66, 67, 68, 69, 70, 71, 72, 73, 74, 75, 76, 77, 78, 10, 79, 80, 81, 82, 83, 84, 85, 86, 87, 88, 89, 90, 91, 92, 93, 94, 120, 121, 122, 123, 124, 125, 126, 127, 128] (by decide +kernel) (by decide +kernel)
set_option maxRecDepth 20000 in
theorem gX4_turn_X3_canTurn : GoodIn wsX4_turn (wsV RX4 90 RX3 yX3_canTurn wsX3_canTurn) := goodIn_app (goodIn_of _ (by decide +kernel)) ggX4_turn_X3_canTurn
set_option maxRecDepth 20000 in
theorem ggX4_turn_X2_keep : GoodIn wsX4_turn wsX2_keep := goodIn_r _ [99, 100, 101, 102, 103, 104, 98, 105, 106, 107, 108, 109, 110, 8, 111, 10, 16, 17, 18, 19, 20, 21, 22, 23, 24, 25, 26, 27, 28, 29, 30, 31, 32, 33, 34, 35, 36, 37, 38, 39, 40, 41, 42, 43, 129, 130, 131, 132, 120, 121, 122, 123, 124, 125, 126, 127, 128] (by decide +kernel) (by decide +kernel)
set_option maxRecDepth 20000 in
theorem gX4_turn_X2_keep : GoodIn wsX4_turn (wsV RX4 43 RX2 yX2_keep wsX2_keep) := goodIn_app (goodIn_of _ (by decide +kernel)) ggX4_turn_X2_keep
set_option maxRecDepth 20000 in
theorem ggX4_turn_X3_at : GoodIn wsX4_turn wsX3_at := goodIn_r _ [21, 22, 23, 120, 121, 122, 123, 124, 125] (by decide +kernel) (by decide +kernel)
set_option maxRecDepth 20000 in
theorem gX4_turn_X3_at : GoodIn wsX4_turn (wsV RX4 93 RX3 yX3_at wsX3_at) := goodIn_app (goodIn_of _ (by decide +kernel)) ggX4_turn_X3_at
set_option maxRecDepth 20000 in
theorem ggX4_turn_X0_turnLeft : GoodIn wsX4_turn wsX0_turnLeft := goodIn_r _ [47, 29, 48, 49, 50, 27, 51, 52, 53, 54, 55, 30, 31, 32, 33, 34, 56, 57, 58, 59, 35, 36, 37, 38, 39, 60, 61, 62, 63, 64, 65, 66, 40, 41, 42, 43, 126, 127, 128] (by decide +kernel) (by decide +kernel)
set_option maxRecDepth 20000 in
theorem gX4_turn_X0_turnLeft : GoodIn wsX4_turn (wsV RX4 97 RX0 yX0_turnLeft wsX0_turnLeft) := goodIn_app (goodIn_of _ (by decide +kernel)) ggX4_turn_X0_turnLeft
set_option maxRecDepth 20000 in
theorem ggX4_turn_X0_right : GoodIn wsX4_turn wsX0_right := goodIn_r _ [74, 29, 64, 65, 54, 66, 30, 31, 32, 27, 33, 34, 126, 127, 128] (by decide +kernel) (by decide +kernel)
set_option maxRecDepth 20000 in
theorem gX4_turn_X0_right : GoodIn wsX4_turn (wsV RX4 102 RX0 yX0_right wsX0_right) := goodIn_app (goodIn_of _ (by decide +kernel)) ggX4_turn_X0_right
set_option maxRecDepth 20000 in
theorem ggX4_turn_X0_left : GoodIn wsX4_turn wsX0_left := goodIn_r _ [51, 29, 52, 53, 54, 55, 30, 31, 32, 27, 33, 34, 126, 127, 128] (by decide +kernel) (by decide +kernel)
set_option maxRecDepth 20000 in
theorem gX4_turn_X0_left : GoodIn wsX4_turn (wsV RX4 106 RX0 yX0_left wsX0_left) := goodIn_app (goodIn_of _ (by decide +kernel)) ggX4_turn_X0_left
theorem dX4_turn_0 : decode cX4_turn 0 = .ok (.aload_n 0, 1) := by decide +kernel
theorem dX4_turn_1 : decode cX4_turn 1 = .ok (.getfield 10, 3) := by decide +kernel
theorem dX4_turn_4 : decode cX4_turn 4 = .ok (.iload_n 1, 1) := by decide +kernel
theorem dX4_turn_5 : decode cX4_turn 5 = .ok (.invokevirtual 72, 3) := by decide +kernel
theorem dX4_turn_8 : decode cX4_turn 8 = .ok (.ifCond .ne 6, 3) := by decide +kernel
theorem dX4_turn_11 : decode cX4_turn 11 = .ok (.ldc 37, 2) := by decide +kernel
theorem dX4_turn_13 : decode cX4_turn 13 = .ok (.ireturn, 1) := by decide +kernel
theorem dX4_turn_14 : decode cX4_turn 14 = .ok (.aload_n 0, 1) := by decide +kernel
theorem dX4_turn_15 : decode cX4_turn 15 = .ok (.getfield 10, 3) := by decide +kernel
theorem dX4_turn_18 : decode cX4_turn 18 = .ok (.iload_n 1, 1) := by decide +kernel
theorem dX4_turn_19 : decode cX4_turn 19 = .ok (.invokevirtual 90, 3) := by decide +kernel
theorem dX4_turn_22 : decode cX4_turn 22 = .ok (.ifCond .ne 6, 3) := by decide +kernel
theorem dX4_turn_25 : decode cX4_turn 25 = .ok (.ldc 42, 2) := by decide +kernel
theorem dX4_turn_27 : decode cX4_turn 27 = .ok (.ireturn, 1) := by decide +kernel
theorem dX4_turn_28 : decode cX4_turn 28 = .ok (.aload_n 0, 1) := by decide +kernel
theorem dX4_turn_29 : decode cX4_turn 29 = .ok (.getfield 22, 3) := by decide +kernel
theorem dX4_turn_32 : decode cX4_turn 32 = .ok (.aload_n 0, 1) := by decide +kernel
theorem dX4_turn_33 : decode cX4_turn 33 = .ok (.getfield 10, 3) := by decide +kernel
theorem dX4_turn_36 : decode cX4_turn 36 = .ok (.invokevirtual 43, 3) := by decide +kernel
theorem dX4_turn_39 : decode cX4_turn 39 = .ok (.aload_n 0, 1) := by decide +kernel
theorem dX4_turn_40 : decode cX4_turn 40 = .ok (.getfield 10, 3) := by decide +kernel
theorem dX4_turn_43 : decode cX4_turn 43 = .ok (.iload_n 1, 1) := by decide +kernel
theorem dX4_turn_44 : decode cX4_turn 44 = .ok (.invokevirtual 93, 3) := by decide +kernel
theorem dX4_turn_47 : decode cX4_turn 47 = .ok (.astore_n 2, 1) := by decide +kernel
theorem dX4_turn_48 : decode cX4_turn 48 = .ok (.aload_n 2, 1) := by decide +kernel
theorem dX4_turn_49 : decode cX4_turn 49 = .ok (.invokevirtual 97, 3) := by decide +kernel
theorem dX4_turn_52 : decode cX4_turn 52 = .ok (.aload_n 2, 1) := by decide +kernel
theorem dX4_turn_53 : decode cX4_turn 53 = .ok (.invokevirtual 102, 3) := by decide +kernel
theorem dX4_turn_56 : decode cX4_turn 56 = .ok (.aload_n 2, 1) := by decide +kernel
theorem dX4_turn_57 : decode cX4_turn 57 = .ok (.invokevirtual 106, 3) := by decide +kernel
theorem dX4_turn_60 : decode cX4_turn 60 = .ok (.isub, 1) := by decide +kernel
theorem dX4_turn_61 : decode cX4_turn 61 = .ok (.ireturn, 1) := by decide +kernel
set_option maxRecDepth 20000 in
theorem ggX4_settle_X4_isDirection : GoodIn wsX4_settle wsX4_isDirection := goodIn_r _ [7] (by decide +kernel) (by decide +kernel)
set_option maxRecDepth 20000 in
theorem gX4_settle_X4_isDirection : GoodIn wsX4_settle (va_wsS RX4 79 yX4_isDirection wsX4_isDirection) := goodIn_app (goodIn_of _ (by decide +kernel)) ggX4_settle_X4_isDirection
set_option maxRecDepth 20000 in
theorem ggX4_settle_X2_keep : GoodIn wsX4_settle wsX2_keep := goodIn_r _ [12, 13, 14, 15, 16, 17, 11, 18, 19, 20, 21, 22, 23, 24, 25, 26, 27, 28, 29, 30, 31, 32, 33, 34, 35, 36, 37, 38, 39, 40, 41, 42, 43, 44, 45, 46, 47, 48, 49, 50, 51, 52, 53, 54, 128, 129, 130, 131, 132, 133, 134, 135, 136, 137, 138, 139, 140] (by decide +kernel) (by decide +kernel)
set_option maxRecDepth 20000 in
theorem gX4_settle_X2_keep : GoodIn wsX4_settle (wsV RX4 43 RX2 yX2_keep wsX2_keep) := goodIn_app (goodIn_of _ (by decide +kernel)) ggX4_settle_X2_keep
set_option maxRecDepth 20000 in
theorem ggX4_settle_X3_settleAll : GoodIn wsX4_settle wsX3_settleAll := goodIn_r _ [58, 26, 59, 60, 61, 24, 62, 63, 27, 28, 29, 30, 31, 32, 33, 34, 35, 36, 37, 38, 39, 40, 41, 42, 43, 44, 45, 46, 47, 48, 49, 50, 51, 52, 53, 54, 64, 6, 65, 66, 67, 68, 69, 70, 71, 72, 73, 74, 75, 76, 77, 78, 79, 80, 81, 82, 83, 84, 85, 86, 87, 88, 89, 90, 91, 92, 93, 94, 95, 96, 97, 98, 99, 100, 101, 102, 103, 104, 105, 106, 107, 108, 109, 110, 111, 112, 113, 114, 115, 116, 117, 118, 119, 120, 121, 122, 123, 132, 133, 134, 135, 136, 137, 138, 139, 140] (by decide +kernel) (by decide +kernel)
set_option maxRecDepth 20000 in
theorem gX4_settle_X3_settleAll : GoodIn wsX4_settle (wsV RX4 109 RX3 yX3_settleAll wsX3_settleAll) := goodIn_app (goodIn_of _ (by decide +kernel)) ggX4_settle_X3_settleAll
theorem dX4_settle_0 : decode cX4_settle 0 = .ok (.iload_n 1, 1) := by decide +kernel
theorem dX4_settle_1 : decode cX4_settle 1 = .ok (.invokestatic 79, 3) := by decide +kernel
theorem dX4_settle_4 : decode cX4_settle 4 = .ok (.ifCond .ne 6, 3) := by decide +kernel
theorem dX4_settle_7 : decode cX4_settle 7 = .ok (.ldc 37, 2) := by decide +kernel
theorem dX4_settle_9 : decode cX4_settle 9 = .ok (.ireturn, 1) := by decide +kernel
theorem dX4_settle_10 : decode cX4_settle 10 = .ok (.aload_n 0, 1) := by decide +kernel
theorem dX4_settle_11 : decode cX4_settle 11 = .ok (.getfield 22, 3) := by decide +kernel
theorem dX4_settle_14 : decode cX4_settle 14 = .ok (.aload_n 0, 1) := by decide +kernel
theorem dX4_settle_15 : decode cX4_settle 15 = .ok (.getfield 10, 3) := by decide +kernel
theorem dX4_settle_18 : decode cX4_settle 18 = .ok (.invokevirtual 43, 3) := by decide +kernel
theorem dX4_settle_21 : decode cX4_settle 21 = .ok (.aload_n 0, 1) := by decide +kernel
theorem dX4_settle_22 : decode cX4_settle 22 = .ok (.getfield 10, 3) := by decide +kernel
theorem dX4_settle_25 : decode cX4_settle 25 = .ok (.iload_n 1, 1) := by decide +kernel
theorem dX4_settle_26 : decode cX4_settle 26 = .ok (.invokevirtual 109, 3) := by decide +kernel
theorem dX4_settle_29 : decode cX4_settle 29 = .ok (.ireturn, 1) := by decide +kernel
set_option maxRecDepth 20000 in
theorem ggX4_bodyOf_X3_has : GoodIn wsX4_bodyOf wsX3_has := goodIn_r _ [10, 11, 141, 142, 143, 144, 145, 146] (by decide +kernel) (by decide +kernel)
set_option maxRecDepth 20000 in
theorem gX4_bodyOf_X3_has : GoodIn wsX4_bodyOf (wsV RX4 72 RX3 yX3_has wsX3_has) := goodIn_app (goodIn_of _ (by decide +kernel)) ggX4_bodyOf_X3_has
set_option maxRecDepth 20000 in
theorem ggX4_bodyOf_X3_at : GoodIn wsX4_bodyOf wsX3_at := goodIn_r _ [15, 16, 17, 141, 142, 143, 144, 145, 146] (by decide +kernel) (by decide +kernel)
set_option maxRecDepth 20000 in
theorem gX4_bodyOf_X3_at : GoodIn wsX4_bodyOf (wsV RX4 93 RX3 yX3_at wsX3_at) := goodIn_app (goodIn_of _ (by decide +kernel)) ggX4_bodyOf_X3_at
set_option maxRecDepth 20000 in
theorem ggX4_bodyOf_X0_doubleArea : GoodIn wsX4_bodyOf wsX0_doubleArea := goodIn_r _ [22, 23, 24, 25, 26, 21, 27, 28, 29, 30, 31, 32, 33, 34, 35, 36, 37, 138, 139, 140] (by decide +kernel) (by decide +kernel)
set_option maxRecDepth 20000 in
theorem gX4_bodyOf_X0_doubleArea : GoodIn wsX4_bodyOf (wsV RX4 116 RX0 yX0_doubleArea wsX0_doubleArea) := goodIn_app (goodIn_of _ (by decide +kernel)) ggX4_bodyOf_X0_doubleArea
set_option maxRecDepth 20000 in
theorem ggX4_bodyOf_X0_left : GoodIn wsX4_bodyOf wsX0_left := goodIn_r _ [41, 23, 42, 43, 44, 45, 28, 29, 30, 21, 31, 32, 138, 139, 140] (by decide +kernel) (by decide +kernel)
set_option maxRecDepth 20000 in
theorem gX4_bodyOf_X0_left : GoodIn wsX4_bodyOf (wsV RX4 106 RX0 yX0_left wsX0_left) := goodIn_app (goodIn_of _ (by decide +kernel)) ggX4_bodyOf_X0_left
set_option maxRecDepth 20000 in
theorem ggX4_bodyOf_X0_right : GoodIn wsX4_bodyOf wsX0_right := goodIn_r _ [49, 23, 50, 51, 44, 52, 28, 29, 30, 21, 31, 32, 138, 139, 140] (by decide +kernel) (by decide +kernel)
set_option maxRecDepth 20000 in
theorem gX4_bodyOf_X0_right : GoodIn wsX4_bodyOf (wsV RX4 102 RX0 yX0_right wsX0_right) := goodIn_app (goodIn_of _ (by decide +kernel)) ggX4_bodyOf_X0_right
set_option maxRecDepth 20000 in
theorem ggX4_bodyOf_X0_low : GoodIn wsX4_bodyOf wsX0_low := goodIn_r _ [56, 23, 42, 43, 44, 45, 33, 34, 35, 21, 36, 37, 138, 139, 140] (by decide +kernel) (by decide +kernel)
set_option maxRecDepth 20000 in
theorem gX4_bodyOf_X0_low : GoodIn wsX4_bodyOf (wsV RX4 119 RX0 yX0_low wsX0_low) := goodIn_app (goodIn_of _ (by decide +kernel)) ggX4_bodyOf_X0_low
set_option maxRecDepth 20000 in
theorem ggX4_bodyOf_X0_high : GoodIn wsX4_bodyOf wsX0_high := goodIn_r _ [60, 23, 50, 51, 44, 52, 33, 34, 35, 21, 36, 37, 138, 139, 140] (by decide +kernel) (by decide +kernel)
set_option maxRecDepth 20000 in
theorem gX4_bodyOf_X0_high : GoodIn wsX4_bodyOf (wsV RX4 122 RX0 yX0_high wsX0_high) := goodIn_app (goodIn_of _ (by decide +kernel)) ggX4_bodyOf_X0_high
set_option maxRecDepth 20000 in
theorem ggX4_bodyOf_X0_wallsTouched : GoodIn wsX4_bodyOf wsX0_wallsTouched := goodIn_r _ [64, 65, 39, 40, 21, 41, 23, 42, 43, 44, 45, 28, 29, 30, 31, 32, 66, 47, 48, 49, 50, 51, 52, 67, 54, 55, 56, 33, 34, 35, 36, 37, 68, 58, 59, 60, 138, 139, 140] (by decide +kernel) (by decide +kernel)
set_option maxRecDepth 20000 in
theorem gX4_bodyOf_X0_wallsTouched : GoodIn wsX4_bodyOf (wsV RX4 125 RX0 yX0_wallsTouched wsX0_wallsTouched) := goodIn_app (goodIn_of _ (by decide +kernel)) ggX4_bodyOf_X0_wallsTouched
set_option maxRecDepth 20000 in
theorem ggX4_bodyOf_X3_touching : GoodIn wsX4_bodyOf wsX3_touching := goodIn_r _ [72, 11, 73, 43, 44, 45, 74, 13, 14, 9, 15, 16, 17, 75, 76, 77, 21, 78, 23, 42, 79, 80, 81, 82, 83, 50, 51, 52, 24, 25, 26, 27, 28, 29, 30, 31, 32, 33, 34, 35, 36, 37, 84, 85, 86, 141, 142, 143, 144, 145, 146, 138, 139, 140] (by decide +kernel) (by decide +kernel)
set_option maxRecDepth 20000 in
theorem gX4_bodyOf_X3_touching : GoodIn wsX4_bodyOf (wsV RX4 129 RX3 yX3_touching wsX3_touching) := goodIn_app (goodIn_of _ (by decide +kernel)) ggX4_bodyOf_X3_touching
set_option maxRecDepth 20000 in
theorem ggX4_bodyOf_X3_freeDirections : GoodIn wsX4_bodyOf wsX3_freeDirections := goodIn_r _ [90, 91, 92, 93, 9, 94, 95, 96, 97, 74, 13, 14, 15, 16, 17, 98, 99, 100, 21, 101, 23, 28, 29, 30, 31, 32, 33, 34, 35, 36, 37, 102, 103, 104, 105, 106, 85, 107, 108, 109, 110, 111, 112, 113, 114, 115, 116, 117, 118, 119, 65, 39, 40, 41, 42, 43, 44, 45, 66, 47, 48, 49, 50, 51, 52, 67, 54, 55, 56, 68, 58, 59, 60, 120, 121, 122, 123, 11, 75, 76, 77, 78, 79, 80, 81, 82, 83, 24, 25, 26, 27, 84, 86, 141, 142, 143, 144, 145, 146, 138, 139, 140] (by decide +kernel) (by decide +kernel)
set_option maxRecDepth 20000 in
theorem gX4_bodyOf_X3_freeDirections : GoodIn wsX4_bodyOf (wsV RX4 132 RX3 yX3_freeDirections wsX3_freeDirections) := goodIn_app (goodIn_of _ (by decide +kernel)) ggX4_bodyOf_X3_freeDirections
set_option maxRecDepth 20000 in
theorem ggX4_bodyOf_X3_jammed : GoodIn wsX4_bodyOf wsX3_jammed := goodIn_r _ [127, 11, 91, 92, 93, 9, 94, 95, 96, 97, 74, 13, 14, 15, 16, 17, 98, 99, 100, 21, 101, 23, 28, 29, 30, 31, 32, 33, 34, 35, 36, 37, 102, 103, 104, 105, 106, 85, 107, 108, 109, 110, 111, 112, 113, 114, 115, 116, 117, 118, 119, 65, 39, 40, 41, 42, 43, 44, 45, 66, 47, 48, 49, 50, 51, 52, 67, 54, 55, 56, 68, 58, 59, 60, 120, 121, 122, 123, 75, 76, 77, 78, 79, 80, 81, 82, 83, 24, 25, 26, 27, 84, 86, 141, 142, 143, 144, 145, 146, 138, 139, 140] (by decide +kernel) (by decide +kernel)
set_option maxRecDepth 20000 in
theorem gX4_bodyOf_X3_jammed : GoodIn wsX4_bodyOf (wsV RX4 135 RX3 yX3_jammed wsX3_jammed) := goodIn_app (goodIn_of _ (by decide +kernel)) ggX4_bodyOf_X3_jammed
set_option maxRecDepth 20000 in
theorem ggX4_bodyOf_X4_placeOfCorner : GoodIn wsX4_bodyOf wsX4_placeOfCorner := goodIn_r _ [130, 3, 131, 132, 29, 30, 21, 31, 32, 133, 34, 35, 36, 37, 138, 139, 140] (by decide +kernel) (by decide +kernel)
set_option maxRecDepth 20000 in
theorem gX4_bodyOf_X4_placeOfCorner : GoodIn wsX4_bodyOf (va_wsS RX4 138 yX4_placeOfCorner wsX4_placeOfCorner) := goodIn_app (goodIn_of _ (by decide +kernel)) ggX4_bodyOf_X4_placeOfCorner
theorem dX4_bodyOf_0 : decode cX4_bodyOf 0 = .ok (.aload_n 0, 1) := by decide +kernel
theorem dX4_bodyOf_1 : decode cX4_bodyOf 1 = .ok (.getfield 10, 3) := by decide +kernel
theorem dX4_bodyOf_4 : decode cX4_bodyOf 4 = .ok (.iload_n 1, 1) := by decide +kernel
theorem dX4_bodyOf_5 : decode cX4_bodyOf 5 = .ok (.invokevirtual 72, 3) := by decide +kernel
theorem dX4_bodyOf_8 : decode cX4_bodyOf 8 = .ok (.ifCond .eq 13, 3) := by decide +kernel
theorem dX4_bodyOf_11 : decode cX4_bodyOf 11 = .ok (.iload_n 2, 1) := by decide +kernel
theorem dX4_bodyOf_12 : decode cX4_bodyOf 12 = .ok (.ifCond .lt 9, 3) := by decide +kernel
theorem dX4_bodyOf_15 : decode cX4_bodyOf 15 = .ok (.iload_n 2, 1) := by decide +kernel
theorem dX4_bodyOf_16 : decode cX4_bodyOf 16 = .ok (.bipush 22, 2) := by decide +kernel
theorem dX4_bodyOf_18 : decode cX4_bodyOf 18 = .ok (.if_icmp .lt 6, 3) := by decide +kernel
theorem dX4_bodyOf_21 : decode cX4_bodyOf 21 = .ok (.ldc 37, 2) := by decide +kernel
theorem dX4_bodyOf_23 : decode cX4_bodyOf 23 = .ok (.ireturn, 1) := by decide +kernel
theorem dX4_bodyOf_24 : decode cX4_bodyOf 24 = .ok (.aload_n 0, 1) := by decide +kernel
theorem dX4_bodyOf_25 : decode cX4_bodyOf 25 = .ok (.getfield 10, 3) := by decide +kernel
theorem dX4_bodyOf_28 : decode cX4_bodyOf 28 = .ok (.iload_n 1, 1) := by decide +kernel
theorem dX4_bodyOf_29 : decode cX4_bodyOf 29 = .ok (.invokevirtual 93, 3) := by decide +kernel
theorem dX4_bodyOf_32 : decode cX4_bodyOf 32 = .ok (.astore_n 3, 1) := by decide +kernel
theorem dX4_bodyOf_33 : decode cX4_bodyOf 33 = .ok (.iload_n 2, 1) := by decide +kernel
theorem dX4_bodyOf_34 : decode cX4_bodyOf 34 = .ok (.tableswitch 133 0 9 #[54, 59, 64, 69, 74, 79, 84, 103, 112, 121], 54) := by decide +kernel
theorem dX4_bodyOf_88 : decode cX4_bodyOf 88 = .ok (.aload_n 3, 1) := by decide +kernel
theorem dX4_bodyOf_89 : decode cX4_bodyOf 89 = .ok (.getfield 113, 3) := by decide +kernel
theorem dX4_bodyOf_92 : decode cX4_bodyOf 92 = .ok (.ireturn, 1) := by decide +kernel
theorem dX4_bodyOf_93 : decode cX4_bodyOf 93 = .ok (.aload_n 3, 1) := by decide +kernel
theorem dX4_bodyOf_94 : decode cX4_bodyOf 94 = .ok (.invokevirtual 116, 3) := by decide +kernel
theorem dX4_bodyOf_97 : decode cX4_bodyOf 97 = .ok (.ireturn, 1) := by decide +kernel
theorem dX4_bodyOf_98 : decode cX4_bodyOf 98 = .ok (.aload_n 3, 1) := by decide +kernel
theorem dX4_bodyOf_99 : decode cX4_bodyOf 99 = .ok (.invokevirtual 106, 3) := by decide +kernel
theorem dX4_bodyOf_102 : decode cX4_bodyOf 102 = .ok (.ireturn, 1) := by decide +kernel
theorem dX4_bodyOf_103 : decode cX4_bodyOf 103 = .ok (.aload_n 3, 1) := by decide +kernel
theorem dX4_bodyOf_104 : decode cX4_bodyOf 104 = .ok (.invokevirtual 102, 3) := by decide +kernel
theorem dX4_bodyOf_107 : decode cX4_bodyOf 107 = .ok (.ireturn, 1) := by decide +kernel
theorem dX4_bodyOf_108 : decode cX4_bodyOf 108 = .ok (.aload_n 3, 1) := by decide +kernel
theorem dX4_bodyOf_109 : decode cX4_bodyOf 109 = .ok (.invokevirtual 119, 3) := by decide +kernel
theorem dX4_bodyOf_112 : decode cX4_bodyOf 112 = .ok (.ireturn, 1) := by decide +kernel
theorem dX4_bodyOf_113 : decode cX4_bodyOf 113 = .ok (.aload_n 3, 1) := by decide +kernel
theorem dX4_bodyOf_114 : decode cX4_bodyOf 114 = .ok (.invokevirtual 122, 3) := by decide +kernel
theorem dX4_bodyOf_117 : decode cX4_bodyOf 117 = .ok (.ireturn, 1) := by decide +kernel
theorem dX4_bodyOf_118 : decode cX4_bodyOf 118 = .ok (.aload_n 3, 1) := by decide +kernel
theorem dX4_bodyOf_119 : decode cX4_bodyOf 119 = .ok (.aload_n 0, 1) := by decide +kernel
theorem dX4_bodyOf_120 : decode cX4_bodyOf 120 = .ok (.getfield 10, 3) := by decide +kernel
theorem dX4_bodyOf_123 : decode cX4_bodyOf 123 = .ok (.getfield 47, 3) := by decide +kernel
theorem dX4_bodyOf_126 : decode cX4_bodyOf 126 = .ok (.aload_n 0, 1) := by decide +kernel
theorem dX4_bodyOf_127 : decode cX4_bodyOf 127 = .ok (.getfield 10, 3) := by decide +kernel
theorem dX4_bodyOf_130 : decode cX4_bodyOf 130 = .ok (.getfield 51, 3) := by decide +kernel
theorem dX4_bodyOf_133 : decode cX4_bodyOf 133 = .ok (.invokevirtual 125, 3) := by decide +kernel
theorem dX4_bodyOf_136 : decode cX4_bodyOf 136 = .ok (.ireturn, 1) := by decide +kernel
theorem dX4_bodyOf_137 : decode cX4_bodyOf 137 = .ok (.aload_n 0, 1) := by decide +kernel
theorem dX4_bodyOf_138 : decode cX4_bodyOf 138 = .ok (.getfield 10, 3) := by decide +kernel
theorem dX4_bodyOf_141 : decode cX4_bodyOf 141 = .ok (.iload_n 1, 1) := by decide +kernel
theorem dX4_bodyOf_142 : decode cX4_bodyOf 142 = .ok (.invokevirtual 129, 3) := by decide +kernel
theorem dX4_bodyOf_145 : decode cX4_bodyOf 145 = .ok (.ireturn, 1) := by decide +kernel
theorem dX4_bodyOf_146 : decode cX4_bodyOf 146 = .ok (.aload_n 0, 1) := by decide +kernel
theorem dX4_bodyOf_147 : decode cX4_bodyOf 147 = .ok (.getfield 10, 3) := by decide +kernel
theorem dX4_bodyOf_150 : decode cX4_bodyOf 150 = .ok (.iload_n 1, 1) := by decide +kernel
theorem dX4_bodyOf_151 : decode cX4_bodyOf 151 = .ok (.invokevirtual 132, 3) := by decide +kernel
theorem dX4_bodyOf_154 : decode cX4_bodyOf 154 = .ok (.ireturn, 1) := by decide +kernel
theorem dX4_bodyOf_155 : decode cX4_bodyOf 155 = .ok (.aload_n 0, 1) := by decide +kernel
theorem dX4_bodyOf_156 : decode cX4_bodyOf 156 = .ok (.getfield 10, 3) := by decide +kernel
theorem dX4_bodyOf_159 : decode cX4_bodyOf 159 = .ok (.invokevirtual 135, 3) := by decide +kernel
theorem dX4_bodyOf_162 : decode cX4_bodyOf 162 = .ok (.iload_n 1, 1) := by decide +kernel
theorem dX4_bodyOf_163 : decode cX4_bodyOf 163 = .ok (.ishr, 1) := by decide +kernel
theorem dX4_bodyOf_164 : decode cX4_bodyOf 164 = .ok (.iconst 1, 1) := by decide +kernel
theorem dX4_bodyOf_165 : decode cX4_bodyOf 165 = .ok (.iand, 1) := by decide +kernel
theorem dX4_bodyOf_166 : decode cX4_bodyOf 166 = .ok (.ireturn, 1) := by decide +kernel
theorem dX4_bodyOf_167 : decode cX4_bodyOf 167 = .ok (.aload_n 3, 1) := by decide +kernel
theorem dX4_bodyOf_168 : decode cX4_bodyOf 168 = .ok (.iload_n 2, 1) := by decide +kernel
theorem dX4_bodyOf_169 : decode cX4_bodyOf 169 = .ok (.bipush 10, 2) := by decide +kernel
theorem dX4_bodyOf_171 : decode cX4_bodyOf 171 = .ok (.isub, 1) := by decide +kernel
theorem dX4_bodyOf_172 : decode cX4_bodyOf 172 = .ok (.invokestatic 138, 3) := by decide +kernel
theorem dX4_bodyOf_175 : decode cX4_bodyOf 175 = .ok (.ireturn, 1) := by decide +kernel
set_option maxRecDepth 20000 in
theorem ggX4_parts_X3_has : GoodIn wsX4_parts wsX3_has := goodIn_r _ [7, 8, 56, 57, 58, 59, 60, 61] (by decide +kernel) (by decide +kernel)
set_option maxRecDepth 20000 in
theorem gX4_parts_X3_has : GoodIn wsX4_parts (wsV RX4 72 RX3 yX3_has wsX3_has) := goodIn_app (goodIn_of _ (by decide +kernel)) ggX4_parts_X3_has
set_option maxRecDepth 20000 in
theorem ggX4_parts_X3_at : GoodIn wsX4_parts wsX3_at := goodIn_r _ [12, 13, 14, 56, 57, 58, 59, 60, 61] (by decide +kernel) (by decide +kernel)
set_option maxRecDepth 20000 in
theorem gX4_parts_X3_at : GoodIn wsX4_parts (wsV RX4 93 RX3 yX3_at wsX3_at) := goodIn_app (goodIn_of _ (by decide +kernel)) ggX4_parts_X3_at
set_option maxRecDepth 20000 in
theorem ggX4_parts_X0_partingSide : GoodIn wsX4_parts wsX0_partingSide := goodIn_r _ [19, 20, 21, 22, 23, 18, 24, 25, 26, 27, 28, 29, 30, 31, 32, 33, 34, 35, 36, 37, 38, 39, 40, 41, 42, 43, 44, 45, 46, 62, 63, 64] (by decide +kernel) (by decide +kernel)
set_option maxRecDepth 20000 in
theorem gX4_parts_X0_partingSide : GoodIn wsX4_parts (wsV RX4 142 RX0 yX0_partingSide wsX0_partingSide) := goodIn_app (goodIn_of _ (by decide +kernel)) ggX4_parts_X0_partingSide
set_option maxRecDepth 20000 in
theorem ggX4_parts_X0_nearestCorner : GoodIn wsX4_parts wsX0_nearestCorner := goodIn_r _ [50, 20, 30, 31, 32, 18, 33, 21, 22, 23, 24, 25, 26, 27, 28, 29, 34, 35, 36, 37, 38, 39, 40, 41, 42, 43, 44, 45, 46, 62, 63, 64] (by decide +kernel) (by decide +kernel)
set_option maxRecDepth 20000 in
theorem gX4_parts_X0_nearestCorner : GoodIn wsX4_parts (wsV RX4 145 RX0 yX0_nearestCorner wsX0_nearestCorner) := goodIn_app (goodIn_of _ (by decide +kernel)) ggX4_parts_X0_nearestCorner
set_option maxRecDepth 20000 in
theorem ggX4_parts_X0_reach : GoodIn wsX4_parts wsX0_reach := goodIn_r _ [24, 25, 20, 26, 27, 28, 29, 30, 31, 32, 18, 33, 34, 35, 36, 37, 38, 39, 40, 41, 42, 43, 44, 45, 46, 62, 63, 64] (by decide +kernel) (by decide +kernel)
set_option maxRecDepth 20000 in
theorem gX4_parts_X0_reach : GoodIn wsX4_parts (wsV RX4 149 RX0 yX0_reach wsX0_reach) := goodIn_app (goodIn_of _ (by decide +kernel)) ggX4_parts_X0_reach
theorem dX4_parts_0 : decode cX4_parts 0 = .ok (.aload_n 0, 1) := by decide +kernel
theorem dX4_parts_1 : decode cX4_parts 1 = .ok (.getfield 10, 3) := by decide +kernel
theorem dX4_parts_4 : decode cX4_parts 4 = .ok (.iload_n 1, 1) := by decide +kernel
theorem dX4_parts_5 : decode cX4_parts 5 = .ok (.invokevirtual 72, 3) := by decide +kernel
theorem dX4_parts_8 : decode cX4_parts 8 = .ok (.ifCond .eq 28, 3) := by decide +kernel
theorem dX4_parts_11 : decode cX4_parts 11 = .ok (.aload_n 0, 1) := by decide +kernel
theorem dX4_parts_12 : decode cX4_parts 12 = .ok (.getfield 10, 3) := by decide +kernel
theorem dX4_parts_15 : decode cX4_parts 15 = .ok (.iload_n 2, 1) := by decide +kernel
theorem dX4_parts_16 : decode cX4_parts 16 = .ok (.invokevirtual 72, 3) := by decide +kernel
theorem dX4_parts_19 : decode cX4_parts 19 = .ok (.ifCond .eq 17, 3) := by decide +kernel
theorem dX4_parts_22 : decode cX4_parts 22 = .ok (.iload_n 1, 1) := by decide +kernel
theorem dX4_parts_23 : decode cX4_parts 23 = .ok (.iload_n 2, 1) := by decide +kernel
theorem dX4_parts_24 : decode cX4_parts 24 = .ok (.if_icmp .eq 12, 3) := by decide +kernel
theorem dX4_parts_27 : decode cX4_parts 27 = .ok (.iload_n 3, 1) := by decide +kernel
theorem dX4_parts_28 : decode cX4_parts 28 = .ok (.ifCond .lt 8, 3) := by decide +kernel
theorem dX4_parts_31 : decode cX4_parts 31 = .ok (.iload_n 3, 1) := by decide +kernel
theorem dX4_parts_32 : decode cX4_parts 32 = .ok (.iconst 2, 1) := by decide +kernel
theorem dX4_parts_33 : decode cX4_parts 33 = .ok (.if_icmp .le 6, 3) := by decide +kernel
theorem dX4_parts_36 : decode cX4_parts 36 = .ok (.ldc 37, 2) := by decide +kernel
theorem dX4_parts_38 : decode cX4_parts 38 = .ok (.ireturn, 1) := by decide +kernel
theorem dX4_parts_39 : decode cX4_parts 39 = .ok (.aload_n 0, 1) := by decide +kernel
theorem dX4_parts_40 : decode cX4_parts 40 = .ok (.getfield 10, 3) := by decide +kernel
theorem dX4_parts_43 : decode cX4_parts 43 = .ok (.iload_n 1, 1) := by decide +kernel
theorem dX4_parts_44 : decode cX4_parts 44 = .ok (.invokevirtual 93, 3) := by decide +kernel
theorem dX4_parts_47 : decode cX4_parts 47 = .ok (.astore 4, 2) := by decide +kernel
theorem dX4_parts_49 : decode cX4_parts 49 = .ok (.aload_n 0, 1) := by decide +kernel
theorem dX4_parts_50 : decode cX4_parts 50 = .ok (.getfield 10, 3) := by decide +kernel
theorem dX4_parts_53 : decode cX4_parts 53 = .ok (.iload_n 2, 1) := by decide +kernel
theorem dX4_parts_54 : decode cX4_parts 54 = .ok (.invokevirtual 93, 3) := by decide +kernel
theorem dX4_parts_57 : decode cX4_parts 57 = .ok (.astore 5, 2) := by decide +kernel
theorem dX4_parts_59 : decode cX4_parts 59 = .ok (.iconst 0, 1) := by decide +kernel
theorem dX4_parts_60 : decode cX4_parts 60 = .ok (.istore 6, 2) := by decide +kernel
theorem dX4_parts_62 : decode cX4_parts 62 = .ok (.aload 4, 2) := by decide +kernel
theorem dX4_parts_64 : decode cX4_parts 64 = .ok (.aload 5, 2) := by decide +kernel
theorem dX4_parts_66 : decode cX4_parts 66 = .ok (.invokevirtual 142, 3) := by decide +kernel
theorem dX4_parts_69 : decode cX4_parts 69 = .ok (.istore 7, 2) := by decide +kernel
theorem dX4_parts_71 : decode cX4_parts 71 = .ok (.iload 7, 2) := by decide +kernel
theorem dX4_parts_73 : decode cX4_parts 73 = .ok (.ifCond .ge 36, 3) := by decide +kernel
theorem dX4_parts_76 : decode cX4_parts 76 = .ok (.aload_n 0, 1) := by decide +kernel
theorem dX4_parts_77 : decode cX4_parts 77 = .ok (.getfield 10, 3) := by decide +kernel
theorem dX4_parts_80 : decode cX4_parts 80 = .ok (.iload_n 2, 1) := by decide +kernel
theorem dX4_parts_81 : decode cX4_parts 81 = .ok (.invokevirtual 93, 3) := by decide +kernel
theorem dX4_parts_84 : decode cX4_parts 84 = .ok (.astore 4, 2) := by decide +kernel
theorem dX4_parts_86 : decode cX4_parts 86 = .ok (.aload_n 0, 1) := by decide +kernel
theorem dX4_parts_87 : decode cX4_parts 87 = .ok (.getfield 10, 3) := by decide +kernel
theorem dX4_parts_90 : decode cX4_parts 90 = .ok (.iload_n 1, 1) := by decide +kernel
theorem dX4_parts_91 : decode cX4_parts 91 = .ok (.invokevirtual 93, 3) := by decide +kernel
theorem dX4_parts_94 : decode cX4_parts 94 = .ok (.astore 5, 2) := by decide +kernel
theorem dX4_parts_96 : decode cX4_parts 96 = .ok (.bipush 10, 2) := by decide +kernel
theorem dX4_parts_98 : decode cX4_parts 98 = .ok (.istore 6, 2) := by decide +kernel
theorem dX4_parts_100 : decode cX4_parts 100 = .ok (.aload 4, 2) := by decide +kernel
theorem dX4_parts_102 : decode cX4_parts 102 = .ok (.aload 5, 2) := by decide +kernel
theorem dX4_parts_104 : decode cX4_parts 104 = .ok (.invokevirtual 142, 3) := by decide +kernel
theorem dX4_parts_107 : decode cX4_parts 107 = .ok (.istore 7, 2) := by decide +kernel
theorem dX4_parts_109 : decode cX4_parts 109 = .ok (.iload_n 3, 1) := by decide +kernel
theorem dX4_parts_110 : decode cX4_parts 110 = .ok (.ifCond .ne 9, 3) := by decide +kernel
theorem dX4_parts_113 : decode cX4_parts 113 = .ok (.iload 7, 2) := by decide +kernel
theorem dX4_parts_115 : decode cX4_parts 115 = .ok (.iload 6, 2) := by decide +kernel
theorem dX4_parts_117 : decode cX4_parts 117 = .ok (.iadd, 1) := by decide +kernel
theorem dX4_parts_118 : decode cX4_parts 118 = .ok (.ireturn, 1) := by decide +kernel
theorem dX4_parts_119 : decode cX4_parts 119 = .ok (.iload_n 3, 1) := by decide +kernel
theorem dX4_parts_120 : decode cX4_parts 120 = .ok (.iconst 1, 1) := by decide +kernel
theorem dX4_parts_121 : decode cX4_parts 121 = .ok (.if_icmp .ne 15, 3) := by decide +kernel
theorem dX4_parts_124 : decode cX4_parts 124 = .ok (.aload 4, 2) := by decide +kernel
theorem dX4_parts_126 : decode cX4_parts 126 = .ok (.iload 7, 2) := by decide +kernel
theorem dX4_parts_128 : decode cX4_parts 128 = .ok (.aload 5, 2) := by decide +kernel
theorem dX4_parts_130 : decode cX4_parts 130 = .ok (.invokevirtual 145, 3) := by decide +kernel
theorem dX4_parts_133 : decode cX4_parts 133 = .ok (.goto 13, 3) := by decide +kernel
theorem dX4_parts_136 : decode cX4_parts 136 = .ok (.aload 4, 2) := by decide +kernel
theorem dX4_parts_138 : decode cX4_parts 138 = .ok (.iload 7, 2) := by decide +kernel
theorem dX4_parts_140 : decode cX4_parts 140 = .ok (.aload 5, 2) := by decide +kernel
theorem dX4_parts_142 : decode cX4_parts 142 = .ok (.invokevirtual 149, 3) := by decide +kernel
theorem dX4_parts_145 : decode cX4_parts 145 = .ok (.ineg, 1) := by decide +kernel
theorem dX4_parts_146 : decode cX4_parts 146 = .ok (.ireturn, 1) := by decide +kernel
set_option maxRecDepth 20000 in
theorem ggX4_way_X3_has : GoodIn wsX4_way wsX3_has := goodIn_r _ [9, 10, 114, 115, 116, 117, 118, 119] (by decide +kernel) (by decide +kernel)
set_option maxRecDepth 20000 in
theorem gX4_way_X3_has : GoodIn wsX4_way (wsV RX4 72 RX3 yX3_has wsX3_has) := goodIn_app (goodIn_of _ (by decide +kernel)) ggX4_way_X3_has
set_option maxRecDepth 20000 in
theorem ggX4_way_X4_isDirection : GoodIn wsX4_way wsX4_isDirection := goodIn_r _ [14] (by decide +kernel) (by decide +kernel)
set_option maxRecDepth 20000 in
theorem gX4_way_X4_isDirection : GoodIn wsX4_way (va_wsS RX4 79 yX4_isDirection wsX4_isDirection) := goodIn_app (goodIn_of _ (by decide +kernel)) ggX4_way_X4_isDirection
set_option maxRecDepth 20000 in
theorem ggX4_way_X3_freeSteps : GoodIn wsX4_way wsX3_freeSteps := goodIn_r _ [18, 19, 20, 21, 22, 23, 24, 8, 25, 26, 27, 28, 29, 30, 31, 32, 33, 34, 35, 36, 37, 38, 39, 40, 41, 42, 43, 44, 45, 46, 47, 48, 13, 49, 50, 51, 52, 53, 54, 55, 56, 57, 58, 59, 60, 61, 62, 63, 64, 65, 66, 67, 68, 69, 70, 71, 72, 73, 74, 75, 76, 77, 78, 79, 80, 81, 82, 83, 84, 85, 86, 87, 88, 10, 89, 90, 91, 92, 93, 94, 95, 96, 97, 98, 99, 100, 101, 102, 103, 114, 115, 116, 117, 118, 119, 120, 121, 122] (by decide +kernel) (by decide +kernel)
set_option maxRecDepth 20000 in
theorem gX4_way_X3_freeSteps : GoodIn wsX4_way (wsV RX4 82 RX3 yX3_freeSteps wsX3_freeSteps) := goodIn_app (goodIn_of _ (by decide +kernel)) ggX4_way_X3_freeSteps
set_option maxRecDepth 20000 in
theorem ggX4_way_X3_shifted : GoodIn wsX4_way wsX3_shifted := goodIn_r _ [107, 19, 22, 23, 24, 8, 25, 26, 27, 28, 29, 30, 31, 32, 33, 34, 35, 36, 37, 38, 39, 40, 41, 42, 43, 44, 45, 46, 47, 48, 13, 49, 50, 51, 52, 53, 54, 55, 56, 57, 114, 115, 116, 117, 118, 119, 120, 121, 122] (by decide +kernel) (by decide +kernel)
set_option maxRecDepth 20000 in
theorem gX4_way_X3_shifted : GoodIn wsX4_way (wsV RX4 152 RX3 yX3_shifted wsX3_shifted) := goodIn_app (goodIn_of _ (by decide +kernel)) ggX4_way_X3_shifted
set_option maxRecDepth 20000 in
theorem ggX4_way_X3_overlapped : GoodIn wsX4_way wsX3_overlapped := goodIn_r _ [88, 10, 22, 23, 24, 8, 25, 26, 27, 89, 90, 91, 31, 92, 33, 66, 67, 68, 69, 93, 94, 95, 96, 97, 74, 75, 76, 98, 99, 100, 101, 34, 35, 36, 37, 38, 39, 40, 41, 42, 43, 102, 13, 103, 114, 115, 116, 117, 118, 119, 120, 121, 122] (by decide +kernel) (by decide +kernel)
set_option maxRecDepth 20000 in
theorem gX4_way_X3_overlapped : GoodIn wsX4_way (wsV RX4 156 RX3 yX3_overlapped wsX3_overlapped) := goodIn_app (goodIn_of _ (by decide +kernel)) ggX4_way_X3_overlapped
set_option maxRecDepth 20000 in
theorem ggX4_way_X0_wallsBeyond : GoodIn wsX4_way wsX0_wallsBeyond := goodIn_r _ [61, 62, 63, 64, 31, 65, 33, 66, 67, 68, 69, 34, 35, 36, 37, 38, 70, 71, 72, 73, 74, 75, 76, 77, 78, 79, 80, 39, 40, 41, 42, 43, 81, 82, 83, 84, 120, 121, 122] (by decide +kernel) (by decide +kernel)
set_option maxRecDepth 20000 in
theorem gX4_way_X0_wallsBeyond : GoodIn wsX4_way (wsV RX4 159 RX0 yX0_wallsBeyond wsX0_wallsBeyond) := goodIn_app (goodIn_of _ (by decide +kernel)) ggX4_way_X0_wallsBeyond
theorem dX4_way_0 : decode cX4_way 0 = .ok (.aload_n 0, 1) := by decide +kernel
theorem dX4_way_1 : decode cX4_way 1 = .ok (.getfield 10, 3) := by decide +kernel
theorem dX4_way_4 : decode cX4_way 4 = .ok (.iload_n 1, 1) := by decide +kernel
theorem dX4_way_5 : decode cX4_way 5 = .ok (.invokevirtual 72, 3) := by decide +kernel
theorem dX4_way_8 : decode cX4_way 8 = .ok (.ifCond .eq 19, 3) := by decide +kernel
theorem dX4_way_11 : decode cX4_way 11 = .ok (.iload_n 2, 1) := by decide +kernel
theorem dX4_way_12 : decode cX4_way 12 = .ok (.invokestatic 79, 3) := by decide +kernel
theorem dX4_way_15 : decode cX4_way 15 = .ok (.ifCond .eq 12, 3) := by decide +kernel
theorem dX4_way_18 : decode cX4_way 18 = .ok (.iload_n 3, 1) := by decide +kernel
theorem dX4_way_19 : decode cX4_way 19 = .ok (.ifCond .lt 8, 3) := by decide +kernel
theorem dX4_way_22 : decode cX4_way 22 = .ok (.iload_n 3, 1) := by decide +kernel
theorem dX4_way_23 : decode cX4_way 23 = .ok (.iconst 2, 1) := by decide +kernel
theorem dX4_way_24 : decode cX4_way 24 = .ok (.if_icmp .le 6, 3) := by decide +kernel
theorem dX4_way_27 : decode cX4_way 27 = .ok (.ldc 37, 2) := by decide +kernel
theorem dX4_way_29 : decode cX4_way 29 = .ok (.ireturn, 1) := by decide +kernel
theorem dX4_way_30 : decode cX4_way 30 = .ok (.aload_n 0, 1) := by decide +kernel
theorem dX4_way_31 : decode cX4_way 31 = .ok (.getfield 10, 3) := by decide +kernel
theorem dX4_way_34 : decode cX4_way 34 = .ok (.iload_n 1, 1) := by decide +kernel
theorem dX4_way_35 : decode cX4_way 35 = .ok (.iload_n 2, 1) := by decide +kernel
theorem dX4_way_36 : decode cX4_way 36 = .ok (.bipush 60, 2) := by decide +kernel
theorem dX4_way_38 : decode cX4_way 38 = .ok (.invokevirtual 82, 3) := by decide +kernel
theorem dX4_way_41 : decode cX4_way 41 = .ok (.istore 4, 2) := by decide +kernel
theorem dX4_way_43 : decode cX4_way 43 = .ok (.iload_n 3, 1) := by decide +kernel
theorem dX4_way_44 : decode cX4_way 44 = .ok (.ifCond .ne 6, 3) := by decide +kernel
theorem dX4_way_47 : decode cX4_way 47 = .ok (.iload 4, 2) := by decide +kernel
theorem dX4_way_49 : decode cX4_way 49 = .ok (.ireturn, 1) := by decide +kernel
theorem dX4_way_50 : decode cX4_way 50 = .ok (.aload_n 0, 1) := by decide +kernel
theorem dX4_way_51 : decode cX4_way 51 = .ok (.getfield 10, 3) := by decide +kernel
theorem dX4_way_54 : decode cX4_way 54 = .ok (.iload_n 1, 1) := by decide +kernel
theorem dX4_way_55 : decode cX4_way 55 = .ok (.iload_n 2, 1) := by decide +kernel
theorem dX4_way_56 : decode cX4_way 56 = .ok (.iload 4, 2) := by decide +kernel
theorem dX4_way_58 : decode cX4_way 58 = .ok (.iconst 1, 1) := by decide +kernel
theorem dX4_way_59 : decode cX4_way 59 = .ok (.iadd, 1) := by decide +kernel
theorem dX4_way_60 : decode cX4_way 60 = .ok (.invokevirtual 152, 3) := by decide +kernel
theorem dX4_way_63 : decode cX4_way 63 = .ok (.astore 5, 2) := by decide +kernel
theorem dX4_way_65 : decode cX4_way 65 = .ok (.iload_n 3, 1) := by decide +kernel
theorem dX4_way_66 : decode cX4_way 66 = .ok (.iconst 1, 1) := by decide +kernel
theorem dX4_way_67 : decode cX4_way 67 = .ok (.if_icmp .ne 14, 3) := by decide +kernel
theorem dX4_way_70 : decode cX4_way 70 = .ok (.aload_n 0, 1) := by decide +kernel
theorem dX4_way_71 : decode cX4_way 71 = .ok (.getfield 10, 3) := by decide +kernel
theorem dX4_way_74 : decode cX4_way 74 = .ok (.aload 5, 2) := by decide +kernel
theorem dX4_way_76 : decode cX4_way 76 = .ok (.iload_n 1, 1) := by decide +kernel
theorem dX4_way_77 : decode cX4_way 77 = .ok (.invokevirtual 156, 3) := by decide +kernel
theorem dX4_way_80 : decode cX4_way 80 = .ok (.ireturn, 1) := by decide +kernel
theorem dX4_way_81 : decode cX4_way 81 = .ok (.aload 5, 2) := by decide +kernel
theorem dX4_way_83 : decode cX4_way 83 = .ok (.aload_n 0, 1) := by decide +kernel
theorem dX4_way_84 : decode cX4_way 84 = .ok (.getfield 10, 3) := by decide +kernel
theorem dX4_way_87 : decode cX4_way 87 = .ok (.getfield 47, 3) := by decide +kernel
theorem dX4_way_90 : decode cX4_way 90 = .ok (.aload_n 0, 1) := by decide +kernel
theorem dX4_way_91 : decode cX4_way 91 = .ok (.getfield 10, 3) := by decide +kernel
theorem dX4_way_94 : decode cX4_way 94 = .ok (.getfield 51, 3) := by decide +kernel
theorem dX4_way_97 : decode cX4_way 97 = .ok (.invokevirtual 159, 3) := by decide +kernel
theorem dX4_way_100 : decode cX4_way 100 = .ok (.ireturn, 1) := by decide +kernel
set_option maxRecDepth 20000 in
theorem ggX4_bodies_X3_jammed : GoodIn wsX4_bodies wsX3_jammed := goodIn_r _ [7, 8, 9, 10, 11, 6, 12, 13, 14, 15, 16, 17, 18, 19, 20, 21, 22, 23, 24, 25, 26, 27, 28, 29, 30, 31, 32, 33, 34, 35, 36, 37, 38, 39, 40, 41, 42, 43, 44, 45, 46, 47, 48, 49, 50, 51, 52, 53, 54, 55, 56, 57, 58, 59, 60, 61, 62, 63, 64, 65, 66, 67, 68, 69, 70, 71, 72, 73, 74, 75, 76, 77, 78, 79, 80, 81, 82, 83, 84, 85, 86, 87, 88, 89, 90, 91, 92, 93, 94, 95, 96, 97, 98, 126, 127, 128, 129, 130, 131, 132, 133, 134] (by decide +kernel) (by decide +kernel)
set_option maxRecDepth 20000 in
theorem gX4_bodies_X3_jammed : GoodIn wsX4_bodies (wsV RX4 135 RX3 yX3_jammed wsX3_jammed) := goodIn_app (goodIn_of _ (by decide +kernel)) ggX4_bodies_X3_jammed
set_option maxRecDepth 20000 in
theorem ggX4_bodies_X3_touchingNone : GoodIn wsX4_bodies wsX3_touchingNone := goodIn_r _ [102, 8, 103, 104, 105, 6, 106, 107, 62, 63, 64, 16, 17, 18, 19, 20, 21, 84, 85, 86, 25, 87, 27, 61, 88, 89, 90, 91, 92, 69, 70, 71, 93, 94, 95, 96, 28, 29, 30, 31, 32, 33, 34, 35, 36, 37, 97, 43, 98, 126, 127, 128, 129, 130, 131, 132, 133, 134] (by decide +kernel) (by decide +kernel)
set_option maxRecDepth 20000 in
theorem gX4_bodies_X3_touchingNone : GoodIn wsX4_bodies (wsV RX4 162 RX3 yX3_touchingNone wsX3_touchingNone) := goodIn_app (goodIn_of _ (by decide +kernel)) ggX4_bodies_X3_touchingNone
set_option maxRecDepth 20000 in
theorem ggX4_bodies_X3_touchingWalls : GoodIn wsX4_bodies wsX3_touchingWalls := goodIn_r _ [111, 8, 14, 15, 16, 17, 18, 6, 19, 20, 21, 112, 113, 114, 25, 115, 57, 58, 59, 60, 27, 61, 62, 63, 64, 28, 29, 30, 31, 32, 65, 66, 67, 68, 69, 70, 71, 72, 73, 74, 75, 33, 34, 35, 36, 37, 76, 77, 78, 79, 126, 127, 128, 129, 130, 131, 132, 133, 134] (by decide +kernel) (by decide +kernel)
set_option maxRecDepth 20000 in
theorem gX4_bodies_X3_touchingWalls : GoodIn wsX4_bodies (wsV RX4 165 RX3 yX3_touchingWalls wsX3_touchingWalls) := goodIn_app (goodIn_of _ (by decide +kernel)) ggX4_bodies_X3_touchingWalls
set_option maxRecDepth 20000 in
theorem ggX4_bodies_X3_spread : GoodIn wsX4_bodies wsX3_spread := goodIn_r _ [119, 120, 43, 121, 103, 104, 105, 6, 106, 8, 107, 62, 63, 64, 16, 17, 18, 19, 20, 21, 84, 85, 86, 25, 87, 27, 61, 88, 89, 90, 91, 92, 69, 70, 71, 93, 94, 95, 96, 28, 29, 30, 31, 32, 33, 34, 35, 36, 37, 97, 98, 126, 127, 128, 129, 130, 131, 132, 133, 134] (by decide +kernel) (by decide +kernel)
set_option maxRecDepth 20000 in
theorem gX4_bodies_X3_spread : GoodIn wsX4_bodies (wsV RX4 168 RX3 yX3_spread wsX3_spread) := goodIn_app (goodIn_of _ (by decide +kernel)) ggX4_bodies_X3_spread
theorem dX4_bodies_0 : decode cX4_bodies 0 = .ok (.iload_n 1, 1) := by decide +kernel
theorem dX4_bodies_1 : decode cX4_bodies 1 = .ok (.tableswitch 73 0 3 #[31, 39, 47, 57], 31) := by decide +kernel
theorem dX4_bodies_32 : decode cX4_bodies 32 = .ok (.aload_n 0, 1) := by decide +kernel
theorem dX4_bodies_33 : decode cX4_bodies 33 = .ok (.getfield 10, 3) := by decide +kernel
theorem dX4_bodies_36 : decode cX4_bodies 36 = .ok (.invokevirtual 135, 3) := by decide +kernel
theorem dX4_bodies_39 : decode cX4_bodies 39 = .ok (.ireturn, 1) := by decide +kernel
theorem dX4_bodies_40 : decode cX4_bodies 40 = .ok (.aload_n 0, 1) := by decide +kernel
theorem dX4_bodies_41 : decode cX4_bodies 41 = .ok (.getfield 10, 3) := by decide +kernel
theorem dX4_bodies_44 : decode cX4_bodies 44 = .ok (.invokevirtual 162, 3) := by decide +kernel
theorem dX4_bodies_47 : decode cX4_bodies 47 = .ok (.ireturn, 1) := by decide +kernel
theorem dX4_bodies_48 : decode cX4_bodies 48 = .ok (.aload_n 0, 1) := by decide +kernel
theorem dX4_bodies_49 : decode cX4_bodies 49 = .ok (.getfield 10, 3) := by decide +kernel
theorem dX4_bodies_52 : decode cX4_bodies 52 = .ok (.bipush 15, 2) := by decide +kernel
theorem dX4_bodies_54 : decode cX4_bodies 54 = .ok (.invokevirtual 165, 3) := by decide +kernel
theorem dX4_bodies_57 : decode cX4_bodies 57 = .ok (.ireturn, 1) := by decide +kernel
theorem dX4_bodies_58 : decode cX4_bodies 58 = .ok (.aload_n 0, 1) := by decide +kernel
theorem dX4_bodies_59 : decode cX4_bodies 59 = .ok (.getfield 10, 3) := by decide +kernel
theorem dX4_bodies_62 : decode cX4_bodies 62 = .ok (.aload_n 0, 1) := by decide +kernel
theorem dX4_bodies_63 : decode cX4_bodies 63 = .ok (.getfield 10, 3) := by decide +kernel
theorem dX4_bodies_66 : decode cX4_bodies 66 = .ok (.iconst 4, 1) := by decide +kernel
theorem dX4_bodies_67 : decode cX4_bodies 67 = .ok (.invokevirtual 165, 3) := by decide +kernel
theorem dX4_bodies_70 : decode cX4_bodies 70 = .ok (.invokevirtual 168, 3) := by decide +kernel
theorem dX4_bodies_73 : decode cX4_bodies 73 = .ok (.ireturn, 1) := by decide +kernel
theorem dX4_bodies_74 : decode cX4_bodies 74 = .ok (.ldc 37, 2) := by decide +kernel
theorem dX4_bodies_76 : decode cX4_bodies 76 = .ok (.ireturn, 1) := by decide +kernel
set_option maxRecDepth 20000 in
theorem ggX4_group_X3_spread : GoodIn wsX4_group wsX3_spread := goodIn_r _ [9, 10, 11, 12, 13, 14, 15, 8, 16, 17, 18, 19, 20, 21, 22, 23, 24, 25, 26, 27, 28, 29, 30, 31, 32, 33, 34, 35, 36, 37, 38, 39, 40, 41, 42, 43, 44, 45, 46, 47, 48, 49, 50, 51, 52, 53, 54, 55, 56, 57, 58, 63, 64, 65, 66, 67, 68, 69, 70, 71] (by decide +kernel) (by decide +kernel)
set_option maxRecDepth 20000 in
theorem gX4_group_X3_spread : GoodIn wsX4_group (wsV RX4 168 RX3 yX3_spread wsX3_spread) := goodIn_app (goodIn_of _ (by decide +kernel)) ggX4_group_X3_spread
theorem dX4_group_0 : decode cX4_group 0 = .ok (.iload_n 1, 1) := by decide +kernel
theorem dX4_group_1 : decode cX4_group 1 = .ok (.iconst (-1), 1) := by decide +kernel
theorem dX4_group_2 : decode cX4_group 2 = .ok (.if_icmp .ge 6, 3) := by decide +kernel
theorem dX4_group_5 : decode cX4_group 5 = .ok (.ldc 37, 2) := by decide +kernel
theorem dX4_group_7 : decode cX4_group 7 = .ok (.ireturn, 1) := by decide +kernel
theorem dX4_group_8 : decode cX4_group 8 = .ok (.iconst 0, 1) := by decide +kernel
theorem dX4_group_9 : decode cX4_group 9 = .ok (.istore_n 2, 1) := by decide +kernel
theorem dX4_group_10 : decode cX4_group 10 = .ok (.iconst 0, 1) := by decide +kernel
theorem dX4_group_11 : decode cX4_group 11 = .ok (.istore_n 3, 1) := by decide +kernel
theorem dX4_group_12 : decode cX4_group 12 = .ok (.iconst 0, 1) := by decide +kernel
theorem dX4_group_13 : decode cX4_group 13 = .ok (.istore 4, 2) := by decide +kernel
theorem dX4_group_15 : decode cX4_group 15 = .ok (.iload 4, 2) := by decide +kernel
theorem dX4_group_17 : decode cX4_group 17 = .ok (.aload_n 0, 1) := by decide +kernel
theorem dX4_group_18 : decode cX4_group 18 = .ok (.getfield 10, 3) := by decide +kernel
theorem dX4_group_21 : decode cX4_group 21 = .ok (.getfield 60, 3) := by decide +kernel
theorem dX4_group_24 : decode cX4_group 24 = .ok (.if_icmp .ge 47, 3) := by decide +kernel
theorem dX4_group_27 : decode cX4_group 27 = .ok (.iload_n 2, 1) := by decide +kernel
theorem dX4_group_28 : decode cX4_group 28 = .ok (.iconst 1, 1) := by decide +kernel
theorem dX4_group_29 : decode cX4_group 29 = .ok (.iload 4, 2) := by decide +kernel
theorem dX4_group_31 : decode cX4_group 31 = .ok (.ishl, 1) := by decide +kernel
theorem dX4_group_32 : decode cX4_group 32 = .ok (.iand, 1) := by decide +kernel
theorem dX4_group_33 : decode cX4_group 33 = .ok (.ifCond .ne 32, 3) := by decide +kernel
theorem dX4_group_36 : decode cX4_group 36 = .ok (.aload_n 0, 1) := by decide +kernel
theorem dX4_group_37 : decode cX4_group 37 = .ok (.getfield 10, 3) := by decide +kernel
theorem dX4_group_40 : decode cX4_group 40 = .ok (.iconst 1, 1) := by decide +kernel
theorem dX4_group_41 : decode cX4_group 41 = .ok (.iload 4, 2) := by decide +kernel
theorem dX4_group_43 : decode cX4_group 43 = .ok (.ishl, 1) := by decide +kernel
theorem dX4_group_44 : decode cX4_group 44 = .ok (.invokevirtual 168, 3) := by decide +kernel
theorem dX4_group_47 : decode cX4_group 47 = .ok (.istore 5, 2) := by decide +kernel
theorem dX4_group_49 : decode cX4_group 49 = .ok (.iload_n 3, 1) := by decide +kernel
theorem dX4_group_50 : decode cX4_group 50 = .ok (.iload_n 1, 1) := by decide +kernel
theorem dX4_group_51 : decode cX4_group 51 = .ok (.if_icmp .ne 6, 3) := by decide +kernel
theorem dX4_group_54 : decode cX4_group 54 = .ok (.iload 5, 2) := by decide +kernel
theorem dX4_group_56 : decode cX4_group 56 = .ok (.ireturn, 1) := by decide +kernel
theorem dX4_group_57 : decode cX4_group 57 = .ok (.iload_n 2, 1) := by decide +kernel
theorem dX4_group_58 : decode cX4_group 58 = .ok (.iload 5, 2) := by decide +kernel
theorem dX4_group_60 : decode cX4_group 60 = .ok (.ior, 1) := by decide +kernel
theorem dX4_group_61 : decode cX4_group 61 = .ok (.istore_n 2, 1) := by decide +kernel
theorem dX4_group_62 : decode cX4_group 62 = .ok (.iinc 3 1, 3) := by decide +kernel
theorem dX4_group_65 : decode cX4_group 65 = .ok (.iinc 4 1, 3) := by decide +kernel
theorem dX4_group_68 : decode cX4_group 68 = .ok (.goto (-53), 3) := by decide +kernel
theorem dX4_group_71 : decode cX4_group 71 = .ok (.iload_n 1, 1) := by decide +kernel
theorem dX4_group_72 : decode cX4_group 72 = .ok (.iconst (-1), 1) := by decide +kernel
theorem dX4_group_73 : decode cX4_group 73 = .ok (.if_icmp .ne 7, 3) := by decide +kernel
theorem dX4_group_76 : decode cX4_group 76 = .ok (.iload_n 3, 1) := by decide +kernel
theorem dX4_group_77 : decode cX4_group 77 = .ok (.goto 5, 3) := by decide +kernel
theorem dX4_group_80 : decode cX4_group 80 = .ok (.ldc 171, 2) := by decide +kernel
theorem dX4_group_82 : decode cX4_group 82 = .ok (.ireturn, 1) := by decide +kernel
set_option maxRecDepth 20000 in
theorem ggX4_density_X3_doubleArea : GoodIn wsX4_density wsX3_doubleArea := goodIn_r _ [8, 9, 10, 11, 12, 7, 13, 14, 15, 16, 17, 18, 19, 20, 21, 22, 23, 24, 25, 26, 27, 28, 29, 30, 31, 32, 33, 34, 35, 45, 46, 47, 48, 49, 50, 51, 52, 53] (by decide +kernel) (by decide +kernel)
set_option maxRecDepth 20000 in
theorem gX4_density_X3_doubleArea : GoodIn wsX4_density (wsV RX4 172 RX3 yX3_doubleArea wsX3_doubleArea) := goodIn_app (goodIn_of _ (by decide +kernel)) ggX4_density_X3_doubleArea
set_option maxRecDepth 20000 in
theorem ggX4_density_X4_bitsOfShare : GoodIn wsX4_density wsX4_bitsOfShare := goodIn_r _ [39, 40] (by decide +kernel) (by decide +kernel)
set_option maxRecDepth 20000 in
theorem gX4_density_X4_bitsOfShare : GoodIn wsX4_density (va_wsS RX4 173 yX4_bitsOfShare wsX4_bitsOfShare) := goodIn_app (goodIn_of _ (by decide +kernel)) ggX4_density_X4_bitsOfShare
theorem dX4_density_0 : decode cX4_density 0 = .ok (.aload_n 0, 1) := by decide +kernel
theorem dX4_density_1 : decode cX4_density 1 = .ok (.getfield 10, 3) := by decide +kernel
theorem dX4_density_4 : decode cX4_density 4 = .ok (.invokevirtual 172, 3) := by decide +kernel
theorem dX4_density_7 : decode cX4_density 7 = .ok (.i2f, 1) := by decide +kernel
theorem dX4_density_8 : decode cX4_density 8 = .ok (.fstore_n 1, 1) := by decide +kernel
theorem dX4_density_9 : decode cX4_density 9 = .ok (.iconst 2, 1) := by decide +kernel
theorem dX4_density_10 : decode cX4_density 10 = .ok (.aload_n 0, 1) := by decide +kernel
theorem dX4_density_11 : decode cX4_density 11 = .ok (.getfield 10, 3) := by decide +kernel
theorem dX4_density_14 : decode cX4_density 14 = .ok (.getfield 47, 3) := by decide +kernel
theorem dX4_density_17 : decode cX4_density 17 = .ok (.imul, 1) := by decide +kernel
theorem dX4_density_18 : decode cX4_density 18 = .ok (.aload_n 0, 1) := by decide +kernel
theorem dX4_density_19 : decode cX4_density 19 = .ok (.getfield 10, 3) := by decide +kernel
theorem dX4_density_22 : decode cX4_density 22 = .ok (.getfield 51, 3) := by decide +kernel
theorem dX4_density_25 : decode cX4_density 25 = .ok (.imul, 1) := by decide +kernel
theorem dX4_density_26 : decode cX4_density 26 = .ok (.i2f, 1) := by decide +kernel
theorem dX4_density_27 : decode cX4_density 27 = .ok (.fstore_n 2, 1) := by decide +kernel
theorem dX4_density_28 : decode cX4_density 28 = .ok (.fload_n 2, 1) := by decide +kernel
theorem dX4_density_29 : decode cX4_density 29 = .ok (.fconst 0, 1) := by decide +kernel
theorem dX4_density_30 : decode cX4_density 30 = .ok (.fcmp .l, 1) := by decide +kernel
theorem dX4_density_31 : decode cX4_density 31 = .ok (.ifCond .le 12, 3) := by decide +kernel
theorem dX4_density_34 : decode cX4_density 34 = .ok (.fload_n 1, 1) := by decide +kernel
theorem dX4_density_35 : decode cX4_density 35 = .ok (.fload_n 2, 1) := by decide +kernel
theorem dX4_density_36 : decode cX4_density 36 = .ok (.fdiv, 1) := by decide +kernel
theorem dX4_density_37 : decode cX4_density 37 = .ok (.invokestatic 173, 3) := by decide +kernel
theorem dX4_density_40 : decode cX4_density 40 = .ok (.goto 4, 3) := by decide +kernel
theorem dX4_density_43 : decode cX4_density 43 = .ok (.iconst 0, 1) := by decide +kernel
theorem dX4_density_44 : decode cX4_density 44 = .ok (.ireturn, 1) := by decide +kernel
set_option maxRecDepth 20000 in
theorem ggX4_keystone_X4_isDirection : GoodIn wsX4_keystone wsX4_isDirection := goodIn_r _ [9] (by decide +kernel) (by decide +kernel)
set_option maxRecDepth 20000 in
theorem gX4_keystone_X4_isDirection : GoodIn wsX4_keystone (va_wsS RX4 79 yX4_isDirection wsX4_isDirection) := goodIn_app (goodIn_of _ (by decide +kernel)) ggX4_keystone_X4_isDirection
set_option maxRecDepth 20000 in
theorem ggX4_keystone_X3_copyFrom : GoodIn wsX4_keystone wsX3_copyFrom := goodIn_r _ [14, 15, 16, 17, 18, 19, 20, 13, 21, 22, 23, 24, 25, 26, 27, 28, 29, 30, 31, 32, 33, 34, 35, 36, 37, 38, 39, 40, 41, 42, 43, 121, 122, 123, 124, 125, 126, 127, 128, 129] (by decide +kernel) (by decide +kernel)
set_option maxRecDepth 20000 in
theorem gX4_keystone_X3_copyFrom : GoodIn wsX4_keystone (wsV RX4 177 RX3 yX3_copyFrom wsX3_copyFrom) := goodIn_app (goodIn_of _ (by decide +kernel)) ggX4_keystone_X3_copyFrom
set_option maxRecDepth 20000 in
theorem ggX4_keystone_X3_takeOut : GoodIn wsX4_keystone wsX3_takeOut := goodIn_r _ [47, 15, 18, 19, 20, 13, 21, 22, 23, 24, 25, 26, 27, 28, 29, 30, 31, 32, 33, 34, 35, 36, 37, 38, 39, 40, 41, 42, 43, 121, 122, 123, 124, 125, 126, 127, 128, 129] (by decide +kernel) (by decide +kernel)
set_option maxRecDepth 20000 in
theorem gX4_keystone_X3_takeOut : GoodIn wsX4_keystone (wsV RX4 75 RX3 yX3_takeOut wsX3_takeOut) := goodIn_app (goodIn_of _ (by decide +kernel)) ggX4_keystone_X3_takeOut
end
section
set_option maxRecDepth 20000 in
theorem ggX4_keystone_X3_settleAll : GoodIn wsX4_keystone wsX3_settleAll := goodIn_r _ [51, 15, 52, 53, 54, 13, 55, 56, 16, 17, 18, 19, 20, 21, 22, 23, 24, 25, 26, 27, 28, 29, 30, 31, 32, 33, 34, 35, 36, 37, 38, 39, 40, 41, 42, 43, 57, 8, 58, 59, 60, 61, 62, 63, 64, 65, 66, 67, 68, 69, 70, 71, 72, 73, 74, 75, 76, 77, 78, 79, 80, 81, 82, 83, 84, 85, 86, 87, 88, 89, 90, 91, 92, 93, 94, 95, 96, 97, 98, 99, 100, 101, 102, 103, 104, 105, 106, 107, 108, 109, 110, 111, 112, 113, 114, 115, 116, 121, 122, 123, 124, 125, 126, 127, 128, 129] (by decide +kernel) (by decide +kernel)
set_option maxRecDepth 20000 in
theorem gX4_keystone_X3_settleAll : GoodIn wsX4_keystone (wsV RX4 109 RX3 yX3_settleAll wsX3_settleAll) := goodIn_app (goodIn_of _ (by decide +kernel)) ggX4_keystone_X3_settleAll
theorem dX4_keystone_0 : decode cX4_keystone 0 = .ok (.iload_n 1, 1) := by decide +kernel
theorem dX4_keystone_1 : decode cX4_keystone 1 = .ok (.invokestatic 79, 3) := by decide +kernel
theorem dX4_keystone_4 : decode cX4_keystone 4 = .ok (.ifCond .eq 12, 3) := by decide +kernel
theorem dX4_keystone_7 : decode cX4_keystone 7 = .ok (.iload_n 2, 1) := by decide +kernel
theorem dX4_keystone_8 : decode cX4_keystone 8 = .ok (.ifCond .lt 8, 3) := by decide +kernel
theorem dX4_keystone_11 : decode cX4_keystone 11 = .ok (.iload_n 2, 1) := by decide +kernel
theorem dX4_keystone_12 : decode cX4_keystone 12 = .ok (.iconst 1, 1) := by decide +kernel
theorem dX4_keystone_13 : decode cX4_keystone 13 = .ok (.if_icmp .le 6, 3) := by decide +kernel
theorem dX4_keystone_16 : decode cX4_keystone 16 = .ok (.ldc 37, 2) := by decide +kernel
theorem dX4_keystone_18 : decode cX4_keystone 18 = .ok (.ireturn, 1) := by decide +kernel
theorem dX4_keystone_19 : decode cX4_keystone 19 = .ok (.ldc 171, 2) := by decide +kernel
theorem dX4_keystone_21 : decode cX4_keystone 21 = .ok (.istore_n 3, 1) := by decide +kernel
theorem dX4_keystone_22 : decode cX4_keystone 22 = .ok (.ldc 171, 2) := by decide +kernel
theorem dX4_keystone_24 : decode cX4_keystone 24 = .ok (.istore 4, 2) := by decide +kernel
theorem dX4_keystone_26 : decode cX4_keystone 26 = .ok (.iconst 0, 1) := by decide +kernel
theorem dX4_keystone_27 : decode cX4_keystone 27 = .ok (.istore 5, 2) := by decide +kernel
theorem dX4_keystone_29 : decode cX4_keystone 29 = .ok (.iload 5, 2) := by decide +kernel
theorem dX4_keystone_31 : decode cX4_keystone 31 = .ok (.aload_n 0, 1) := by decide +kernel
theorem dX4_keystone_32 : decode cX4_keystone 32 = .ok (.getfield 10, 3) := by decide +kernel
theorem dX4_keystone_35 : decode cX4_keystone 35 = .ok (.getfield 60, 3) := by decide +kernel
theorem dX4_keystone_38 : decode cX4_keystone 38 = .ok (.if_icmp .ge 52, 3) := by decide +kernel
theorem dX4_keystone_41 : decode cX4_keystone 41 = .ok (.aload_n 0, 1) := by decide +kernel
theorem dX4_keystone_42 : decode cX4_keystone 42 = .ok (.getfield 16, 3) := by decide +kernel
theorem dX4_keystone_45 : decode cX4_keystone 45 = .ok (.aload_n 0, 1) := by decide +kernel
theorem dX4_keystone_46 : decode cX4_keystone 46 = .ok (.getfield 10, 3) := by decide +kernel
theorem dX4_keystone_49 : decode cX4_keystone 49 = .ok (.invokevirtual 177, 3) := by decide +kernel
theorem dX4_keystone_52 : decode cX4_keystone 52 = .ok (.aload_n 0, 1) := by decide +kernel
theorem dX4_keystone_53 : decode cX4_keystone 53 = .ok (.getfield 16, 3) := by decide +kernel
theorem dX4_keystone_56 : decode cX4_keystone 56 = .ok (.iload 5, 2) := by decide +kernel
theorem dX4_keystone_58 : decode cX4_keystone 58 = .ok (.invokevirtual 75, 3) := by decide +kernel
theorem dX4_keystone_61 : decode cX4_keystone 61 = .ok (.aload_n 0, 1) := by decide +kernel
theorem dX4_keystone_62 : decode cX4_keystone 62 = .ok (.getfield 16, 3) := by decide +kernel
theorem dX4_keystone_65 : decode cX4_keystone 65 = .ok (.iload_n 1, 1) := by decide +kernel
theorem dX4_keystone_66 : decode cX4_keystone 66 = .ok (.invokevirtual 109, 3) := by decide +kernel
theorem dX4_keystone_69 : decode cX4_keystone 69 = .ok (.istore 6, 2) := by decide +kernel
theorem dX4_keystone_71 : decode cX4_keystone 71 = .ok (.iload 6, 2) := by decide +kernel
theorem dX4_keystone_73 : decode cX4_keystone 73 = .ok (.iload_n 3, 1) := by decide +kernel
theorem dX4_keystone_74 : decode cX4_keystone 74 = .ok (.if_icmp .le 10, 3) := by decide +kernel
theorem dX4_keystone_77 : decode cX4_keystone 77 = .ok (.iload 6, 2) := by decide +kernel
theorem dX4_keystone_79 : decode cX4_keystone 79 = .ok (.istore_n 3, 1) := by decide +kernel
theorem dX4_keystone_80 : decode cX4_keystone 80 = .ok (.iload 5, 2) := by decide +kernel
theorem dX4_keystone_82 : decode cX4_keystone 82 = .ok (.istore 4, 2) := by decide +kernel
theorem dX4_keystone_84 : decode cX4_keystone 84 = .ok (.iinc 5 1, 3) := by decide +kernel
theorem dX4_keystone_87 : decode cX4_keystone 87 = .ok (.goto (-58), 3) := by decide +kernel
theorem dX4_keystone_90 : decode cX4_keystone 90 = .ok (.iload_n 2, 1) := by decide +kernel
theorem dX4_keystone_91 : decode cX4_keystone 91 = .ok (.ifCond .ne 8, 3) := by decide +kernel
theorem dX4_keystone_94 : decode cX4_keystone 94 = .ok (.iload 4, 2) := by decide +kernel
theorem dX4_keystone_96 : decode cX4_keystone 96 = .ok (.goto 4, 3) := by decide +kernel
theorem dX4_keystone_99 : decode cX4_keystone 99 = .ok (.iload_n 3, 1) := by decide +kernel
theorem dX4_keystone_100 : decode cX4_keystone 100 = .ok (.ireturn, 1) := by decide +kernel
set_option maxRecDepth 20000 in
theorem ggX4_count_X3_doubleArea : GoodIn wsX4_count wsX3_doubleArea := goodIn_r _ [14, 15, 16, 17, 18, 13, 19, 20, 21, 22, 23, 24, 25, 26, 27, 28, 29, 30, 31, 32, 33, 34, 35, 36, 37, 38, 39, 40, 41, 86, 87, 88, 89, 90, 91, 103, 104, 105] (by decide +kernel) (by decide +kernel)
set_option maxRecDepth 20000 in
theorem gX4_count_X3_doubleArea : GoodIn wsX4_count (wsV RX4 172 RX3 yX3_doubleArea wsX3_doubleArea) := goodIn_app (goodIn_of _ (by decide +kernel)) ggX4_count_X3_doubleArea
set_option maxRecDepth 20000 in
theorem ggX4_count_X3_allCorners : GoodIn wsX4_count wsX3_allCorners := goodIn_r _ [45, 15, 46, 16, 17, 18, 13, 19, 20, 21, 86, 87, 88, 89, 90, 91, 103, 104, 105] (by decide +kernel) (by decide +kernel)
set_option maxRecDepth 20000 in
theorem gX4_count_X3_allCorners : GoodIn wsX4_count (wsV RX4 180 RX3 yX3_allCorners wsX3_allCorners) := goodIn_app (goodIn_of _ (by decide +kernel)) ggX4_count_X3_allCorners
set_option maxRecDepth 20000 in
theorem ggX4_count_X3_touchingPairs : GoodIn wsX4_count wsX3_touchingPairs := goodIn_r _ [50, 15, 51, 52, 53, 13, 54, 55, 56, 57, 58, 16, 17, 18, 19, 20, 21, 59, 60, 61, 25, 62, 27, 63, 64, 65, 66, 67, 68, 69, 70, 71, 28, 29, 30, 31, 32, 33, 34, 35, 36, 37, 38, 39, 40, 41, 72, 73, 74, 75, 76, 77, 78, 79, 80, 81, 86, 87, 88, 89, 90, 91, 103, 104, 105] (by decide +kernel) (by decide +kernel)
set_option maxRecDepth 20000 in
theorem gX4_count_X3_touchingPairs : GoodIn wsX4_count (wsV RX4 183 RX3 yX3_touchingPairs wsX3_touchingPairs) := goodIn_app (goodIn_of _ (by decide +kernel)) ggX4_count_X3_touchingPairs
theorem dX4_count_0 : decode cX4_count 0 = .ok (.iload_n 1, 1) := by decide +kernel
theorem dX4_count_1 : decode cX4_count 1 = .ok (.tableswitch 111 0 7 #[47, 55, 63, 71, 79, 87, 95, 103], 47) := by decide +kernel
theorem dX4_count_48 : decode cX4_count 48 = .ok (.aload_n 0, 1) := by decide +kernel
theorem dX4_count_49 : decode cX4_count 49 = .ok (.getfield 10, 3) := by decide +kernel
theorem dX4_count_52 : decode cX4_count 52 = .ok (.getfield 60, 3) := by decide +kernel
theorem dX4_count_55 : decode cX4_count 55 = .ok (.ireturn, 1) := by decide +kernel
theorem dX4_count_56 : decode cX4_count 56 = .ok (.aload_n 0, 1) := by decide +kernel
theorem dX4_count_57 : decode cX4_count 57 = .ok (.getfield 10, 3) := by decide +kernel
theorem dX4_count_60 : decode cX4_count 60 = .ok (.getfield 47, 3) := by decide +kernel
theorem dX4_count_63 : decode cX4_count 63 = .ok (.ireturn, 1) := by decide +kernel
theorem dX4_count_64 : decode cX4_count 64 = .ok (.aload_n 0, 1) := by decide +kernel
theorem dX4_count_65 : decode cX4_count 65 = .ok (.getfield 10, 3) := by decide +kernel
theorem dX4_count_68 : decode cX4_count 68 = .ok (.getfield 51, 3) := by decide +kernel
theorem dX4_count_71 : decode cX4_count 71 = .ok (.ireturn, 1) := by decide +kernel
theorem dX4_count_72 : decode cX4_count 72 = .ok (.aload_n 0, 1) := by decide +kernel
theorem dX4_count_73 : decode cX4_count 73 = .ok (.getfield 10, 3) := by decide +kernel
theorem dX4_count_76 : decode cX4_count 76 = .ok (.invokevirtual 172, 3) := by decide +kernel
theorem dX4_count_79 : decode cX4_count 79 = .ok (.ireturn, 1) := by decide +kernel
theorem dX4_count_80 : decode cX4_count 80 = .ok (.aload_n 0, 1) := by decide +kernel
theorem dX4_count_81 : decode cX4_count 81 = .ok (.getfield 10, 3) := by decide +kernel
theorem dX4_count_84 : decode cX4_count 84 = .ok (.invokevirtual 180, 3) := by decide +kernel
theorem dX4_count_87 : decode cX4_count 87 = .ok (.ireturn, 1) := by decide +kernel
theorem dX4_count_88 : decode cX4_count 88 = .ok (.aload_n 0, 1) := by decide +kernel
theorem dX4_count_89 : decode cX4_count 89 = .ok (.getfield 10, 3) := by decide +kernel
theorem dX4_count_92 : decode cX4_count 92 = .ok (.invokevirtual 183, 3) := by decide +kernel
theorem dX4_count_95 : decode cX4_count 95 = .ok (.ireturn, 1) := by decide +kernel
theorem dX4_count_96 : decode cX4_count 96 = .ok (.aload_n 0, 1) := by decide +kernel
theorem dX4_count_97 : decode cX4_count 97 = .ok (.getfield 22, 3) := by decide +kernel
theorem dX4_count_100 : decode cX4_count 100 = .ok (.getfield 186, 3) := by decide +kernel
theorem dX4_count_103 : decode cX4_count 103 = .ok (.ireturn, 1) := by decide +kernel
theorem dX4_count_104 : decode cX4_count 104 = .ok (.aload_n 0, 1) := by decide +kernel
theorem dX4_count_105 : decode cX4_count 105 = .ok (.getfield 29, 3) := by decide +kernel
theorem dX4_count_108 : decode cX4_count 108 = .ok (.getfield 187, 3) := by decide +kernel
theorem dX4_count_111 : decode cX4_count 111 = .ok (.ireturn, 1) := by decide +kernel
theorem dX4_count_112 : decode cX4_count 112 = .ok (.ldc 37, 2) := by decide +kernel
theorem dX4_count_114 : decode cX4_count 114 = .ok (.ireturn, 1) := by decide +kernel
set_option maxRecDepth 20000 in
theorem ggX4_undo_X2_restore : GoodIn wsX4_undo wsX2_restore := goodIn_r _ [9, 10, 11, 12, 13, 8, 14, 15, 16, 17, 18, 19, 20, 21, 22, 23, 24, 25, 26, 27, 28, 29, 30, 31, 32, 33, 34, 35, 36, 37, 38, 39, 40, 41, 42, 43, 44, 45, 46, 47, 48, 49, 50, 51, 56, 57, 58, 59, 60, 61, 62, 63, 64, 65, 66, 67, 68] (by decide +kernel) (by decide +kernel)
set_option maxRecDepth 20000 in
theorem gX4_undo_X2_restore : GoodIn wsX4_undo (wsV RX4 190 RX2 yX2_restore wsX2_restore) := goodIn_app (goodIn_of _ (by decide +kernel)) ggX4_undo_X2_restore
theorem dX4_undo_0 : decode cX4_undo 0 = .ok (.aload_n 0, 1) := by decide +kernel
theorem dX4_undo_1 : decode cX4_undo 1 = .ok (.getfield 22, 3) := by decide +kernel
theorem dX4_undo_4 : decode cX4_undo 4 = .ok (.getfield 186, 3) := by decide +kernel
theorem dX4_undo_7 : decode cX4_undo 7 = .ok (.ifCond .ne 6, 3) := by decide +kernel
theorem dX4_undo_10 : decode cX4_undo 10 = .ok (.ldc 42, 2) := by decide +kernel
theorem dX4_undo_12 : decode cX4_undo 12 = .ok (.ireturn, 1) := by decide +kernel
theorem dX4_undo_13 : decode cX4_undo 13 = .ok (.aload_n 0, 1) := by decide +kernel
theorem dX4_undo_14 : decode cX4_undo 14 = .ok (.getfield 22, 3) := by decide +kernel
theorem dX4_undo_17 : decode cX4_undo 17 = .ok (.aload_n 0, 1) := by decide +kernel
theorem dX4_undo_18 : decode cX4_undo 18 = .ok (.getfield 10, 3) := by decide +kernel
theorem dX4_undo_21 : decode cX4_undo 21 = .ok (.invokevirtual 190, 3) := by decide +kernel
theorem dX4_undo_24 : decode cX4_undo 24 = .ok (.aload_n 0, 1) := by decide +kernel
theorem dX4_undo_25 : decode cX4_undo 25 = .ok (.getfield 22, 3) := by decide +kernel
theorem dX4_undo_28 : decode cX4_undo 28 = .ok (.getfield 186, 3) := by decide +kernel
theorem dX4_undo_31 : decode cX4_undo 31 = .ok (.ireturn, 1) := by decide +kernel
set_option maxRecDepth 20000 in
theorem ggX4_type_X1_append : GoodIn wsX4_type wsX1_append := goodIn_r _ [9, 10, 11, 16, 17, 18, 19, 20, 21, 22] (by decide +kernel) (by decide +kernel)
set_option maxRecDepth 20000 in
theorem gX4_type_X1_append : GoodIn wsX4_type (wsV RX4 193 RX1 yX1_append wsX1_append) := goodIn_app (goodIn_of _ (by decide +kernel)) ggX4_type_X1_append
theorem dX4_type_0 : decode cX4_type 0 = .ok (.iload_n 1, 1) := by decide +kernel
theorem dX4_type_1 : decode cX4_type 1 = .ok (.bipush 32, 2) := by decide +kernel
theorem dX4_type_3 : decode cX4_type 3 = .ok (.if_icmp .lt 9, 3) := by decide +kernel
theorem dX4_type_6 : decode cX4_type 6 = .ok (.iload_n 1, 1) := by decide +kernel
theorem dX4_type_7 : decode cX4_type 7 = .ok (.bipush 126, 2) := by decide +kernel
theorem dX4_type_9 : decode cX4_type 9 = .ok (.if_icmp .le 6, 3) := by decide +kernel
theorem dX4_type_12 : decode cX4_type 12 = .ok (.ldc 37, 2) := by decide +kernel
theorem dX4_type_14 : decode cX4_type 14 = .ok (.ireturn, 1) := by decide +kernel
theorem dX4_type_15 : decode cX4_type 15 = .ok (.aload_n 0, 1) := by decide +kernel
theorem dX4_type_16 : decode cX4_type 16 = .ok (.getfield 29, 3) := by decide +kernel
theorem dX4_type_19 : decode cX4_type 19 = .ok (.getfield 187, 3) := by decide +kernel
theorem dX4_type_22 : decode cX4_type 22 = .ok (.bipush 60, 2) := by decide +kernel
theorem dX4_type_24 : decode cX4_type 24 = .ok (.if_icmp .lt 6, 3) := by decide +kernel
theorem dX4_type_27 : decode cX4_type 27 = .ok (.ldc 63, 2) := by decide +kernel
theorem dX4_type_29 : decode cX4_type 29 = .ok (.ireturn, 1) := by decide +kernel
theorem dX4_type_30 : decode cX4_type 30 = .ok (.aload_n 0, 1) := by decide +kernel
theorem dX4_type_31 : decode cX4_type 31 = .ok (.getfield 29, 3) := by decide +kernel
theorem dX4_type_34 : decode cX4_type 34 = .ok (.iload_n 1, 1) := by decide +kernel
theorem dX4_type_35 : decode cX4_type 35 = .ok (.i2c, 1) := by decide +kernel
theorem dX4_type_36 : decode cX4_type 36 = .ok (.invokevirtual 193, 3) := by decide +kernel
theorem dX4_type_39 : decode cX4_type 39 = .ok (.aload_n 0, 1) := by decide +kernel
theorem dX4_type_40 : decode cX4_type 40 = .ok (.getfield 29, 3) := by decide +kernel
theorem dX4_type_43 : decode cX4_type 43 = .ok (.getfield 187, 3) := by decide +kernel
theorem dX4_type_46 : decode cX4_type 46 = .ok (.ireturn, 1) := by decide +kernel
theorem dX4_clearText_0 : decode cX4_clearText 0 = .ok (.aload_n 0, 1) := by decide +kernel
theorem dX4_clearText_1 : decode cX4_clearText 1 = .ok (.getfield 29, 3) := by decide +kernel
theorem dX4_clearText_4 : decode cX4_clearText 4 = .ok (.getfield 187, 3) := by decide +kernel
theorem dX4_clearText_7 : decode cX4_clearText 7 = .ok (.istore_n 1, 1) := by decide +kernel
theorem dX4_clearText_8 : decode cX4_clearText 8 = .ok (.aload_n 0, 1) := by decide +kernel
theorem dX4_clearText_9 : decode cX4_clearText 9 = .ok (.getfield 29, 3) := by decide +kernel
theorem dX4_clearText_12 : decode cX4_clearText 12 = .ok (.iconst 0, 1) := by decide +kernel
theorem dX4_clearText_13 : decode cX4_clearText 13 = .ok (.putfield 187, 3) := by decide +kernel
theorem dX4_clearText_16 : decode cX4_clearText 16 = .ok (.iload_n 1, 1) := by decide +kernel
theorem dX4_clearText_17 : decode cX4_clearText 17 = .ok (.ireturn, 1) := by decide +kernel
set_option maxRecDepth 20000 in
theorem ggX4_fault_X1_examine : GoodIn wsX4_fault wsX1_examine := goodIn_r _ [12, 13, 14, 15, 16, 17, 18, 19, 11, 20, 21, 22, 23, 24, 25, 26, 27, 28, 29, 30, 31, 32, 33, 34, 35, 36, 37, 38, 39, 40, 41, 42, 43, 44, 45, 46, 47, 48, 49, 50, 51, 52, 53, 54, 55, 56, 57, 58, 59, 60, 61, 62, 63, 64, 65, 66, 67, 68, 69, 70, 71, 72, 73, 74, 75, 76, 77, 78, 79, 80, 81, 82, 83, 84, 85, 86, 87, 88, 89, 90, 91, 92, 93, 94, 95, 96, 97, 98, 99, 100, 101, 102, 103, 104, 105, 106, 107, 108, 109, 110, 111, 112, 113, 114, 115, 116, 117, 118, 119, 124, 125, 126, 127, 128, 129, 130, 131, 132, 133, 134, 135, 136, 137, 138, 139] (by decide +kernel) (by decide +kernel)
set_option maxRecDepth 20000 in
theorem gX4_fault_X1_examine : GoodIn wsX4_fault (wsV RX4 54 RX1 yX1_examine wsX1_examine) := goodIn_app (goodIn_of _ (by decide +kernel)) ggX4_fault_X1_examine
theorem dX4_fault_0 : decode cX4_fault 0 = .ok (.iload_n 1, 1) := by decide +kernel
theorem dX4_fault_1 : decode cX4_fault 1 = .ok (.ifCond .lt 8, 3) := by decide +kernel
theorem dX4_fault_4 : decode cX4_fault 4 = .ok (.iload_n 1, 1) := by decide +kernel
theorem dX4_fault_5 : decode cX4_fault 5 = .ok (.iconst 2, 1) := by decide +kernel
theorem dX4_fault_6 : decode cX4_fault 6 = .ok (.if_icmp .le 6, 3) := by decide +kernel
theorem dX4_fault_9 : decode cX4_fault 9 = .ok (.ldc 37, 2) := by decide +kernel
theorem dX4_fault_11 : decode cX4_fault 11 = .ok (.ireturn, 1) := by decide +kernel
theorem dX4_fault_12 : decode cX4_fault 12 = .ok (.aload_n 0, 1) := by decide +kernel
theorem dX4_fault_13 : decode cX4_fault 13 = .ok (.getfield 29, 3) := by decide +kernel
theorem dX4_fault_16 : decode cX4_fault 16 = .ok (.aload_n 0, 1) := by decide +kernel
theorem dX4_fault_17 : decode cX4_fault 17 = .ok (.getfield 10, 3) := by decide +kernel
theorem dX4_fault_20 : decode cX4_fault 20 = .ok (.invokevirtual 54, 3) := by decide +kernel
theorem dX4_fault_23 : decode cX4_fault 23 = .ok (.aload_n 0, 1) := by decide +kernel
theorem dX4_fault_24 : decode cX4_fault 24 = .ok (.getfield 29, 3) := by decide +kernel
theorem dX4_fault_27 : decode cX4_fault 27 = .ok (.getfield 57, 3) := by decide +kernel
theorem dX4_fault_30 : decode cX4_fault 30 = .ok (.ifCond .ne 6, 3) := by decide +kernel
theorem dX4_fault_33 : decode cX4_fault 33 = .ok (.ldc 171, 2) := by decide +kernel
theorem dX4_fault_35 : decode cX4_fault 35 = .ok (.ireturn, 1) := by decide +kernel
theorem dX4_fault_36 : decode cX4_fault 36 = .ok (.iload_n 1, 1) := by decide +kernel
theorem dX4_fault_37 : decode cX4_fault 37 = .ok (.ifCond .ne 11, 3) := by decide +kernel
theorem dX4_fault_40 : decode cX4_fault 40 = .ok (.aload_n 0, 1) := by decide +kernel
theorem dX4_fault_41 : decode cX4_fault 41 = .ok (.getfield 29, 3) := by decide +kernel
theorem dX4_fault_44 : decode cX4_fault 44 = .ok (.getfield 197, 3) := by decide +kernel
theorem dX4_fault_47 : decode cX4_fault 47 = .ok (.ireturn, 1) := by decide +kernel
theorem dX4_fault_48 : decode cX4_fault 48 = .ok (.iload_n 1, 1) := by decide +kernel
theorem dX4_fault_49 : decode cX4_fault 49 = .ok (.iconst 1, 1) := by decide +kernel
theorem dX4_fault_50 : decode cX4_fault 50 = .ok (.if_icmp .ne 13, 3) := by decide +kernel
theorem dX4_fault_53 : decode cX4_fault 53 = .ok (.aload_n 0, 1) := by decide +kernel
theorem dX4_fault_54 : decode cX4_fault 54 = .ok (.getfield 29, 3) := by decide +kernel
theorem dX4_fault_57 : decode cX4_fault 57 = .ok (.getfield 57, 3) := by decide +kernel
theorem dX4_fault_60 : decode cX4_fault 60 = .ok (.goto 10, 3) := by decide +kernel
theorem dX4_fault_63 : decode cX4_fault 63 = .ok (.aload_n 0, 1) := by decide +kernel
theorem dX4_fault_64 : decode cX4_fault 64 = .ok (.getfield 29, 3) := by decide +kernel
theorem dX4_fault_67 : decode cX4_fault 67 = .ok (.getfield 200, 3) := by decide +kernel
theorem dX4_fault_70 : decode cX4_fault 70 = .ok (.ireturn, 1) := by decide +kernel
theorem dX4_isSize_0 : decode cX4_isSize 0 = .ok (.iload_n 0, 1) := by decide +kernel
theorem dX4_isSize_1 : decode cX4_isSize 1 = .ok (.bipush 10, 2) := by decide +kernel
theorem dX4_isSize_3 : decode cX4_isSize 3 = .ok (.if_icmp .lt 13, 3) := by decide +kernel
theorem dX4_isSize_6 : decode cX4_isSize 6 = .ok (.iload_n 0, 1) := by decide +kernel
theorem dX4_isSize_7 : decode cX4_isSize 7 = .ok (.bipush 60, 2) := by decide +kernel
theorem dX4_isSize_9 : decode cX4_isSize 9 = .ok (.if_icmp .gt 7, 3) := by decide +kernel
theorem dX4_isSize_12 : decode cX4_isSize 12 = .ok (.iconst 1, 1) := by decide +kernel
theorem dX4_isSize_13 : decode cX4_isSize 13 = .ok (.goto 4, 3) := by decide +kernel
theorem dX4_isSize_16 : decode cX4_isSize 16 = .ok (.iconst 0, 1) := by decide +kernel
theorem dX4_isSize_17 : decode cX4_isSize 17 = .ok (.ireturn, 1) := by decide +kernel
theorem dX4_isDirection_0 : decode cX4_isDirection 0 = .ok (.iload_n 0, 1) := by decide +kernel
theorem dX4_isDirection_1 : decode cX4_isDirection 1 = .ok (.ifCond .lt 13, 3) := by decide +kernel
theorem dX4_isDirection_4 : decode cX4_isDirection 4 = .ok (.iload_n 0, 1) := by decide +kernel
theorem dX4_isDirection_5 : decode cX4_isDirection 5 = .ok (.bipush 8, 2) := by decide +kernel
theorem dX4_isDirection_7 : decode cX4_isDirection 7 = .ok (.if_icmp .ge 7, 3) := by decide +kernel
theorem dX4_isDirection_10 : decode cX4_isDirection 10 = .ok (.iconst 1, 1) := by decide +kernel
theorem dX4_isDirection_11 : decode cX4_isDirection 11 = .ok (.goto 4, 3) := by decide +kernel
theorem dX4_isDirection_14 : decode cX4_isDirection 14 = .ok (.iconst 0, 1) := by decide +kernel
theorem dX4_isDirection_15 : decode cX4_isDirection 15 = .ok (.ireturn, 1) := by decide +kernel
theorem dX4_stepX_0 : decode cX4_stepX 0 = .ok (.iload_n 0, 1) := by decide +kernel
theorem dX4_stepX_1 : decode cX4_stepX 1 = .ok (.ifCond .lt 19, 3) := by decide +kernel
theorem dX4_stepX_4 : decode cX4_stepX 4 = .ok (.iload_n 0, 1) := by decide +kernel
theorem dX4_stepX_5 : decode cX4_stepX 5 = .ok (.getstatic 203, 3) := by decide +kernel
theorem dX4_stepX_8 : decode cX4_stepX 8 = .ok (.arraylength, 1) := by decide +kernel
theorem dX4_stepX_9 : decode cX4_stepX 9 = .ok (.if_icmp .ge 11, 3) := by decide +kernel
theorem dX4_stepX_12 : decode cX4_stepX 12 = .ok (.getstatic 203, 3) := by decide +kernel
theorem dX4_stepX_15 : decode cX4_stepX 15 = .ok (.iload_n 0, 1) := by decide +kernel
theorem dX4_stepX_16 : decode cX4_stepX 16 = .ok (.iaload, 1) := by decide +kernel
theorem dX4_stepX_17 : decode cX4_stepX 17 = .ok (.goto 4, 3) := by decide +kernel
theorem dX4_stepX_20 : decode cX4_stepX 20 = .ok (.iconst 0, 1) := by decide +kernel
theorem dX4_stepX_21 : decode cX4_stepX 21 = .ok (.ireturn, 1) := by decide +kernel
theorem dX4_stepY_0 : decode cX4_stepY 0 = .ok (.iload_n 0, 1) := by decide +kernel
theorem dX4_stepY_1 : decode cX4_stepY 1 = .ok (.ifCond .lt 19, 3) := by decide +kernel
theorem dX4_stepY_4 : decode cX4_stepY 4 = .ok (.iload_n 0, 1) := by decide +kernel
theorem dX4_stepY_5 : decode cX4_stepY 5 = .ok (.getstatic 207, 3) := by decide +kernel
theorem dX4_stepY_8 : decode cX4_stepY 8 = .ok (.arraylength, 1) := by decide +kernel
theorem dX4_stepY_9 : decode cX4_stepY 9 = .ok (.if_icmp .ge 11, 3) := by decide +kernel
theorem dX4_stepY_12 : decode cX4_stepY 12 = .ok (.getstatic 207, 3) := by decide +kernel
theorem dX4_stepY_15 : decode cX4_stepY 15 = .ok (.iload_n 0, 1) := by decide +kernel
theorem dX4_stepY_16 : decode cX4_stepY 16 = .ok (.iaload, 1) := by decide +kernel
theorem dX4_stepY_17 : decode cX4_stepY 17 = .ok (.goto 4, 3) := by decide +kernel
theorem dX4_stepY_20 : decode cX4_stepY 20 = .ok (.iconst 0, 1) := by decide +kernel
theorem dX4_stepY_21 : decode cX4_stepY 21 = .ok (.ireturn, 1) := by decide +kernel
set_option maxRecDepth 20000 in
theorem ggX4_placeOfCorner_X0_x : GoodIn wsX4_placeOfCorner wsX0_x := goodIn_r _ [7, 8, 14, 15, 16] (by decide +kernel) (by decide +kernel)
set_option maxRecDepth 20000 in
theorem gX4_placeOfCorner_X0_x : GoodIn wsX4_placeOfCorner (wsV RX4 210 RX0 yX0_x wsX0_x) := goodIn_app (goodIn_of _ (by decide +kernel)) ggX4_placeOfCorner_X0_x
set_option maxRecDepth 20000 in
theorem ggX4_placeOfCorner_X0_y : GoodIn wsX4_placeOfCorner wsX0_y := goodIn_r _ [12, 13, 14, 15, 16] (by decide +kernel) (by decide +kernel)
set_option maxRecDepth 20000 in
theorem gX4_placeOfCorner_X0_y : GoodIn wsX4_placeOfCorner (wsV RX4 213 RX0 yX0_y wsX0_y) := goodIn_app (goodIn_of _ (by decide +kernel)) ggX4_placeOfCorner_X0_y
theorem dX4_placeOfCorner_0 : decode cX4_placeOfCorner 0 = .ok (.iload_n 1, 1) := by decide +kernel
theorem dX4_placeOfCorner_1 : decode cX4_placeOfCorner 1 = .ok (.iconst 1, 1) := by decide +kernel
theorem dX4_placeOfCorner_2 : decode cX4_placeOfCorner 2 = .ok (.ishr, 1) := by decide +kernel
theorem dX4_placeOfCorner_3 : decode cX4_placeOfCorner 3 = .ok (.istore_n 2, 1) := by decide +kernel
theorem dX4_placeOfCorner_4 : decode cX4_placeOfCorner 4 = .ok (.iload_n 2, 1) := by decide +kernel
theorem dX4_placeOfCorner_5 : decode cX4_placeOfCorner 5 = .ok (.aload_n 0, 1) := by decide +kernel
theorem dX4_placeOfCorner_6 : decode cX4_placeOfCorner 6 = .ok (.getfield 113, 3) := by decide +kernel
theorem dX4_placeOfCorner_9 : decode cX4_placeOfCorner 9 = .ok (.if_icmp .lt 6, 3) := by decide +kernel
theorem dX4_placeOfCorner_12 : decode cX4_placeOfCorner 12 = .ok (.ldc 171, 2) := by decide +kernel
theorem dX4_placeOfCorner_14 : decode cX4_placeOfCorner 14 = .ok (.ireturn, 1) := by decide +kernel
theorem dX4_placeOfCorner_15 : decode cX4_placeOfCorner 15 = .ok (.iload_n 1, 1) := by decide +kernel
theorem dX4_placeOfCorner_16 : decode cX4_placeOfCorner 16 = .ok (.iconst 1, 1) := by decide +kernel
theorem dX4_placeOfCorner_17 : decode cX4_placeOfCorner 17 = .ok (.iand, 1) := by decide +kernel
theorem dX4_placeOfCorner_18 : decode cX4_placeOfCorner 18 = .ok (.ifCond .ne 11, 3) := by decide +kernel
theorem dX4_placeOfCorner_21 : decode cX4_placeOfCorner 21 = .ok (.aload_n 0, 1) := by decide +kernel
theorem dX4_placeOfCorner_22 : decode cX4_placeOfCorner 22 = .ok (.iload_n 2, 1) := by decide +kernel
theorem dX4_placeOfCorner_23 : decode cX4_placeOfCorner 23 = .ok (.invokevirtual 210, 3) := by decide +kernel
theorem dX4_placeOfCorner_26 : decode cX4_placeOfCorner 26 = .ok (.goto 8, 3) := by decide +kernel
theorem dX4_placeOfCorner_29 : decode cX4_placeOfCorner 29 = .ok (.aload_n 0, 1) := by decide +kernel
theorem dX4_placeOfCorner_30 : decode cX4_placeOfCorner 30 = .ok (.iload_n 2, 1) := by decide +kernel
theorem dX4_placeOfCorner_31 : decode cX4_placeOfCorner 31 = .ok (.invokevirtual 213, 3) := by decide +kernel
theorem dX4_placeOfCorner_34 : decode cX4_placeOfCorner 34 = .ok (.ireturn, 1) := by decide +kernel
theorem dX4_bitsOfShare_0 : decode cX4_bitsOfShare 0 = .ok (.fload_n 0, 1) := by decide +kernel
theorem dX4_bitsOfShare_1 : decode cX4_bitsOfShare 1 = .ok (.fconst 0, 1) := by decide +kernel
theorem dX4_bitsOfShare_2 : decode cX4_bitsOfShare 2 = .ok (.fcmp .l, 1) := by decide +kernel
theorem dX4_bitsOfShare_3 : decode cX4_bitsOfShare 3 = .ok (.ifCond .gt 5, 3) := by decide +kernel
theorem dX4_bitsOfShare_6 : decode cX4_bitsOfShare 6 = .ok (.iconst 0, 1) := by decide +kernel
theorem dX4_bitsOfShare_7 : decode cX4_bitsOfShare 7 = .ok (.ireturn, 1) := by decide +kernel
theorem dX4_bitsOfShare_8 : decode cX4_bitsOfShare 8 = .ok (.bipush 127, 2) := by decide +kernel
theorem dX4_bitsOfShare_10 : decode cX4_bitsOfShare 10 = .ok (.istore_n 1, 1) := by decide +kernel
theorem dX4_bitsOfShare_11 : decode cX4_bitsOfShare 11 = .ok (.fload_n 0, 1) := by decide +kernel
theorem dX4_bitsOfShare_12 : decode cX4_bitsOfShare 12 = .ok (.fstore_n 2, 1) := by decide +kernel
theorem dX4_bitsOfShare_13 : decode cX4_bitsOfShare 13 = .ok (.fload_n 2, 1) := by decide +kernel
theorem dX4_bitsOfShare_14 : decode cX4_bitsOfShare 14 = .ok (.fconst 1, 1) := by decide +kernel
theorem dX4_bitsOfShare_15 : decode cX4_bitsOfShare 15 = .ok (.fcmp .g, 1) := by decide +kernel
theorem dX4_bitsOfShare_16 : decode cX4_bitsOfShare 16 = .ok (.ifCond .ge 18, 3) := by decide +kernel
theorem dX4_bitsOfShare_19 : decode cX4_bitsOfShare 19 = .ok (.iload_n 1, 1) := by decide +kernel
theorem dX4_bitsOfShare_20 : decode cX4_bitsOfShare 20 = .ok (.iconst 1, 1) := by decide +kernel
theorem dX4_bitsOfShare_21 : decode cX4_bitsOfShare 21 = .ok (.if_icmp .le 13, 3) := by decide +kernel
theorem dX4_bitsOfShare_24 : decode cX4_bitsOfShare 24 = .ok (.fload_n 2, 1) := by decide +kernel
theorem dX4_bitsOfShare_25 : decode cX4_bitsOfShare 25 = .ok (.fconst 2, 1) := by decide +kernel
theorem dX4_bitsOfShare_26 : decode cX4_bitsOfShare 26 = .ok (.fmul, 1) := by decide +kernel
theorem dX4_bitsOfShare_27 : decode cX4_bitsOfShare 27 = .ok (.fstore_n 2, 1) := by decide +kernel
theorem dX4_bitsOfShare_28 : decode cX4_bitsOfShare 28 = .ok (.iinc 1 (-1), 3) := by decide +kernel
theorem dX4_bitsOfShare_31 : decode cX4_bitsOfShare 31 = .ok (.goto (-18), 3) := by decide +kernel
theorem dX4_bitsOfShare_34 : decode cX4_bitsOfShare 34 = .ok (.iload_n 1, 1) := by decide +kernel
theorem dX4_bitsOfShare_35 : decode cX4_bitsOfShare 35 = .ok (.bipush 23, 2) := by decide +kernel
theorem dX4_bitsOfShare_37 : decode cX4_bitsOfShare 37 = .ok (.ishl, 1) := by decide +kernel
theorem dX4_bitsOfShare_38 : decode cX4_bitsOfShare 38 = .ok (.fload_n 2, 1) := by decide +kernel
theorem dX4_bitsOfShare_39 : decode cX4_bitsOfShare 39 = .ok (.fconst 1, 1) := by decide +kernel
theorem dX4_bitsOfShare_40 : decode cX4_bitsOfShare 40 = .ok (.fsub, 1) := by decide +kernel
theorem dX4_bitsOfShare_41 : decode cX4_bitsOfShare 41 = .ok (.ldc 216, 2) := by decide +kernel
theorem dX4_bitsOfShare_43 : decode cX4_bitsOfShare 43 = .ok (.fmul, 1) := by decide +kernel
theorem dX4_bitsOfShare_44 : decode cX4_bitsOfShare 44 = .ok (.f2i, 1) := by decide +kernel
theorem dX4_bitsOfShare_45 : decode cX4_bitsOfShare 45 = .ok (.iadd, 1) := by decide +kernel
theorem dX4_bitsOfShare_46 : decode cX4_bitsOfShare 46 = .ok (.ireturn, 1) := by decide +kernel
theorem dX4_lowest_0 : decode cX4_lowest 0 = .ok (.iconst 0, 1) := by decide +kernel
theorem dX4_lowest_1 : decode cX4_lowest 1 = .ok (.istore_n 1, 1) := by decide +kernel
theorem dX4_lowest_2 : decode cX4_lowest 2 = .ok (.iload_n 1, 1) := by decide +kernel
theorem dX4_lowest_3 : decode cX4_lowest 3 = .ok (.bipush 8, 2) := by decide +kernel
theorem dX4_lowest_5 : decode cX4_lowest 5 = .ok (.if_icmp .ge 17, 3) := by decide +kernel
theorem dX4_lowest_8 : decode cX4_lowest 8 = .ok (.iload_n 0, 1) := by decide +kernel
theorem dX4_lowest_9 : decode cX4_lowest 9 = .ok (.iconst 1, 1) := by decide +kernel
theorem dX4_lowest_10 : decode cX4_lowest 10 = .ok (.iload_n 1, 1) := by decide +kernel
theorem dX4_lowest_11 : decode cX4_lowest 11 = .ok (.ishl, 1) := by decide +kernel
theorem dX4_lowest_12 : decode cX4_lowest 12 = .ok (.iand, 1) := by decide +kernel
theorem dX4_lowest_13 : decode cX4_lowest 13 = .ok (.ifCond .ne 9, 3) := by decide +kernel
theorem dX4_lowest_16 : decode cX4_lowest 16 = .ok (.iinc 1 1, 3) := by decide +kernel
theorem dX4_lowest_19 : decode cX4_lowest 19 = .ok (.goto (-17), 3) := by decide +kernel
theorem dX4_lowest_22 : decode cX4_lowest 22 = .ok (.iload_n 1, 1) := by decide +kernel
theorem dX4_lowest_23 : decode cX4_lowest 23 = .ok (.ireturn, 1) := by decide +kernel
theorem dX4_cross_0 : decode cX4_cross 0 = .ok (.iload_n 2, 1) := by decide +kernel
theorem dX4_cross_1 : decode cX4_cross 1 = .ok (.iload_n 0, 1) := by decide +kernel
theorem dX4_cross_2 : decode cX4_cross 2 = .ok (.isub, 1) := by decide +kernel
theorem dX4_cross_3 : decode cX4_cross 3 = .ok (.iload 5, 2) := by decide +kernel
theorem dX4_cross_5 : decode cX4_cross 5 = .ok (.iload_n 1, 1) := by decide +kernel
theorem dX4_cross_6 : decode cX4_cross 6 = .ok (.isub, 1) := by decide +kernel
theorem dX4_cross_7 : decode cX4_cross 7 = .ok (.imul, 1) := by decide +kernel
theorem dX4_cross_8 : decode cX4_cross 8 = .ok (.iload_n 3, 1) := by decide +kernel
theorem dX4_cross_9 : decode cX4_cross 9 = .ok (.iload_n 1, 1) := by decide +kernel
theorem dX4_cross_10 : decode cX4_cross 10 = .ok (.isub, 1) := by decide +kernel
theorem dX4_cross_11 : decode cX4_cross 11 = .ok (.iload 4, 2) := by decide +kernel
theorem dX4_cross_13 : decode cX4_cross 13 = .ok (.iload_n 0, 1) := by decide +kernel
theorem dX4_cross_14 : decode cX4_cross 14 = .ok (.isub, 1) := by decide +kernel
theorem dX4_cross_15 : decode cX4_cross 15 = .ok (.imul, 1) := by decide +kernel
theorem dX4_cross_16 : decode cX4_cross 16 = .ok (.isub, 1) := by decide +kernel
theorem dX4_cross_17 : decode cX4_cross 17 = .ok (.ireturn, 1) := by decide +kernel
theorem dX5_init_0 : decode cX5_init 0 = .ok (.aload_n 0, 1) := by decide +kernel
theorem dX5_init_1 : decode cX5_init 1 = .ok (.invokespecial 1, 3) := by decide +kernel
theorem dX5_init_4 : decode cX5_init 4 = .ok (.aload_n 0, 1) := by decide +kernel
theorem dX5_init_5 : decode cX5_init 5 = .ok (.bipush 120, 2) := by decide +kernel
theorem dX5_init_7 : decode cX5_init 7 = .ok (.newarray .int, 2) := by decide +kernel
theorem dX5_init_9 : decode cX5_init 9 = .ok (.putfield 7, 3) := by decide +kernel
theorem dX5_init_12 : decode cX5_init 12 = .ok (.aload_n 0, 1) := by decide +kernel
theorem dX5_init_13 : decode cX5_init 13 = .ok (.sipush 480, 3) := by decide +kernel
theorem dX5_init_16 : decode cX5_init 16 = .ok (.newarray .int, 2) := by decide +kernel
theorem dX5_init_18 : decode cX5_init 18 = .ok (.putfield 13, 3) := by decide +kernel
theorem dX5_init_21 : decode cX5_init 21 = .ok (.aload_n 0, 1) := by decide +kernel
theorem dX5_init_22 : decode cX5_init 22 = .ok (.bipush 120, 2) := by decide +kernel
theorem dX5_init_24 : decode cX5_init 24 = .ok (.newarray .int, 2) := by decide +kernel
theorem dX5_init_26 : decode cX5_init 26 = .ok (.putfield 16, 3) := by decide +kernel
theorem dX5_init_29 : decode cX5_init 29 = .ok (.aload_n 0, 1) := by decide +kernel
theorem dX5_init_30 : decode cX5_init 30 = .ok (.bipush 60, 2) := by decide +kernel
theorem dX5_init_32 : decode cX5_init 32 = .ok (.newarray .int, 2) := by decide +kernel
theorem dX5_init_34 : decode cX5_init 34 = .ok (.putfield 19, 3) := by decide +kernel
theorem dX5_init_37 : decode cX5_init 37 = .ok (.aload_n 0, 1) := by decide +kernel
theorem dX5_init_38 : decode cX5_init 38 = .ok (.getfield 7, 3) := by decide +kernel
theorem dX5_init_41 : decode cX5_init 41 = .ok (.iconst 0, 1) := by decide +kernel
theorem dX5_init_42 : decode cX5_init 42 = .ok (.bipush 20, 2) := by decide +kernel
theorem dX5_init_44 : decode cX5_init 44 = .ok (.iastore, 1) := by decide +kernel
theorem dX5_init_45 : decode cX5_init 45 = .ok (.aload_n 0, 1) := by decide +kernel
theorem dX5_init_46 : decode cX5_init 46 = .ok (.getfield 7, 3) := by decide +kernel
theorem dX5_init_49 : decode cX5_init 49 = .ok (.iconst 1, 1) := by decide +kernel
theorem dX5_init_50 : decode cX5_init 50 = .ok (.bipush 20, 2) := by decide +kernel
theorem dX5_init_52 : decode cX5_init 52 = .ok (.iastore, 1) := by decide +kernel
theorem dX5_init_53 : decode cX5_init 53 = .ok (.return_, 1) := by decide +kernel
theorem dX5_in_0 : decode cX5_in 0 = .ok (.lload_n 0, 1) := by decide +kernel
theorem dX5_in_1 : decode cX5_in 1 = .ok (.lload_n 2, 1) := by decide +kernel
theorem dX5_in_2 : decode cX5_in 2 = .ok (.lcmp, 1) := by decide +kernel
theorem dX5_in_3 : decode cX5_in 3 = .ok (.ifCond .lt 14, 3) := by decide +kernel
theorem dX5_in_6 : decode cX5_in 6 = .ok (.lload_n 0, 1) := by decide +kernel
theorem dX5_in_7 : decode cX5_in 7 = .ok (.lload 4, 2) := by decide +kernel
theorem dX5_in_9 : decode cX5_in 9 = .ok (.lcmp, 1) := by decide +kernel
theorem dX5_in_10 : decode cX5_in 10 = .ok (.ifCond .gt 7, 3) := by decide +kernel
theorem dX5_in_13 : decode cX5_in 13 = .ok (.iconst 1, 1) := by decide +kernel
theorem dX5_in_14 : decode cX5_in 14 = .ok (.goto 4, 3) := by decide +kernel
theorem dX5_in_17 : decode cX5_in 17 = .ok (.iconst 0, 1) := by decide +kernel
theorem dX5_in_18 : decode cX5_in 18 = .ok (.ireturn, 1) := by decide +kernel
theorem dX5_keep_0 : decode cX5_keep 0 = .ok (.iconst 0, 1) := by decide +kernel
theorem dX5_keep_1 : decode cX5_keep 1 = .ok (.istore_n 1, 1) := by decide +kernel
theorem dX5_keep_2 : decode cX5_keep 2 = .ok (.iload_n 1, 1) := by decide +kernel
theorem dX5_keep_3 : decode cX5_keep 3 = .ok (.bipush 120, 2) := by decide +kernel
theorem dX5_keep_5 : decode cX5_keep 5 = .ok (.if_icmp .ge 21, 3) := by decide +kernel
theorem dX5_keep_8 : decode cX5_keep 8 = .ok (.aload_n 0, 1) := by decide +kernel
theorem dX5_keep_9 : decode cX5_keep 9 = .ok (.getfield 16, 3) := by decide +kernel
theorem dX5_keep_12 : decode cX5_keep 12 = .ok (.iload_n 1, 1) := by decide +kernel
theorem dX5_keep_13 : decode cX5_keep 13 = .ok (.aload_n 0, 1) := by decide +kernel
theorem dX5_keep_14 : decode cX5_keep 14 = .ok (.getfield 7, 3) := by decide +kernel
theorem dX5_keep_17 : decode cX5_keep 17 = .ok (.iload_n 1, 1) := by decide +kernel
theorem dX5_keep_18 : decode cX5_keep 18 = .ok (.iaload, 1) := by decide +kernel
theorem dX5_keep_19 : decode cX5_keep 19 = .ok (.iastore, 1) := by decide +kernel
theorem dX5_keep_20 : decode cX5_keep 20 = .ok (.iinc 1 1, 3) := by decide +kernel
theorem dX5_keep_23 : decode cX5_keep 23 = .ok (.goto (-21), 3) := by decide +kernel
theorem dX5_keep_26 : decode cX5_keep 26 = .ok (.return_, 1) := by decide +kernel
theorem dX5_giveBack_0 : decode cX5_giveBack 0 = .ok (.iconst 0, 1) := by decide +kernel
theorem dX5_giveBack_1 : decode cX5_giveBack 1 = .ok (.istore_n 1, 1) := by decide +kernel
theorem dX5_giveBack_2 : decode cX5_giveBack 2 = .ok (.iload_n 1, 1) := by decide +kernel
theorem dX5_giveBack_3 : decode cX5_giveBack 3 = .ok (.bipush 120, 2) := by decide +kernel
theorem dX5_giveBack_5 : decode cX5_giveBack 5 = .ok (.if_icmp .ge 21, 3) := by decide +kernel
theorem dX5_giveBack_8 : decode cX5_giveBack 8 = .ok (.aload_n 0, 1) := by decide +kernel
theorem dX5_giveBack_9 : decode cX5_giveBack 9 = .ok (.getfield 7, 3) := by decide +kernel
theorem dX5_giveBack_12 : decode cX5_giveBack 12 = .ok (.iload_n 1, 1) := by decide +kernel
theorem dX5_giveBack_13 : decode cX5_giveBack 13 = .ok (.aload_n 0, 1) := by decide +kernel
theorem dX5_giveBack_14 : decode cX5_giveBack 14 = .ok (.getfield 16, 3) := by decide +kernel
theorem dX5_giveBack_17 : decode cX5_giveBack 17 = .ok (.iload_n 1, 1) := by decide +kernel
theorem dX5_giveBack_18 : decode cX5_giveBack 18 = .ok (.iaload, 1) := by decide +kernel
theorem dX5_giveBack_19 : decode cX5_giveBack 19 = .ok (.iastore, 1) := by decide +kernel
theorem dX5_giveBack_20 : decode cX5_giveBack 20 = .ok (.iinc 1 1, 3) := by decide +kernel
theorem dX5_giveBack_23 : decode cX5_giveBack 23 = .ok (.goto (-21), 3) := by decide +kernel
theorem dX5_giveBack_26 : decode cX5_giveBack 26 = .ok (.return_, 1) := by decide +kernel
theorem dX5_changed_0 : decode cX5_changed 0 = .ok (.aload_n 0, 1) := by decide +kernel
theorem dX5_changed_1 : decode cX5_changed 1 = .ok (.getfield 22, 3) := by decide +kernel
theorem dX5_changed_4 : decode cX5_changed 4 = .ok (.iconst 4, 1) := by decide +kernel
theorem dX5_changed_5 : decode cX5_changed 5 = .ok (.if_icmp .ne 43, 3) := by decide +kernel
theorem dX5_changed_8 : decode cX5_changed 8 = .ok (.iconst 0, 1) := by decide +kernel
theorem dX5_changed_9 : decode cX5_changed 9 = .ok (.istore_n 2, 1) := by decide +kernel
theorem dX5_changed_10 : decode cX5_changed 10 = .ok (.iload_n 2, 1) := by decide +kernel
theorem dX5_changed_11 : decode cX5_changed 11 = .ok (.sipush 360, 3) := by decide +kernel
theorem dX5_changed_14 : decode cX5_changed 14 = .ok (.if_icmp .ge 24, 3) := by decide +kernel
theorem dX5_changed_17 : decode cX5_changed 17 = .ok (.aload_n 0, 1) := by decide +kernel
theorem dX5_changed_18 : decode cX5_changed 18 = .ok (.getfield 13, 3) := by decide +kernel
theorem dX5_changed_21 : decode cX5_changed 21 = .ok (.iload_n 2, 1) := by decide +kernel
theorem dX5_changed_22 : decode cX5_changed 22 = .ok (.aload_n 0, 1) := by decide +kernel
theorem dX5_changed_23 : decode cX5_changed 23 = .ok (.getfield 13, 3) := by decide +kernel
theorem dX5_changed_26 : decode cX5_changed 26 = .ok (.iload_n 2, 1) := by decide +kernel
theorem dX5_changed_27 : decode cX5_changed 27 = .ok (.bipush 120, 2) := by decide +kernel
theorem dX5_changed_29 : decode cX5_changed 29 = .ok (.iadd, 1) := by decide +kernel
theorem dX5_changed_30 : decode cX5_changed 30 = .ok (.iaload, 1) := by decide +kernel
theorem dX5_changed_31 : decode cX5_changed 31 = .ok (.iastore, 1) := by decide +kernel
theorem dX5_changed_32 : decode cX5_changed 32 = .ok (.iinc 2 1, 3) := by decide +kernel
theorem dX5_changed_35 : decode cX5_changed 35 = .ok (.goto (-25), 3) := by decide +kernel
theorem dX5_changed_38 : decode cX5_changed 38 = .ok (.aload_n 0, 1) := by decide +kernel
theorem dX5_changed_39 : decode cX5_changed 39 = .ok (.dup, 1) := by decide +kernel
theorem dX5_changed_40 : decode cX5_changed 40 = .ok (.getfield 22, 3) := by decide +kernel
theorem dX5_changed_43 : decode cX5_changed 43 = .ok (.iconst 1, 1) := by decide +kernel
theorem dX5_changed_44 : decode cX5_changed 44 = .ok (.isub, 1) := by decide +kernel
theorem dX5_changed_45 : decode cX5_changed 45 = .ok (.putfield 22, 3) := by decide +kernel
theorem dX5_changed_48 : decode cX5_changed 48 = .ok (.iconst 0, 1) := by decide +kernel
theorem dX5_changed_49 : decode cX5_changed 49 = .ok (.istore_n 2, 1) := by decide +kernel
theorem dX5_changed_50 : decode cX5_changed 50 = .ok (.iload_n 2, 1) := by decide +kernel
theorem dX5_changed_51 : decode cX5_changed 51 = .ok (.bipush 120, 2) := by decide +kernel
theorem dX5_changed_53 : decode cX5_changed 53 = .ok (.if_icmp .ge 29, 3) := by decide +kernel
theorem dX5_changed_56 : decode cX5_changed 56 = .ok (.aload_n 0, 1) := by decide +kernel
theorem dX5_changed_57 : decode cX5_changed 57 = .ok (.getfield 13, 3) := by decide +kernel
theorem dX5_changed_60 : decode cX5_changed 60 = .ok (.bipush 120, 2) := by decide +kernel
theorem dX5_changed_62 : decode cX5_changed 62 = .ok (.aload_n 0, 1) := by decide +kernel
theorem dX5_changed_63 : decode cX5_changed 63 = .ok (.getfield 22, 3) := by decide +kernel
theorem dX5_changed_66 : decode cX5_changed 66 = .ok (.imul, 1) := by decide +kernel
theorem dX5_changed_67 : decode cX5_changed 67 = .ok (.iload_n 2, 1) := by decide +kernel
theorem dX5_changed_68 : decode cX5_changed 68 = .ok (.iadd, 1) := by decide +kernel
theorem dX5_changed_69 : decode cX5_changed 69 = .ok (.aload_n 0, 1) := by decide +kernel
theorem dX5_changed_70 : decode cX5_changed 70 = .ok (.getfield 16, 3) := by decide +kernel
theorem dX5_changed_73 : decode cX5_changed 73 = .ok (.iload_n 2, 1) := by decide +kernel
theorem dX5_changed_74 : decode cX5_changed 74 = .ok (.iaload, 1) := by decide +kernel
theorem dX5_changed_75 : decode cX5_changed 75 = .ok (.iastore, 1) := by decide +kernel
theorem dX5_changed_76 : decode cX5_changed 76 = .ok (.iinc 2 1, 3) := by decide +kernel
theorem dX5_changed_79 : decode cX5_changed 79 = .ok (.goto (-29), 3) := by decide +kernel
theorem dX5_changed_82 : decode cX5_changed 82 = .ok (.aload_n 0, 1) := by decide +kernel
theorem dX5_changed_83 : decode cX5_changed 83 = .ok (.dup, 1) := by decide +kernel
theorem dX5_changed_84 : decode cX5_changed 84 = .ok (.getfield 22, 3) := by decide +kernel
theorem dX5_changed_87 : decode cX5_changed 87 = .ok (.iconst 1, 1) := by decide +kernel
theorem dX5_changed_88 : decode cX5_changed 88 = .ok (.iadd, 1) := by decide +kernel
theorem dX5_changed_89 : decode cX5_changed 89 = .ok (.putfield 22, 3) := by decide +kernel
theorem dX5_changed_92 : decode cX5_changed 92 = .ok (.iload_n 1, 1) := by decide +kernel
theorem dX5_changed_93 : decode cX5_changed 93 = .ok (.ireturn, 1) := by decide +kernel
set_option maxRecDepth 20000 in
theorem ggX5_isBody_X5_in : GoodIn wsX5_isBody wsX5_in := goodIn_r _ [5] (by decide +kernel) (by decide +kernel)
set_option maxRecDepth 20000 in
theorem gX5_isBody_X5_in : GoodIn wsX5_isBody (va_wsS RX5 26 yX5_in wsX5_in) := goodIn_app (goodIn_of _ (by decide +kernel)) ggX5_isBody_X5_in
theorem dX5_isBody_0 : decode cX5_isBody 0 = .ok (.iload_n 1, 1) := by decide +kernel
theorem dX5_isBody_1 : decode cX5_isBody 1 = .ok (.i2l, 1) := by decide +kernel
theorem dX5_isBody_2 : decode cX5_isBody 2 = .ok (.lconst 0, 1) := by decide +kernel
theorem dX5_isBody_3 : decode cX5_isBody 3 = .ok (.aload_n 0, 1) := by decide +kernel
theorem dX5_isBody_4 : decode cX5_isBody 4 = .ok (.getfield 7, 3) := by decide +kernel
theorem dX5_isBody_7 : decode cX5_isBody 7 = .ok (.iconst 2, 1) := by decide +kernel
theorem dX5_isBody_8 : decode cX5_isBody 8 = .ok (.iaload, 1) := by decide +kernel
theorem dX5_isBody_9 : decode cX5_isBody 9 = .ok (.i2l, 1) := by decide +kernel
theorem dX5_isBody_10 : decode cX5_isBody 10 = .ok (.lconst 1, 1) := by decide +kernel
theorem dX5_isBody_11 : decode cX5_isBody 11 = .ok (.lsub, 1) := by decide +kernel
theorem dX5_isBody_12 : decode cX5_isBody 12 = .ok (.invokestatic 26, 3) := by decide +kernel
theorem dX5_isBody_15 : decode cX5_isBody 15 = .ok (.ireturn, 1) := by decide +kernel
theorem dX5_corners_0 : decode cX5_corners 0 = .ok (.aload_n 0, 1) := by decide +kernel
theorem dX5_corners_1 : decode cX5_corners 1 = .ok (.getfield 7, 3) := by decide +kernel
theorem dX5_corners_4 : decode cX5_corners 4 = .ok (.iconst 3, 1) := by decide +kernel
theorem dX5_corners_5 : decode cX5_corners 5 = .ok (.iload_n 1, 1) := by decide +kernel
theorem dX5_corners_6 : decode cX5_corners 6 = .ok (.iadd, 1) := by decide +kernel
theorem dX5_corners_7 : decode cX5_corners 7 = .ok (.iaload, 1) := by decide +kernel
theorem dX5_corners_8 : decode cX5_corners 8 = .ok (.ireturn, 1) := by decide +kernel
set_option maxRecDepth 20000 in
theorem ggX5_x_X5_corners : GoodIn wsX5_x wsX5_corners := goodIn_r _ [6, 1, 7, 8, 9, 10, 11, 12, 13, 14, 15, 16] (by decide +kernel) (by decide +kernel)
set_option maxRecDepth 20000 in
theorem gX5_x_X5_corners : GoodIn wsX5_x (wsV RX5 30 RX5 yX5_corners wsX5_corners) := goodIn_app (goodIn_of _ (by decide +kernel)) ggX5_x_X5_corners
theorem dX5_x_0 : decode cX5_x 0 = .ok (.aload_n 0, 1) := by decide +kernel
theorem dX5_x_1 : decode cX5_x 1 = .ok (.getfield 7, 3) := by decide +kernel
theorem dX5_x_4 : decode cX5_x 4 = .ok (.bipush 12, 2) := by decide +kernel
theorem dX5_x_6 : decode cX5_x 6 = .ok (.bipush 6, 2) := by decide +kernel
theorem dX5_x_8 : decode cX5_x 8 = .ok (.iload_n 1, 1) := by decide +kernel
theorem dX5_x_9 : decode cX5_x 9 = .ok (.imul, 1) := by decide +kernel
theorem dX5_x_10 : decode cX5_x 10 = .ok (.iadd, 1) := by decide +kernel
theorem dX5_x_11 : decode cX5_x 11 = .ok (.iload_n 2, 1) := by decide +kernel
theorem dX5_x_12 : decode cX5_x 12 = .ok (.aload_n 0, 1) := by decide +kernel
theorem dX5_x_13 : decode cX5_x 13 = .ok (.iload_n 1, 1) := by decide +kernel
theorem dX5_x_14 : decode cX5_x 14 = .ok (.invokevirtual 30, 3) := by decide +kernel
theorem dX5_x_17 : decode cX5_x 17 = .ok (.irem, 1) := by decide +kernel
theorem dX5_x_18 : decode cX5_x 18 = .ok (.iadd, 1) := by decide +kernel
theorem dX5_x_19 : decode cX5_x 19 = .ok (.iaload, 1) := by decide +kernel
theorem dX5_x_20 : decode cX5_x 20 = .ok (.ireturn, 1) := by decide +kernel
set_option maxRecDepth 20000 in
theorem ggX5_y_X5_corners : GoodIn wsX5_y wsX5_corners := goodIn_r _ [6, 1, 7, 8, 9, 10, 11, 12, 13, 14, 15, 16] (by decide +kernel) (by decide +kernel)
set_option maxRecDepth 20000 in
theorem gX5_y_X5_corners : GoodIn wsX5_y (wsV RX5 30 RX5 yX5_corners wsX5_corners) := goodIn_app (goodIn_of _ (by decide +kernel)) ggX5_y_X5_corners
theorem dX5_y_0 : decode cX5_y 0 = .ok (.aload_n 0, 1) := by decide +kernel
theorem dX5_y_1 : decode cX5_y 1 = .ok (.getfield 7, 3) := by decide +kernel
theorem dX5_y_4 : decode cX5_y 4 = .ok (.bipush 66, 2) := by decide +kernel
theorem dX5_y_6 : decode cX5_y 6 = .ok (.bipush 6, 2) := by decide +kernel
theorem dX5_y_8 : decode cX5_y 8 = .ok (.iload_n 1, 1) := by decide +kernel
theorem dX5_y_9 : decode cX5_y 9 = .ok (.imul, 1) := by decide +kernel
theorem dX5_y_10 : decode cX5_y 10 = .ok (.iadd, 1) := by decide +kernel
theorem dX5_y_11 : decode cX5_y 11 = .ok (.iload_n 2, 1) := by decide +kernel
theorem dX5_y_12 : decode cX5_y 12 = .ok (.aload_n 0, 1) := by decide +kernel
theorem dX5_y_13 : decode cX5_y 13 = .ok (.iload_n 1, 1) := by decide +kernel
theorem dX5_y_14 : decode cX5_y 14 = .ok (.invokevirtual 30, 3) := by decide +kernel
theorem dX5_y_17 : decode cX5_y 17 = .ok (.irem, 1) := by decide +kernel
theorem dX5_y_18 : decode cX5_y 18 = .ok (.iadd, 1) := by decide +kernel
theorem dX5_y_19 : decode cX5_y 19 = .ok (.iaload, 1) := by decide +kernel
theorem dX5_y_20 : decode cX5_y 20 = .ok (.ireturn, 1) := by decide +kernel
set_option maxRecDepth 20000 in
theorem ggX5_moves_X5_corners : GoodIn wsX5_moves wsX5_corners := goodIn_r _ [6, 1, 7, 8, 9, 10, 11, 12, 13, 14, 15, 16] (by decide +kernel) (by decide +kernel)
set_option maxRecDepth 20000 in
theorem gX5_moves_X5_corners : GoodIn wsX5_moves (wsV RX5 30 RX5 yX5_corners wsX5_corners) := goodIn_app (goodIn_of _ (by decide +kernel)) ggX5_moves_X5_corners
theorem dX5_moves_0 : decode cX5_moves 0 = .ok (.iconst 0, 1) := by decide +kernel
theorem dX5_moves_1 : decode cX5_moves 1 = .ok (.istore 4, 2) := by decide +kernel
theorem dX5_moves_3 : decode cX5_moves 3 = .ok (.iload 4, 2) := by decide +kernel
theorem dX5_moves_5 : decode cX5_moves 5 = .ok (.aload_n 0, 1) := by decide +kernel
theorem dX5_moves_6 : decode cX5_moves 6 = .ok (.iload_n 1, 1) := by decide +kernel
theorem dX5_moves_7 : decode cX5_moves 7 = .ok (.invokevirtual 30, 3) := by decide +kernel
theorem dX5_moves_10 : decode cX5_moves 10 = .ok (.if_icmp .ge 47, 3) := by decide +kernel
theorem dX5_moves_13 : decode cX5_moves 13 = .ok (.aload_n 0, 1) := by decide +kernel
theorem dX5_moves_14 : decode cX5_moves 14 = .ok (.getfield 7, 3) := by decide +kernel
theorem dX5_moves_17 : decode cX5_moves 17 = .ok (.bipush 12, 2) := by decide +kernel
theorem dX5_moves_19 : decode cX5_moves 19 = .ok (.bipush 6, 2) := by decide +kernel
theorem dX5_moves_21 : decode cX5_moves 21 = .ok (.iload_n 1, 1) := by decide +kernel
theorem dX5_moves_22 : decode cX5_moves 22 = .ok (.imul, 1) := by decide +kernel
theorem dX5_moves_23 : decode cX5_moves 23 = .ok (.iadd, 1) := by decide +kernel
theorem dX5_moves_24 : decode cX5_moves 24 = .ok (.iload 4, 2) := by decide +kernel
theorem dX5_moves_26 : decode cX5_moves 26 = .ok (.iadd, 1) := by decide +kernel
theorem dX5_moves_27 : decode cX5_moves 27 = .ok (.dup2, 1) := by decide +kernel
theorem dX5_moves_28 : decode cX5_moves 28 = .ok (.iaload, 1) := by decide +kernel
theorem dX5_moves_29 : decode cX5_moves 29 = .ok (.iload_n 2, 1) := by decide +kernel
theorem dX5_moves_30 : decode cX5_moves 30 = .ok (.iadd, 1) := by decide +kernel
theorem dX5_moves_31 : decode cX5_moves 31 = .ok (.iastore, 1) := by decide +kernel
theorem dX5_moves_32 : decode cX5_moves 32 = .ok (.aload_n 0, 1) := by decide +kernel
theorem dX5_moves_33 : decode cX5_moves 33 = .ok (.getfield 7, 3) := by decide +kernel
theorem dX5_moves_36 : decode cX5_moves 36 = .ok (.bipush 66, 2) := by decide +kernel
theorem dX5_moves_38 : decode cX5_moves 38 = .ok (.bipush 6, 2) := by decide +kernel
theorem dX5_moves_40 : decode cX5_moves 40 = .ok (.iload_n 1, 1) := by decide +kernel
theorem dX5_moves_41 : decode cX5_moves 41 = .ok (.imul, 1) := by decide +kernel
theorem dX5_moves_42 : decode cX5_moves 42 = .ok (.iadd, 1) := by decide +kernel
theorem dX5_moves_43 : decode cX5_moves 43 = .ok (.iload 4, 2) := by decide +kernel
theorem dX5_moves_45 : decode cX5_moves 45 = .ok (.iadd, 1) := by decide +kernel
theorem dX5_moves_46 : decode cX5_moves 46 = .ok (.dup2, 1) := by decide +kernel
theorem dX5_moves_47 : decode cX5_moves 47 = .ok (.iaload, 1) := by decide +kernel
theorem dX5_moves_48 : decode cX5_moves 48 = .ok (.iload_n 3, 1) := by decide +kernel
theorem dX5_moves_49 : decode cX5_moves 49 = .ok (.iadd, 1) := by decide +kernel
theorem dX5_moves_50 : decode cX5_moves 50 = .ok (.iastore, 1) := by decide +kernel
theorem dX5_moves_51 : decode cX5_moves 51 = .ok (.iinc 4 1, 3) := by decide +kernel
theorem dX5_moves_54 : decode cX5_moves 54 = .ok (.goto (-51), 3) := by decide +kernel
theorem dX5_moves_57 : decode cX5_moves 57 = .ok (.return_, 1) := by decide +kernel
set_option maxRecDepth 20000 in
theorem ggX5_side_X5_x : GoodIn wsX5_side wsX5_x := goodIn_r _ [5, 6, 7, 8, 9, 4, 10, 15, 16, 17, 18, 19, 20, 21, 22, 23, 24] (by decide +kernel) (by decide +kernel)
set_option maxRecDepth 20000 in
theorem gX5_side_X5_x : GoodIn wsX5_side (wsV RX5 34 RX5 yX5_x wsX5_x) := goodIn_app (goodIn_of _ (by decide +kernel)) ggX5_side_X5_x
set_option maxRecDepth 20000 in
theorem ggX5_side_X5_y : GoodIn wsX5_side wsX5_y := goodIn_r _ [14, 6, 7, 8, 9, 4, 10, 15, 16, 17, 18, 19, 20, 21, 22, 23, 24] (by decide +kernel) (by decide +kernel)
set_option maxRecDepth 20000 in
theorem gX5_side_X5_y : GoodIn wsX5_side (wsV RX5 38 RX5 yX5_y wsX5_y) := goodIn_app (goodIn_of _ (by decide +kernel)) ggX5_side_X5_y
theorem dX5_side_0 : decode cX5_side 0 = .ok (.aload_n 0, 1) := by decide +kernel
theorem dX5_side_1 : decode cX5_side 1 = .ok (.iload_n 1, 1) := by decide +kernel
theorem dX5_side_2 : decode cX5_side 2 = .ok (.iload_n 2, 1) := by decide +kernel
theorem dX5_side_3 : decode cX5_side 3 = .ok (.iconst 1, 1) := by decide +kernel
theorem dX5_side_4 : decode cX5_side 4 = .ok (.iadd, 1) := by decide +kernel
theorem dX5_side_5 : decode cX5_side 5 = .ok (.invokevirtual 34, 3) := by decide +kernel
theorem dX5_side_8 : decode cX5_side 8 = .ok (.aload_n 0, 1) := by decide +kernel
theorem dX5_side_9 : decode cX5_side 9 = .ok (.iload_n 1, 1) := by decide +kernel
theorem dX5_side_10 : decode cX5_side 10 = .ok (.iload_n 2, 1) := by decide +kernel
theorem dX5_side_11 : decode cX5_side 11 = .ok (.invokevirtual 34, 3) := by decide +kernel
theorem dX5_side_14 : decode cX5_side 14 = .ok (.isub, 1) := by decide +kernel
theorem dX5_side_15 : decode cX5_side 15 = .ok (.istore 5, 2) := by decide +kernel
theorem dX5_side_17 : decode cX5_side 17 = .ok (.aload_n 0, 1) := by decide +kernel
theorem dX5_side_18 : decode cX5_side 18 = .ok (.iload_n 1, 1) := by decide +kernel
theorem dX5_side_19 : decode cX5_side 19 = .ok (.iload_n 2, 1) := by decide +kernel
theorem dX5_side_20 : decode cX5_side 20 = .ok (.iconst 1, 1) := by decide +kernel
theorem dX5_side_21 : decode cX5_side 21 = .ok (.iadd, 1) := by decide +kernel
theorem dX5_side_22 : decode cX5_side 22 = .ok (.invokevirtual 38, 3) := by decide +kernel
theorem dX5_side_25 : decode cX5_side 25 = .ok (.aload_n 0, 1) := by decide +kernel
theorem dX5_side_26 : decode cX5_side 26 = .ok (.iload_n 1, 1) := by decide +kernel
theorem dX5_side_27 : decode cX5_side 27 = .ok (.iload_n 2, 1) := by decide +kernel
theorem dX5_side_28 : decode cX5_side 28 = .ok (.invokevirtual 38, 3) := by decide +kernel
theorem dX5_side_31 : decode cX5_side 31 = .ok (.isub, 1) := by decide +kernel
theorem dX5_side_32 : decode cX5_side 32 = .ok (.istore 6, 2) := by decide +kernel
theorem dX5_side_34 : decode cX5_side 34 = .ok (.iload 5, 2) := by decide +kernel
theorem dX5_side_36 : decode cX5_side 36 = .ok (.aload_n 0, 1) := by decide +kernel
theorem dX5_side_37 : decode cX5_side 37 = .ok (.iload_n 3, 1) := by decide +kernel
theorem dX5_side_38 : decode cX5_side 38 = .ok (.iload 4, 2) := by decide +kernel
theorem dX5_side_40 : decode cX5_side 40 = .ok (.invokevirtual 38, 3) := by decide +kernel
theorem dX5_side_43 : decode cX5_side 43 = .ok (.aload_n 0, 1) := by decide +kernel
theorem dX5_side_44 : decode cX5_side 44 = .ok (.iload_n 1, 1) := by decide +kernel
theorem dX5_side_45 : decode cX5_side 45 = .ok (.iload_n 2, 1) := by decide +kernel
theorem dX5_side_46 : decode cX5_side 46 = .ok (.invokevirtual 38, 3) := by decide +kernel
theorem dX5_side_49 : decode cX5_side 49 = .ok (.isub, 1) := by decide +kernel
theorem dX5_side_50 : decode cX5_side 50 = .ok (.imul, 1) := by decide +kernel
theorem dX5_side_51 : decode cX5_side 51 = .ok (.iload 6, 2) := by decide +kernel
theorem dX5_side_53 : decode cX5_side 53 = .ok (.aload_n 0, 1) := by decide +kernel
theorem dX5_side_54 : decode cX5_side 54 = .ok (.iload_n 3, 1) := by decide +kernel
theorem dX5_side_55 : decode cX5_side 55 = .ok (.iload 4, 2) := by decide +kernel
theorem dX5_side_57 : decode cX5_side 57 = .ok (.invokevirtual 34, 3) := by decide +kernel
theorem dX5_side_60 : decode cX5_side 60 = .ok (.aload_n 0, 1) := by decide +kernel
theorem dX5_side_61 : decode cX5_side 61 = .ok (.iload_n 1, 1) := by decide +kernel
theorem dX5_side_62 : decode cX5_side 62 = .ok (.iload_n 2, 1) := by decide +kernel
theorem dX5_side_63 : decode cX5_side 63 = .ok (.invokevirtual 34, 3) := by decide +kernel
theorem dX5_side_66 : decode cX5_side 66 = .ok (.isub, 1) := by decide +kernel
theorem dX5_side_67 : decode cX5_side 67 = .ok (.imul, 1) := by decide +kernel
theorem dX5_side_68 : decode cX5_side 68 = .ok (.isub, 1) := by decide +kernel
theorem dX5_side_69 : decode cX5_side 69 = .ok (.ireturn, 1) := by decide +kernel
set_option maxRecDepth 20000 in
theorem ggX5_nearest_X5_corners : GoodIn wsX5_nearest wsX5_corners := goodIn_r _ [5, 6, 19, 20, 21, 22, 23, 24, 25, 26, 27, 28] (by decide +kernel) (by decide +kernel)
set_option maxRecDepth 20000 in
theorem gX5_nearest_X5_corners : GoodIn wsX5_nearest (wsV RX5 30 RX5 yX5_corners wsX5_corners) := goodIn_app (goodIn_of _ (by decide +kernel)) ggX5_nearest_X5_corners
set_option maxRecDepth 20000 in
theorem ggX5_nearest_X5_side : GoodIn wsX5_nearest wsX5_side := goodIn_r _ [10, 11, 12, 13, 4, 14, 6, 1, 2, 3, 5, 15, 16, 17, 18, 19, 20, 21, 22, 23, 24, 25, 26, 27, 28] (by decide +kernel) (by decide +kernel)
set_option maxRecDepth 20000 in
theorem gX5_nearest_X5_side : GoodIn wsX5_nearest (wsV RX5 41 RX5 yX5_side wsX5_side) := goodIn_app (goodIn_of _ (by decide +kernel)) ggX5_nearest_X5_side
theorem dX5_nearest_0 : decode cX5_nearest 0 = .ok (.iconst 0, 1) := by decide +kernel
theorem dX5_nearest_1 : decode cX5_nearest 1 = .ok (.istore 4, 2) := by decide +kernel
theorem dX5_nearest_3 : decode cX5_nearest 3 = .ok (.iconst 1, 1) := by decide +kernel
theorem dX5_nearest_4 : decode cX5_nearest 4 = .ok (.istore 5, 2) := by decide +kernel
theorem dX5_nearest_6 : decode cX5_nearest 6 = .ok (.iload 5, 2) := by decide +kernel
theorem dX5_nearest_8 : decode cX5_nearest 8 = .ok (.aload_n 0, 1) := by decide +kernel
theorem dX5_nearest_9 : decode cX5_nearest 9 = .ok (.iload_n 3, 1) := by decide +kernel
theorem dX5_nearest_10 : decode cX5_nearest 10 = .ok (.invokevirtual 30, 3) := by decide +kernel
theorem dX5_nearest_13 : decode cX5_nearest 13 = .ok (.if_icmp .ge 39, 3) := by decide +kernel
theorem dX5_nearest_16 : decode cX5_nearest 16 = .ok (.aload_n 0, 1) := by decide +kernel
theorem dX5_nearest_17 : decode cX5_nearest 17 = .ok (.iload_n 1, 1) := by decide +kernel
theorem dX5_nearest_18 : decode cX5_nearest 18 = .ok (.iload_n 2, 1) := by decide +kernel
theorem dX5_nearest_19 : decode cX5_nearest 19 = .ok (.iload_n 3, 1) := by decide +kernel
theorem dX5_nearest_20 : decode cX5_nearest 20 = .ok (.iload 5, 2) := by decide +kernel
theorem dX5_nearest_22 : decode cX5_nearest 22 = .ok (.invokevirtual 41, 3) := by decide +kernel
theorem dX5_nearest_25 : decode cX5_nearest 25 = .ok (.aload_n 0, 1) := by decide +kernel
theorem dX5_nearest_26 : decode cX5_nearest 26 = .ok (.iload_n 1, 1) := by decide +kernel
theorem dX5_nearest_27 : decode cX5_nearest 27 = .ok (.iload_n 2, 1) := by decide +kernel
theorem dX5_nearest_28 : decode cX5_nearest 28 = .ok (.iload_n 3, 1) := by decide +kernel
theorem dX5_nearest_29 : decode cX5_nearest 29 = .ok (.iload 4, 2) := by decide +kernel
theorem dX5_nearest_31 : decode cX5_nearest 31 = .ok (.invokevirtual 41, 3) := by decide +kernel
theorem dX5_nearest_34 : decode cX5_nearest 34 = .ok (.if_icmp .le 8, 3) := by decide +kernel
theorem dX5_nearest_37 : decode cX5_nearest 37 = .ok (.iload 5, 2) := by decide +kernel
theorem dX5_nearest_39 : decode cX5_nearest 39 = .ok (.goto 5, 3) := by decide +kernel
theorem dX5_nearest_42 : decode cX5_nearest 42 = .ok (.iload 4, 2) := by decide +kernel
theorem dX5_nearest_44 : decode cX5_nearest 44 = .ok (.istore 4, 2) := by decide +kernel
theorem dX5_nearest_46 : decode cX5_nearest 46 = .ok (.iinc 5 1, 3) := by decide +kernel
theorem dX5_nearest_49 : decode cX5_nearest 49 = .ok (.goto (-43), 3) := by decide +kernel
theorem dX5_nearest_52 : decode cX5_nearest 52 = .ok (.iload 4, 2) := by decide +kernel
theorem dX5_nearest_54 : decode cX5_nearest 54 = .ok (.ireturn, 1) := by decide +kernel
set_option maxRecDepth 20000 in
theorem ggX5_parting_X5_corners : GoodIn wsX5_parting wsX5_corners := goodIn_r _ [5, 6, 23, 24, 25, 26, 27, 28, 29, 30, 31, 32] (by decide +kernel) (by decide +kernel)
set_option maxRecDepth 20000 in
theorem gX5_parting_X5_corners : GoodIn wsX5_parting (wsV RX5 30 RX5 yX5_corners wsX5_corners) := goodIn_app (goodIn_of _ (by decide +kernel)) ggX5_parting_X5_corners
set_option maxRecDepth 20000 in
theorem ggX5_parting_X5_nearest : GoodIn wsX5_parting wsX5_nearest := goodIn_r _ [10, 1, 2, 3, 4, 5, 6, 11, 12, 13, 14, 15, 16, 17, 18, 19, 20, 21, 22, 23, 24, 25, 26, 27, 28, 29, 30, 31, 32] (by decide +kernel) (by decide +kernel)
set_option maxRecDepth 20000 in
theorem gX5_parting_X5_nearest : GoodIn wsX5_parting (wsV RX5 45 RX5 yX5_nearest wsX5_nearest) := goodIn_app (goodIn_of _ (by decide +kernel)) ggX5_parting_X5_nearest
set_option maxRecDepth 20000 in
theorem ggX5_parting_X5_side : GoodIn wsX5_parting wsX5_side := goodIn_r _ [14, 15, 16, 17, 4, 18, 6, 1, 2, 3, 5, 19, 20, 21, 22, 23, 24, 25, 26, 27, 28, 29, 30, 31, 32] (by decide +kernel) (by decide +kernel)
set_option maxRecDepth 20000 in
theorem gX5_parting_X5_side : GoodIn wsX5_parting (wsV RX5 41 RX5 yX5_side wsX5_side) := goodIn_app (goodIn_of _ (by decide +kernel)) ggX5_parting_X5_side
theorem dX5_parting_0 : decode cX5_parting 0 = .ok (.iconst 0, 1) := by decide +kernel
theorem dX5_parting_1 : decode cX5_parting 1 = .ok (.istore 4, 2) := by decide +kernel
theorem dX5_parting_3 : decode cX5_parting 3 = .ok (.iload 4, 2) := by decide +kernel
theorem dX5_parting_5 : decode cX5_parting 5 = .ok (.aload_n 0, 1) := by decide +kernel
theorem dX5_parting_6 : decode cX5_parting 6 = .ok (.iload_n 1, 1) := by decide +kernel
theorem dX5_parting_7 : decode cX5_parting 7 = .ok (.invokevirtual 30, 3) := by decide +kernel
theorem dX5_parting_10 : decode cX5_parting 10 = .ok (.if_icmp .ge 32, 3) := by decide +kernel
theorem dX5_parting_13 : decode cX5_parting 13 = .ok (.aload_n 0, 1) := by decide +kernel
theorem dX5_parting_14 : decode cX5_parting 14 = .ok (.iload_n 1, 1) := by decide +kernel
theorem dX5_parting_15 : decode cX5_parting 15 = .ok (.iload 4, 2) := by decide +kernel
theorem dX5_parting_17 : decode cX5_parting 17 = .ok (.iload_n 2, 1) := by decide +kernel
theorem dX5_parting_18 : decode cX5_parting 18 = .ok (.aload_n 0, 1) := by decide +kernel
theorem dX5_parting_19 : decode cX5_parting 19 = .ok (.iload_n 1, 1) := by decide +kernel
theorem dX5_parting_20 : decode cX5_parting 20 = .ok (.iload 4, 2) := by decide +kernel
theorem dX5_parting_22 : decode cX5_parting 22 = .ok (.iload_n 2, 1) := by decide +kernel
theorem dX5_parting_23 : decode cX5_parting 23 = .ok (.invokevirtual 45, 3) := by decide +kernel
theorem dX5_parting_26 : decode cX5_parting 26 = .ok (.invokevirtual 41, 3) := by decide +kernel
theorem dX5_parting_29 : decode cX5_parting 29 = .ok (.iload_n 3, 1) := by decide +kernel
theorem dX5_parting_30 : decode cX5_parting 30 = .ok (.if_icmp .gt 6, 3) := by decide +kernel
theorem dX5_parting_33 : decode cX5_parting 33 = .ok (.iload 4, 2) := by decide +kernel
theorem dX5_parting_35 : decode cX5_parting 35 = .ok (.ireturn, 1) := by decide +kernel
theorem dX5_parting_36 : decode cX5_parting 36 = .ok (.iinc 4 1, 3) := by decide +kernel
theorem dX5_parting_39 : decode cX5_parting 39 = .ok (.goto (-36), 3) := by decide +kernel
theorem dX5_parting_42 : decode cX5_parting 42 = .ok (.iconst (-1), 1) := by decide +kernel
theorem dX5_parting_43 : decode cX5_parting 43 = .ok (.ireturn, 1) := by decide +kernel
set_option maxRecDepth 20000 in
theorem ggX5_isParted_X5_parting : GoodIn wsX5_isParted wsX5_parting := goodIn_r _ [5, 6, 7, 8, 4, 9, 10, 11, 12, 13, 14, 15, 16, 17, 18, 19, 20, 21, 22, 23, 24, 25, 26, 27, 28, 29, 30, 31, 32, 33, 34, 35, 36] (by decide +kernel) (by decide +kernel)
end
section
set_option maxRecDepth 20000 in
theorem gX5_isParted_X5_parting : GoodIn wsX5_isParted (wsV RX5 49 RX5 yX5_parting wsX5_parting) := goodIn_app (goodIn_of _ (by decide +kernel)) ggX5_isParted_X5_parting
theorem dX5_isParted_0 : decode cX5_isParted 0 = .ok (.aload_n 0, 1) := by decide +kernel
theorem dX5_isParted_1 : decode cX5_isParted 1 = .ok (.iload_n 1, 1) := by decide +kernel
theorem dX5_isParted_2 : decode cX5_isParted 2 = .ok (.iload_n 2, 1) := by decide +kernel
theorem dX5_isParted_3 : decode cX5_isParted 3 = .ok (.iload_n 3, 1) := by decide +kernel
theorem dX5_isParted_4 : decode cX5_isParted 4 = .ok (.invokevirtual 49, 3) := by decide +kernel
theorem dX5_isParted_7 : decode cX5_isParted 7 = .ok (.iconst (-1), 1) := by decide +kernel
theorem dX5_isParted_8 : decode cX5_isParted 8 = .ok (.if_icmp .ne 14, 3) := by decide +kernel
theorem dX5_isParted_11 : decode cX5_isParted 11 = .ok (.aload_n 0, 1) := by decide +kernel
theorem dX5_isParted_12 : decode cX5_isParted 12 = .ok (.iload_n 2, 1) := by decide +kernel
theorem dX5_isParted_13 : decode cX5_isParted 13 = .ok (.iload_n 1, 1) := by decide +kernel
theorem dX5_isParted_14 : decode cX5_isParted 14 = .ok (.iload_n 3, 1) := by decide +kernel
theorem dX5_isParted_15 : decode cX5_isParted 15 = .ok (.invokevirtual 49, 3) := by decide +kernel
theorem dX5_isParted_18 : decode cX5_isParted 18 = .ok (.iconst (-1), 1) := by decide +kernel
theorem dX5_isParted_19 : decode cX5_isParted 19 = .ok (.if_icmp .eq 7, 3) := by decide +kernel
theorem dX5_isParted_22 : decode cX5_isParted 22 = .ok (.iconst 1, 1) := by decide +kernel
theorem dX5_isParted_23 : decode cX5_isParted 23 = .ok (.goto 4, 3) := by decide +kernel
theorem dX5_isParted_26 : decode cX5_isParted 26 = .ok (.iconst 0, 1) := by decide +kernel
theorem dX5_isParted_27 : decode cX5_isParted 27 = .ok (.ireturn, 1) := by decide +kernel
set_option maxRecDepth 20000 in
theorem ggX5_touch_X5_isParted : GoodIn wsX5_touch wsX5_isParted := goodIn_r _ [5, 6, 7, 8, 4, 9, 10, 11, 12, 13, 14, 15, 16, 17, 18, 19, 20, 21, 22, 23, 24, 25, 26, 27, 28, 29, 30, 31, 32, 33, 34, 35, 36, 37, 38, 39, 40] (by decide +kernel) (by decide +kernel)
set_option maxRecDepth 20000 in
theorem gX5_touch_X5_isParted : GoodIn wsX5_touch (wsV RX5 52 RX5 yX5_isParted wsX5_isParted) := goodIn_app (goodIn_of _ (by decide +kernel)) ggX5_touch_X5_isParted
theorem dX5_touch_0 : decode cX5_touch 0 = .ok (.aload_n 0, 1) := by decide +kernel
theorem dX5_touch_1 : decode cX5_touch 1 = .ok (.iload_n 1, 1) := by decide +kernel
theorem dX5_touch_2 : decode cX5_touch 2 = .ok (.iload_n 2, 1) := by decide +kernel
theorem dX5_touch_3 : decode cX5_touch 3 = .ok (.iconst 0, 1) := by decide +kernel
theorem dX5_touch_4 : decode cX5_touch 4 = .ok (.invokevirtual 52, 3) := by decide +kernel
theorem dX5_touch_7 : decode cX5_touch 7 = .ok (.ifCond .eq 17, 3) := by decide +kernel
theorem dX5_touch_10 : decode cX5_touch 10 = .ok (.aload_n 0, 1) := by decide +kernel
theorem dX5_touch_11 : decode cX5_touch 11 = .ok (.iload_n 1, 1) := by decide +kernel
theorem dX5_touch_12 : decode cX5_touch 12 = .ok (.iload_n 2, 1) := by decide +kernel
theorem dX5_touch_13 : decode cX5_touch 13 = .ok (.iconst (-1), 1) := by decide +kernel
theorem dX5_touch_14 : decode cX5_touch 14 = .ok (.invokevirtual 52, 3) := by decide +kernel
theorem dX5_touch_17 : decode cX5_touch 17 = .ok (.ifCond .ne 7, 3) := by decide +kernel
theorem dX5_touch_20 : decode cX5_touch 20 = .ok (.iconst 1, 1) := by decide +kernel
theorem dX5_touch_21 : decode cX5_touch 21 = .ok (.goto 4, 3) := by decide +kernel
theorem dX5_touch_24 : decode cX5_touch 24 = .ok (.iconst 0, 1) := by decide +kernel
theorem dX5_touch_25 : decode cX5_touch 25 = .ok (.ireturn, 1) := by decide +kernel
set_option maxRecDepth 20000 in
theorem ggX5_overlapped_X5_isParted : GoodIn wsX5_overlapped wsX5_isParted := goodIn_r _ [6, 7, 8, 9, 5, 10, 11, 12, 13, 14, 1, 15, 16, 17, 18, 19, 20, 21, 22, 23, 24, 25, 26, 27, 28, 29, 30, 31, 32, 33, 34, 35, 36, 37, 38, 39, 40] (by decide +kernel) (by decide +kernel)
set_option maxRecDepth 20000 in
theorem gX5_overlapped_X5_isParted : GoodIn wsX5_overlapped (wsV RX5 52 RX5 yX5_isParted wsX5_isParted) := goodIn_app (goodIn_of _ (by decide +kernel)) ggX5_overlapped_X5_isParted
theorem dX5_overlapped_0 : decode cX5_overlapped 0 = .ok (.iconst 0, 1) := by decide +kernel
theorem dX5_overlapped_1 : decode cX5_overlapped 1 = .ok (.istore_n 2, 1) := by decide +kernel
theorem dX5_overlapped_2 : decode cX5_overlapped 2 = .ok (.iconst 0, 1) := by decide +kernel
theorem dX5_overlapped_3 : decode cX5_overlapped 3 = .ok (.istore_n 3, 1) := by decide +kernel
theorem dX5_overlapped_4 : decode cX5_overlapped 4 = .ok (.iload_n 3, 1) := by decide +kernel
theorem dX5_overlapped_5 : decode cX5_overlapped 5 = .ok (.aload_n 0, 1) := by decide +kernel
theorem dX5_overlapped_6 : decode cX5_overlapped 6 = .ok (.getfield 7, 3) := by decide +kernel
theorem dX5_overlapped_9 : decode cX5_overlapped 9 = .ok (.iconst 2, 1) := by decide +kernel
theorem dX5_overlapped_10 : decode cX5_overlapped 10 = .ok (.iaload, 1) := by decide +kernel
theorem dX5_overlapped_11 : decode cX5_overlapped 11 = .ok (.if_icmp .ge 34, 3) := by decide +kernel
theorem dX5_overlapped_14 : decode cX5_overlapped 14 = .ok (.iload_n 2, 1) := by decide +kernel
theorem dX5_overlapped_15 : decode cX5_overlapped 15 = .ok (.iload_n 3, 1) := by decide +kernel
theorem dX5_overlapped_16 : decode cX5_overlapped 16 = .ok (.iload_n 1, 1) := by decide +kernel
theorem dX5_overlapped_17 : decode cX5_overlapped 17 = .ok (.if_icmp .eq 19, 3) := by decide +kernel
theorem dX5_overlapped_20 : decode cX5_overlapped 20 = .ok (.aload_n 0, 1) := by decide +kernel
theorem dX5_overlapped_21 : decode cX5_overlapped 21 = .ok (.iload_n 1, 1) := by decide +kernel
theorem dX5_overlapped_22 : decode cX5_overlapped 22 = .ok (.iload_n 3, 1) := by decide +kernel
theorem dX5_overlapped_23 : decode cX5_overlapped 23 = .ok (.iconst 0, 1) := by decide +kernel
theorem dX5_overlapped_24 : decode cX5_overlapped 24 = .ok (.invokevirtual 52, 3) := by decide +kernel
theorem dX5_overlapped_27 : decode cX5_overlapped 27 = .ok (.ifCond .ne 9, 3) := by decide +kernel
theorem dX5_overlapped_30 : decode cX5_overlapped 30 = .ok (.iconst 1, 1) := by decide +kernel
theorem dX5_overlapped_31 : decode cX5_overlapped 31 = .ok (.iload_n 3, 1) := by decide +kernel
theorem dX5_overlapped_32 : decode cX5_overlapped 32 = .ok (.ishl, 1) := by decide +kernel
theorem dX5_overlapped_33 : decode cX5_overlapped 33 = .ok (.goto 4, 3) := by decide +kernel
theorem dX5_overlapped_36 : decode cX5_overlapped 36 = .ok (.iconst 0, 1) := by decide +kernel
theorem dX5_overlapped_37 : decode cX5_overlapped 37 = .ok (.ior, 1) := by decide +kernel
theorem dX5_overlapped_38 : decode cX5_overlapped 38 = .ok (.istore_n 2, 1) := by decide +kernel
theorem dX5_overlapped_39 : decode cX5_overlapped 39 = .ok (.iinc 3 1, 3) := by decide +kernel
theorem dX5_overlapped_42 : decode cX5_overlapped 42 = .ok (.goto (-38), 3) := by decide +kernel
theorem dX5_overlapped_45 : decode cX5_overlapped 45 = .ok (.iload_n 2, 1) := by decide +kernel
theorem dX5_overlapped_46 : decode cX5_overlapped 46 = .ok (.ireturn, 1) := by decide +kernel
set_option maxRecDepth 20000 in
theorem ggX5_touched_X5_touch : GoodIn wsX5_touched wsX5_touch := goodIn_r _ [6, 7, 8, 9, 5, 10, 11, 12, 13, 14, 15, 16, 17, 18, 1, 19, 20, 21, 22, 23, 24, 25, 26, 27, 28, 29, 30, 31, 32, 33, 34, 35, 36, 37, 38, 39, 40, 41, 42, 43, 44] (by decide +kernel) (by decide +kernel)
set_option maxRecDepth 20000 in
theorem gX5_touched_X5_touch : GoodIn wsX5_touched (wsV RX5 56 RX5 yX5_touch wsX5_touch) := goodIn_app (goodIn_of _ (by decide +kernel)) ggX5_touched_X5_touch
theorem dX5_touched_0 : decode cX5_touched 0 = .ok (.iconst 0, 1) := by decide +kernel
theorem dX5_touched_1 : decode cX5_touched 1 = .ok (.istore_n 2, 1) := by decide +kernel
theorem dX5_touched_2 : decode cX5_touched 2 = .ok (.iconst 0, 1) := by decide +kernel
theorem dX5_touched_3 : decode cX5_touched 3 = .ok (.istore_n 3, 1) := by decide +kernel
theorem dX5_touched_4 : decode cX5_touched 4 = .ok (.iload_n 3, 1) := by decide +kernel
theorem dX5_touched_5 : decode cX5_touched 5 = .ok (.aload_n 0, 1) := by decide +kernel
theorem dX5_touched_6 : decode cX5_touched 6 = .ok (.getfield 7, 3) := by decide +kernel
theorem dX5_touched_9 : decode cX5_touched 9 = .ok (.iconst 2, 1) := by decide +kernel
theorem dX5_touched_10 : decode cX5_touched 10 = .ok (.iaload, 1) := by decide +kernel
theorem dX5_touched_11 : decode cX5_touched 11 = .ok (.if_icmp .ge 33, 3) := by decide +kernel
theorem dX5_touched_14 : decode cX5_touched 14 = .ok (.iload_n 2, 1) := by decide +kernel
theorem dX5_touched_15 : decode cX5_touched 15 = .ok (.iload_n 3, 1) := by decide +kernel
theorem dX5_touched_16 : decode cX5_touched 16 = .ok (.iload_n 1, 1) := by decide +kernel
theorem dX5_touched_17 : decode cX5_touched 17 = .ok (.if_icmp .eq 18, 3) := by decide +kernel
theorem dX5_touched_20 : decode cX5_touched 20 = .ok (.aload_n 0, 1) := by decide +kernel
theorem dX5_touched_21 : decode cX5_touched 21 = .ok (.iload_n 1, 1) := by decide +kernel
theorem dX5_touched_22 : decode cX5_touched 22 = .ok (.iload_n 3, 1) := by decide +kernel
theorem dX5_touched_23 : decode cX5_touched 23 = .ok (.invokevirtual 56, 3) := by decide +kernel
theorem dX5_touched_26 : decode cX5_touched 26 = .ok (.ifCond .eq 9, 3) := by decide +kernel
theorem dX5_touched_29 : decode cX5_touched 29 = .ok (.iconst 1, 1) := by decide +kernel
theorem dX5_touched_30 : decode cX5_touched 30 = .ok (.iload_n 3, 1) := by decide +kernel
theorem dX5_touched_31 : decode cX5_touched 31 = .ok (.ishl, 1) := by decide +kernel
theorem dX5_touched_32 : decode cX5_touched 32 = .ok (.goto 4, 3) := by decide +kernel
theorem dX5_touched_35 : decode cX5_touched 35 = .ok (.iconst 0, 1) := by decide +kernel
theorem dX5_touched_36 : decode cX5_touched 36 = .ok (.ior, 1) := by decide +kernel
theorem dX5_touched_37 : decode cX5_touched 37 = .ok (.istore_n 2, 1) := by decide +kernel
theorem dX5_touched_38 : decode cX5_touched 38 = .ok (.iinc 3 1, 3) := by decide +kernel
theorem dX5_touched_41 : decode cX5_touched 41 = .ok (.goto (-37), 3) := by decide +kernel
theorem dX5_touched_44 : decode cX5_touched 44 = .ok (.iload_n 2, 1) := by decide +kernel
theorem dX5_touched_45 : decode cX5_touched 45 = .ok (.ireturn, 1) := by decide +kernel
set_option maxRecDepth 20000 in
theorem ggX5_extreme_X5_corners : GoodIn wsX5_extreme wsX5_corners := goodIn_r _ [6, 1, 7, 8, 9, 10, 11, 12, 13, 14, 15, 16] (by decide +kernel) (by decide +kernel)
set_option maxRecDepth 20000 in
theorem gX5_extreme_X5_corners : GoodIn wsX5_extreme (wsV RX5 30 RX5 yX5_corners wsX5_corners) := goodIn_app (goodIn_of _ (by decide +kernel)) ggX5_extreme_X5_corners
theorem dX5_extreme_0 : decode cX5_extreme 0 = .ok (.iload_n 3, 1) := by decide +kernel
theorem dX5_extreme_1 : decode cX5_extreme 1 = .ok (.aload_n 0, 1) := by decide +kernel
theorem dX5_extreme_2 : decode cX5_extreme 2 = .ok (.getfield 7, 3) := by decide +kernel
theorem dX5_extreme_5 : decode cX5_extreme 5 = .ok (.iload_n 2, 1) := by decide +kernel
theorem dX5_extreme_6 : decode cX5_extreme 6 = .ok (.bipush 6, 2) := by decide +kernel
theorem dX5_extreme_8 : decode cX5_extreme 8 = .ok (.iload_n 1, 1) := by decide +kernel
theorem dX5_extreme_9 : decode cX5_extreme 9 = .ok (.imul, 1) := by decide +kernel
theorem dX5_extreme_10 : decode cX5_extreme 10 = .ok (.iadd, 1) := by decide +kernel
theorem dX5_extreme_11 : decode cX5_extreme 11 = .ok (.iaload, 1) := by decide +kernel
theorem dX5_extreme_12 : decode cX5_extreme 12 = .ok (.imul, 1) := by decide +kernel
theorem dX5_extreme_13 : decode cX5_extreme 13 = .ok (.istore 4, 2) := by decide +kernel
theorem dX5_extreme_15 : decode cX5_extreme 15 = .ok (.iconst 1, 1) := by decide +kernel
theorem dX5_extreme_16 : decode cX5_extreme 16 = .ok (.istore 5, 2) := by decide +kernel
theorem dX5_extreme_18 : decode cX5_extreme 18 = .ok (.iload 5, 2) := by decide +kernel
theorem dX5_extreme_20 : decode cX5_extreme 20 = .ok (.aload_n 0, 1) := by decide +kernel
theorem dX5_extreme_21 : decode cX5_extreme 21 = .ok (.iload_n 1, 1) := by decide +kernel
theorem dX5_extreme_22 : decode cX5_extreme 22 = .ok (.invokevirtual 30, 3) := by decide +kernel
theorem dX5_extreme_25 : decode cX5_extreme 25 = .ok (.if_icmp .ge 43, 3) := by decide +kernel
theorem dX5_extreme_28 : decode cX5_extreme 28 = .ok (.iload_n 3, 1) := by decide +kernel
theorem dX5_extreme_29 : decode cX5_extreme 29 = .ok (.aload_n 0, 1) := by decide +kernel
theorem dX5_extreme_30 : decode cX5_extreme 30 = .ok (.getfield 7, 3) := by decide +kernel
theorem dX5_extreme_33 : decode cX5_extreme 33 = .ok (.iload_n 2, 1) := by decide +kernel
theorem dX5_extreme_34 : decode cX5_extreme 34 = .ok (.bipush 6, 2) := by decide +kernel
theorem dX5_extreme_36 : decode cX5_extreme 36 = .ok (.iload_n 1, 1) := by decide +kernel
theorem dX5_extreme_37 : decode cX5_extreme 37 = .ok (.imul, 1) := by decide +kernel
theorem dX5_extreme_38 : decode cX5_extreme 38 = .ok (.iadd, 1) := by decide +kernel
theorem dX5_extreme_39 : decode cX5_extreme 39 = .ok (.iload 5, 2) := by decide +kernel
theorem dX5_extreme_41 : decode cX5_extreme 41 = .ok (.iadd, 1) := by decide +kernel
theorem dX5_extreme_42 : decode cX5_extreme 42 = .ok (.iaload, 1) := by decide +kernel
theorem dX5_extreme_43 : decode cX5_extreme 43 = .ok (.imul, 1) := by decide +kernel
theorem dX5_extreme_44 : decode cX5_extreme 44 = .ok (.istore 6, 2) := by decide +kernel
theorem dX5_extreme_46 : decode cX5_extreme 46 = .ok (.iload 6, 2) := by decide +kernel
theorem dX5_extreme_48 : decode cX5_extreme 48 = .ok (.iload 4, 2) := by decide +kernel
theorem dX5_extreme_50 : decode cX5_extreme 50 = .ok (.if_icmp .le 8, 3) := by decide +kernel
theorem dX5_extreme_53 : decode cX5_extreme 53 = .ok (.iload 6, 2) := by decide +kernel
theorem dX5_extreme_55 : decode cX5_extreme 55 = .ok (.goto 5, 3) := by decide +kernel
theorem dX5_extreme_58 : decode cX5_extreme 58 = .ok (.iload 4, 2) := by decide +kernel
theorem dX5_extreme_60 : decode cX5_extreme 60 = .ok (.istore 4, 2) := by decide +kernel
theorem dX5_extreme_62 : decode cX5_extreme 62 = .ok (.iinc 5 1, 3) := by decide +kernel
theorem dX5_extreme_65 : decode cX5_extreme 65 = .ok (.goto (-47), 3) := by decide +kernel
theorem dX5_extreme_68 : decode cX5_extreme 68 = .ok (.iload_n 3, 1) := by decide +kernel
theorem dX5_extreme_69 : decode cX5_extreme 69 = .ok (.iload 4, 2) := by decide +kernel
theorem dX5_extreme_71 : decode cX5_extreme 71 = .ok (.imul, 1) := by decide +kernel
theorem dX5_extreme_72 : decode cX5_extreme 72 = .ok (.ireturn, 1) := by decide +kernel
set_option maxRecDepth 20000 in
theorem ggX5_leastX_X5_extreme : GoodIn wsX5_leastX wsX5_extreme := goodIn_r _ [5, 6, 7, 8, 9, 4, 10, 11, 12, 13, 14, 15, 16, 17, 18, 19, 20] (by decide +kernel) (by decide +kernel)
set_option maxRecDepth 20000 in
theorem gX5_leastX_X5_extreme : GoodIn wsX5_leastX (wsV RX5 60 RX5 yX5_extreme wsX5_extreme) := goodIn_app (goodIn_of _ (by decide +kernel)) ggX5_leastX_X5_extreme
theorem dX5_leastX_0 : decode cX5_leastX 0 = .ok (.aload_n 0, 1) := by decide +kernel
theorem dX5_leastX_1 : decode cX5_leastX 1 = .ok (.iload_n 1, 1) := by decide +kernel
theorem dX5_leastX_2 : decode cX5_leastX 2 = .ok (.bipush 12, 2) := by decide +kernel
theorem dX5_leastX_4 : decode cX5_leastX 4 = .ok (.iconst (-1), 1) := by decide +kernel
theorem dX5_leastX_5 : decode cX5_leastX 5 = .ok (.invokevirtual 60, 3) := by decide +kernel
theorem dX5_leastX_8 : decode cX5_leastX 8 = .ok (.ireturn, 1) := by decide +kernel
set_option maxRecDepth 20000 in
theorem ggX5_greatestX_X5_extreme : GoodIn wsX5_greatestX wsX5_extreme := goodIn_r _ [5, 6, 7, 8, 9, 4, 10, 11, 12, 13, 14, 15, 16, 17, 18, 19, 20] (by decide +kernel) (by decide +kernel)
set_option maxRecDepth 20000 in
theorem gX5_greatestX_X5_extreme : GoodIn wsX5_greatestX (wsV RX5 60 RX5 yX5_extreme wsX5_extreme) := goodIn_app (goodIn_of _ (by decide +kernel)) ggX5_greatestX_X5_extreme
theorem dX5_greatestX_0 : decode cX5_greatestX 0 = .ok (.aload_n 0, 1) := by decide +kernel
theorem dX5_greatestX_1 : decode cX5_greatestX 1 = .ok (.iload_n 1, 1) := by decide +kernel
theorem dX5_greatestX_2 : decode cX5_greatestX 2 = .ok (.bipush 12, 2) := by decide +kernel
theorem dX5_greatestX_4 : decode cX5_greatestX 4 = .ok (.iconst 1, 1) := by decide +kernel
theorem dX5_greatestX_5 : decode cX5_greatestX 5 = .ok (.invokevirtual 60, 3) := by decide +kernel
theorem dX5_greatestX_8 : decode cX5_greatestX 8 = .ok (.ireturn, 1) := by decide +kernel
set_option maxRecDepth 20000 in
theorem ggX5_leastY_X5_extreme : GoodIn wsX5_leastY wsX5_extreme := goodIn_r _ [5, 6, 7, 8, 9, 4, 10, 11, 12, 13, 14, 15, 16, 17, 18, 19, 20] (by decide +kernel) (by decide +kernel)
set_option maxRecDepth 20000 in
theorem gX5_leastY_X5_extreme : GoodIn wsX5_leastY (wsV RX5 60 RX5 yX5_extreme wsX5_extreme) := goodIn_app (goodIn_of _ (by decide +kernel)) ggX5_leastY_X5_extreme
theorem dX5_leastY_0 : decode cX5_leastY 0 = .ok (.aload_n 0, 1) := by decide +kernel
theorem dX5_leastY_1 : decode cX5_leastY 1 = .ok (.iload_n 1, 1) := by decide +kernel
theorem dX5_leastY_2 : decode cX5_leastY 2 = .ok (.bipush 66, 2) := by decide +kernel
theorem dX5_leastY_4 : decode cX5_leastY 4 = .ok (.iconst (-1), 1) := by decide +kernel
theorem dX5_leastY_5 : decode cX5_leastY 5 = .ok (.invokevirtual 60, 3) := by decide +kernel
theorem dX5_leastY_8 : decode cX5_leastY 8 = .ok (.ireturn, 1) := by decide +kernel
set_option maxRecDepth 20000 in
theorem ggX5_greatestY_X5_extreme : GoodIn wsX5_greatestY wsX5_extreme := goodIn_r _ [5, 6, 7, 8, 9, 4, 10, 11, 12, 13, 14, 15, 16, 17, 18, 19, 20] (by decide +kernel) (by decide +kernel)
set_option maxRecDepth 20000 in
theorem gX5_greatestY_X5_extreme : GoodIn wsX5_greatestY (wsV RX5 60 RX5 yX5_extreme wsX5_extreme) := goodIn_app (goodIn_of _ (by decide +kernel)) ggX5_greatestY_X5_extreme
theorem dX5_greatestY_0 : decode cX5_greatestY 0 = .ok (.aload_n 0, 1) := by decide +kernel
theorem dX5_greatestY_1 : decode cX5_greatestY 1 = .ok (.iload_n 1, 1) := by decide +kernel
theorem dX5_greatestY_2 : decode cX5_greatestY 2 = .ok (.bipush 66, 2) := by decide +kernel
theorem dX5_greatestY_4 : decode cX5_greatestY 4 = .ok (.iconst 1, 1) := by decide +kernel
theorem dX5_greatestY_5 : decode cX5_greatestY 5 = .ok (.invokevirtual 60, 3) := by decide +kernel
theorem dX5_greatestY_8 : decode cX5_greatestY 8 = .ok (.ireturn, 1) := by decide +kernel
set_option maxRecDepth 20000 in
theorem ggX5_wallsBy_X5_leastX : GoodIn wsX5_wallsBy wsX5_leastX := goodIn_r _ [6, 7, 8, 9, 5, 10, 1, 11, 12, 13, 14, 27, 28, 29, 30, 31, 32, 33, 34, 35, 36] (by decide +kernel) (by decide +kernel)
set_option maxRecDepth 20000 in
theorem gX5_wallsBy_X5_leastX : GoodIn wsX5_wallsBy (wsV RX5 63 RX5 yX5_leastX wsX5_leastX) := goodIn_app (goodIn_of _ (by decide +kernel)) ggX5_wallsBy_X5_leastX
set_option maxRecDepth 20000 in
theorem ggX5_wallsBy_X5_greatestX : GoodIn wsX5_wallsBy wsX5_greatestX := goodIn_r _ [18, 7, 8, 9, 5, 10, 1, 11, 12, 13, 14, 27, 28, 29, 30, 31, 32, 33, 34, 35, 36] (by decide +kernel) (by decide +kernel)
set_option maxRecDepth 20000 in
theorem gX5_wallsBy_X5_greatestX : GoodIn wsX5_wallsBy (wsV RX5 66 RX5 yX5_greatestX wsX5_greatestX) := goodIn_app (goodIn_of _ (by decide +kernel)) ggX5_wallsBy_X5_greatestX
set_option maxRecDepth 20000 in
theorem ggX5_wallsBy_X5_leastY : GoodIn wsX5_wallsBy wsX5_leastY := goodIn_r _ [22, 7, 8, 9, 5, 10, 1, 11, 12, 13, 14, 27, 28, 29, 30, 31, 32, 33, 34, 35, 36] (by decide +kernel) (by decide +kernel)
set_option maxRecDepth 20000 in
theorem gX5_wallsBy_X5_leastY : GoodIn wsX5_wallsBy (wsV RX5 69 RX5 yX5_leastY wsX5_leastY) := goodIn_app (goodIn_of _ (by decide +kernel)) ggX5_wallsBy_X5_leastY
set_option maxRecDepth 20000 in
theorem ggX5_wallsBy_X5_greatestY : GoodIn wsX5_wallsBy wsX5_greatestY := goodIn_r _ [26, 7, 8, 9, 5, 10, 1, 11, 12, 13, 14, 27, 28, 29, 30, 31, 32, 33, 34, 35, 36] (by decide +kernel) (by decide +kernel)
set_option maxRecDepth 20000 in
theorem gX5_wallsBy_X5_greatestY : GoodIn wsX5_wallsBy (wsV RX5 72 RX5 yX5_greatestY wsX5_greatestY) := goodIn_app (goodIn_of _ (by decide +kernel)) ggX5_wallsBy_X5_greatestY
theorem dX5_wallsBy_0 : decode cX5_wallsBy 0 = .ok (.aload_n 0, 1) := by decide +kernel
theorem dX5_wallsBy_1 : decode cX5_wallsBy 1 = .ok (.iload_n 1, 1) := by decide +kernel
theorem dX5_wallsBy_2 : decode cX5_wallsBy 2 = .ok (.invokevirtual 63, 3) := by decide +kernel
theorem dX5_wallsBy_5 : decode cX5_wallsBy 5 = .ok (.iload_n 2, 1) := by decide +kernel
theorem dX5_wallsBy_6 : decode cX5_wallsBy 6 = .ok (.ineg, 1) := by decide +kernel
theorem dX5_wallsBy_7 : decode cX5_wallsBy 7 = .ok (.if_icmp .gt 7, 3) := by decide +kernel
theorem dX5_wallsBy_10 : decode cX5_wallsBy 10 = .ok (.iconst 1, 1) := by decide +kernel
theorem dX5_wallsBy_11 : decode cX5_wallsBy 11 = .ok (.goto 4, 3) := by decide +kernel
theorem dX5_wallsBy_14 : decode cX5_wallsBy 14 = .ok (.iconst 0, 1) := by decide +kernel
theorem dX5_wallsBy_15 : decode cX5_wallsBy 15 = .ok (.istore_n 3, 1) := by decide +kernel
theorem dX5_wallsBy_16 : decode cX5_wallsBy 16 = .ok (.iload_n 3, 1) := by decide +kernel
theorem dX5_wallsBy_17 : decode cX5_wallsBy 17 = .ok (.aload_n 0, 1) := by decide +kernel
theorem dX5_wallsBy_18 : decode cX5_wallsBy 18 = .ok (.iload_n 1, 1) := by decide +kernel
theorem dX5_wallsBy_19 : decode cX5_wallsBy 19 = .ok (.invokevirtual 66, 3) := by decide +kernel
theorem dX5_wallsBy_22 : decode cX5_wallsBy 22 = .ok (.aload_n 0, 1) := by decide +kernel
theorem dX5_wallsBy_23 : decode cX5_wallsBy 23 = .ok (.getfield 7, 3) := by decide +kernel
theorem dX5_wallsBy_26 : decode cX5_wallsBy 26 = .ok (.iconst 0, 1) := by decide +kernel
theorem dX5_wallsBy_27 : decode cX5_wallsBy 27 = .ok (.iaload, 1) := by decide +kernel
theorem dX5_wallsBy_28 : decode cX5_wallsBy 28 = .ok (.iload_n 2, 1) := by decide +kernel
theorem dX5_wallsBy_29 : decode cX5_wallsBy 29 = .ok (.iadd, 1) := by decide +kernel
theorem dX5_wallsBy_30 : decode cX5_wallsBy 30 = .ok (.if_icmp .lt 7, 3) := by decide +kernel
theorem dX5_wallsBy_33 : decode cX5_wallsBy 33 = .ok (.iconst 2, 1) := by decide +kernel
theorem dX5_wallsBy_34 : decode cX5_wallsBy 34 = .ok (.goto 4, 3) := by decide +kernel
theorem dX5_wallsBy_37 : decode cX5_wallsBy 37 = .ok (.iconst 0, 1) := by decide +kernel
theorem dX5_wallsBy_38 : decode cX5_wallsBy 38 = .ok (.ior, 1) := by decide +kernel
theorem dX5_wallsBy_39 : decode cX5_wallsBy 39 = .ok (.istore_n 3, 1) := by decide +kernel
theorem dX5_wallsBy_40 : decode cX5_wallsBy 40 = .ok (.iload_n 3, 1) := by decide +kernel
theorem dX5_wallsBy_41 : decode cX5_wallsBy 41 = .ok (.aload_n 0, 1) := by decide +kernel
theorem dX5_wallsBy_42 : decode cX5_wallsBy 42 = .ok (.iload_n 1, 1) := by decide +kernel
theorem dX5_wallsBy_43 : decode cX5_wallsBy 43 = .ok (.invokevirtual 69, 3) := by decide +kernel
theorem dX5_wallsBy_46 : decode cX5_wallsBy 46 = .ok (.iload_n 2, 1) := by decide +kernel
theorem dX5_wallsBy_47 : decode cX5_wallsBy 47 = .ok (.ineg, 1) := by decide +kernel
theorem dX5_wallsBy_48 : decode cX5_wallsBy 48 = .ok (.if_icmp .gt 7, 3) := by decide +kernel
theorem dX5_wallsBy_51 : decode cX5_wallsBy 51 = .ok (.iconst 4, 1) := by decide +kernel
theorem dX5_wallsBy_52 : decode cX5_wallsBy 52 = .ok (.goto 4, 3) := by decide +kernel
theorem dX5_wallsBy_55 : decode cX5_wallsBy 55 = .ok (.iconst 0, 1) := by decide +kernel
theorem dX5_wallsBy_56 : decode cX5_wallsBy 56 = .ok (.ior, 1) := by decide +kernel
theorem dX5_wallsBy_57 : decode cX5_wallsBy 57 = .ok (.istore_n 3, 1) := by decide +kernel
theorem dX5_wallsBy_58 : decode cX5_wallsBy 58 = .ok (.iload_n 3, 1) := by decide +kernel
theorem dX5_wallsBy_59 : decode cX5_wallsBy 59 = .ok (.aload_n 0, 1) := by decide +kernel
theorem dX5_wallsBy_60 : decode cX5_wallsBy 60 = .ok (.iload_n 1, 1) := by decide +kernel
theorem dX5_wallsBy_61 : decode cX5_wallsBy 61 = .ok (.invokevirtual 72, 3) := by decide +kernel
theorem dX5_wallsBy_64 : decode cX5_wallsBy 64 = .ok (.aload_n 0, 1) := by decide +kernel
theorem dX5_wallsBy_65 : decode cX5_wallsBy 65 = .ok (.getfield 7, 3) := by decide +kernel
theorem dX5_wallsBy_68 : decode cX5_wallsBy 68 = .ok (.iconst 1, 1) := by decide +kernel
theorem dX5_wallsBy_69 : decode cX5_wallsBy 69 = .ok (.iaload, 1) := by decide +kernel
theorem dX5_wallsBy_70 : decode cX5_wallsBy 70 = .ok (.iload_n 2, 1) := by decide +kernel
theorem dX5_wallsBy_71 : decode cX5_wallsBy 71 = .ok (.iadd, 1) := by decide +kernel
theorem dX5_wallsBy_72 : decode cX5_wallsBy 72 = .ok (.if_icmp .lt 8, 3) := by decide +kernel
theorem dX5_wallsBy_75 : decode cX5_wallsBy 75 = .ok (.bipush 8, 2) := by decide +kernel
theorem dX5_wallsBy_77 : decode cX5_wallsBy 77 = .ok (.goto 4, 3) := by decide +kernel
theorem dX5_wallsBy_80 : decode cX5_wallsBy 80 = .ok (.iconst 0, 1) := by decide +kernel
theorem dX5_wallsBy_81 : decode cX5_wallsBy 81 = .ok (.ior, 1) := by decide +kernel
theorem dX5_wallsBy_82 : decode cX5_wallsBy 82 = .ok (.istore_n 3, 1) := by decide +kernel
theorem dX5_wallsBy_83 : decode cX5_wallsBy 83 = .ok (.iload_n 3, 1) := by decide +kernel
theorem dX5_wallsBy_84 : decode cX5_wallsBy 84 = .ok (.ireturn, 1) := by decide +kernel
set_option maxRecDepth 20000 in
theorem ggX5_fits_X5_wallsBy : GoodIn wsX5_fits wsX5_wallsBy := goodIn_r _ [5, 6, 7, 8, 9, 4, 10, 11, 12, 13, 14, 15, 16, 17, 18, 19, 20, 21, 22, 23, 24, 25, 26, 27, 28, 29, 30, 59, 60, 61, 62, 63, 64, 65, 66, 67, 68] (by decide +kernel) (by decide +kernel)
set_option maxRecDepth 20000 in
theorem gX5_fits_X5_wallsBy : GoodIn wsX5_fits (wsV RX5 75 RX5 yX5_wallsBy wsX5_wallsBy) := goodIn_app (goodIn_of _ (by decide +kernel)) ggX5_fits_X5_wallsBy
set_option maxRecDepth 20000 in
theorem ggX5_fits_X5_overlapped : GoodIn wsX5_fits wsX5_overlapped := goodIn_r _ [34, 6, 35, 36, 37, 4, 38, 39, 40, 41, 42, 15, 16, 17, 18, 43, 44, 45, 46, 47, 48, 49, 50, 51, 52, 53, 54, 55, 56, 57, 58, 59, 60, 61, 62, 63, 64, 65, 66, 67, 68] (by decide +kernel) (by decide +kernel)
set_option maxRecDepth 20000 in
theorem gX5_fits_X5_overlapped : GoodIn wsX5_fits (wsV RX5 78 RX5 yX5_overlapped wsX5_overlapped) := goodIn_app (goodIn_of _ (by decide +kernel)) ggX5_fits_X5_overlapped
theorem dX5_fits_0 : decode cX5_fits 0 = .ok (.aload_n 0, 1) := by decide +kernel
theorem dX5_fits_1 : decode cX5_fits 1 = .ok (.iload_n 1, 1) := by decide +kernel
theorem dX5_fits_2 : decode cX5_fits 2 = .ok (.iconst 1, 1) := by decide +kernel
theorem dX5_fits_3 : decode cX5_fits 3 = .ok (.invokevirtual 75, 3) := by decide +kernel
theorem dX5_fits_6 : decode cX5_fits 6 = .ok (.ifCond .ne 15, 3) := by decide +kernel
theorem dX5_fits_9 : decode cX5_fits 9 = .ok (.aload_n 0, 1) := by decide +kernel
theorem dX5_fits_10 : decode cX5_fits 10 = .ok (.iload_n 1, 1) := by decide +kernel
theorem dX5_fits_11 : decode cX5_fits 11 = .ok (.invokevirtual 78, 3) := by decide +kernel
theorem dX5_fits_14 : decode cX5_fits 14 = .ok (.ifCond .ne 7, 3) := by decide +kernel
theorem dX5_fits_17 : decode cX5_fits 17 = .ok (.iconst 1, 1) := by decide +kernel
theorem dX5_fits_18 : decode cX5_fits 18 = .ok (.goto 4, 3) := by decide +kernel
theorem dX5_fits_21 : decode cX5_fits 21 = .ok (.iconst 0, 1) := by decide +kernel
theorem dX5_fits_22 : decode cX5_fits 22 = .ok (.ireturn, 1) := by decide +kernel
theorem dX5_dx_0 : decode cX5_dx 0 = .ok (.iload_n 0, 1) := by decide +kernel
theorem dX5_dx_1 : decode cX5_dx 1 = .ok (.iconst 2, 1) := by decide +kernel
theorem dX5_dx_2 : decode cX5_dx 2 = .ok (.if_icmp .eq 9, 3) := by decide +kernel
theorem dX5_dx_5 : decode cX5_dx 5 = .ok (.iload_n 0, 1) := by decide +kernel
theorem dX5_dx_6 : decode cX5_dx 6 = .ok (.bipush 6, 2) := by decide +kernel
theorem dX5_dx_8 : decode cX5_dx 8 = .ok (.if_icmp .ne 7, 3) := by decide +kernel
theorem dX5_dx_11 : decode cX5_dx 11 = .ok (.iconst 0, 1) := by decide +kernel
theorem dX5_dx_12 : decode cX5_dx 12 = .ok (.goto 19, 3) := by decide +kernel
theorem dX5_dx_15 : decode cX5_dx 15 = .ok (.iload_n 0, 1) := by decide +kernel
theorem dX5_dx_16 : decode cX5_dx 16 = .ok (.iconst 2, 1) := by decide +kernel
theorem dX5_dx_17 : decode cX5_dx 17 = .ok (.if_icmp .le 13, 3) := by decide +kernel
theorem dX5_dx_20 : decode cX5_dx 20 = .ok (.iload_n 0, 1) := by decide +kernel
theorem dX5_dx_21 : decode cX5_dx 21 = .ok (.bipush 6, 2) := by decide +kernel
theorem dX5_dx_23 : decode cX5_dx 23 = .ok (.if_icmp .ge 7, 3) := by decide +kernel
theorem dX5_dx_26 : decode cX5_dx 26 = .ok (.iconst (-1), 1) := by decide +kernel
theorem dX5_dx_27 : decode cX5_dx 27 = .ok (.goto 4, 3) := by decide +kernel
theorem dX5_dx_30 : decode cX5_dx 30 = .ok (.iconst 1, 1) := by decide +kernel
theorem dX5_dx_31 : decode cX5_dx 31 = .ok (.ireturn, 1) := by decide +kernel
theorem dX5_dy_0 : decode cX5_dy 0 = .ok (.iload_n 0, 1) := by decide +kernel
theorem dX5_dy_1 : decode cX5_dy 1 = .ok (.iconst 4, 1) := by decide +kernel
theorem dX5_dy_2 : decode cX5_dy 2 = .ok (.irem, 1) := by decide +kernel
theorem dX5_dy_3 : decode cX5_dy 3 = .ok (.ifCond .ne 7, 3) := by decide +kernel
theorem dX5_dy_6 : decode cX5_dy 6 = .ok (.iconst 0, 1) := by decide +kernel
theorem dX5_dy_7 : decode cX5_dy 7 = .ok (.goto 13, 3) := by decide +kernel
theorem dX5_dy_10 : decode cX5_dy 10 = .ok (.iload_n 0, 1) := by decide +kernel
theorem dX5_dy_11 : decode cX5_dy 11 = .ok (.iconst 4, 1) := by decide +kernel
theorem dX5_dy_12 : decode cX5_dy 12 = .ok (.if_icmp .ge 7, 3) := by decide +kernel
theorem dX5_dy_15 : decode cX5_dy 15 = .ok (.iconst 1, 1) := by decide +kernel
theorem dX5_dy_16 : decode cX5_dy 16 = .ok (.goto 4, 3) := by decide +kernel
theorem dX5_dy_19 : decode cX5_dy 19 = .ok (.iconst (-1), 1) := by decide +kernel
theorem dX5_dy_20 : decode cX5_dy 20 = .ok (.ireturn, 1) := by decide +kernel
set_option maxRecDepth 20000 in
theorem ggX5_steps_X5_dx : GoodIn wsX5_steps wsX5_dx := goodIn_r _ [4] (by decide +kernel) (by decide +kernel)
set_option maxRecDepth 20000 in
theorem gX5_steps_X5_dx : GoodIn wsX5_steps (va_wsS RX5 81 yX5_dx wsX5_dx) := goodIn_app (goodIn_of _ (by decide +kernel)) ggX5_steps_X5_dx
set_option maxRecDepth 20000 in
theorem ggX5_steps_X5_dy : GoodIn wsX5_steps wsX5_dy := goodIn_r _ [7] (by decide +kernel) (by decide +kernel)
set_option maxRecDepth 20000 in
theorem gX5_steps_X5_dy : GoodIn wsX5_steps (va_wsS RX5 84 yX5_dy wsX5_dy) := goodIn_app (goodIn_of _ (by decide +kernel)) ggX5_steps_X5_dy
set_option maxRecDepth 20000 in
theorem ggX5_steps_X5_moves : GoodIn wsX5_steps wsX5_moves := goodIn_r _ [11, 12, 13, 14, 15, 3, 16, 73, 74, 75, 76, 77, 78, 79, 80, 81, 82] (by decide +kernel) (by decide +kernel)
set_option maxRecDepth 20000 in
theorem gX5_steps_X5_moves : GoodIn wsX5_steps (wsV RX5 87 RX5 yX5_moves wsX5_moves) := goodIn_app (goodIn_of _ (by decide +kernel)) ggX5_steps_X5_moves
set_option maxRecDepth 20000 in
theorem ggX5_steps_X5_fits : GoodIn wsX5_steps wsX5_fits := goodIn_r _ [20, 21, 22, 23, 3, 24, 12, 25, 26, 27, 28, 29, 30, 31, 32, 13, 14, 15, 16, 33, 34, 35, 36, 37, 38, 39, 40, 41, 42, 43, 44, 45, 46, 47, 48, 49, 50, 51, 52, 53, 54, 55, 56, 57, 58, 59, 60, 61, 62, 63, 64, 65, 66, 67, 68, 69, 70, 71, 72, 73, 74, 75, 76, 77, 78, 79, 80, 81, 82] (by decide +kernel) (by decide +kernel)
set_option maxRecDepth 20000 in
theorem gX5_steps_X5_fits : GoodIn wsX5_steps (wsV RX5 91 RX5 yX5_fits wsX5_fits) := goodIn_app (goodIn_of _ (by decide +kernel)) ggX5_steps_X5_fits
theorem dX5_steps_0 : decode cX5_steps 0 = .ok (.aload_n 0, 1) := by decide +kernel
theorem dX5_steps_1 : decode cX5_steps 1 = .ok (.iload_n 1, 1) := by decide +kernel
theorem dX5_steps_2 : decode cX5_steps 2 = .ok (.iload_n 2, 1) := by decide +kernel
theorem dX5_steps_3 : decode cX5_steps 3 = .ok (.invokestatic 81, 3) := by decide +kernel
theorem dX5_steps_6 : decode cX5_steps 6 = .ok (.iload_n 2, 1) := by decide +kernel
theorem dX5_steps_7 : decode cX5_steps 7 = .ok (.invokestatic 84, 3) := by decide +kernel
theorem dX5_steps_10 : decode cX5_steps 10 = .ok (.invokevirtual 87, 3) := by decide +kernel
theorem dX5_steps_13 : decode cX5_steps 13 = .ok (.aload_n 0, 1) := by decide +kernel
theorem dX5_steps_14 : decode cX5_steps 14 = .ok (.iload_n 1, 1) := by decide +kernel
theorem dX5_steps_15 : decode cX5_steps 15 = .ok (.invokevirtual 91, 3) := by decide +kernel
theorem dX5_steps_18 : decode cX5_steps 18 = .ok (.ifCond .eq 5, 3) := by decide +kernel
theorem dX5_steps_21 : decode cX5_steps 21 = .ok (.iconst 1, 1) := by decide +kernel
theorem dX5_steps_22 : decode cX5_steps 22 = .ok (.ireturn, 1) := by decide +kernel
theorem dX5_steps_23 : decode cX5_steps 23 = .ok (.aload_n 0, 1) := by decide +kernel
theorem dX5_steps_24 : decode cX5_steps 24 = .ok (.iload_n 1, 1) := by decide +kernel
theorem dX5_steps_25 : decode cX5_steps 25 = .ok (.iload_n 2, 1) := by decide +kernel
theorem dX5_steps_26 : decode cX5_steps 26 = .ok (.invokestatic 81, 3) := by decide +kernel
theorem dX5_steps_29 : decode cX5_steps 29 = .ok (.ineg, 1) := by decide +kernel
theorem dX5_steps_30 : decode cX5_steps 30 = .ok (.iload_n 2, 1) := by decide +kernel
theorem dX5_steps_31 : decode cX5_steps 31 = .ok (.invokestatic 84, 3) := by decide +kernel
theorem dX5_steps_34 : decode cX5_steps 34 = .ok (.ineg, 1) := by decide +kernel
theorem dX5_steps_35 : decode cX5_steps 35 = .ok (.invokevirtual 87, 3) := by decide +kernel
theorem dX5_steps_38 : decode cX5_steps 38 = .ok (.iconst 0, 1) := by decide +kernel
theorem dX5_steps_39 : decode cX5_steps 39 = .ok (.ireturn, 1) := by decide +kernel
set_option maxRecDepth 20000 in
theorem ggX5_isFree_X5_steps : GoodIn wsX5_isFree wsX5_steps := goodIn_r _ [5, 6, 7, 4, 8, 9, 10, 11, 12, 13, 14, 15, 16, 17, 18, 19, 20, 21, 22, 23, 24, 25, 26, 27, 28, 29, 30, 31, 32, 33, 34, 35, 36, 37, 38, 39, 40, 41, 42, 43, 44, 45, 46, 47, 48, 49, 50, 51, 52, 53, 54, 55, 56, 57, 58, 59, 60, 61, 62, 63, 64, 65, 66, 67, 68, 69, 70, 71, 72, 73, 74, 75, 76, 77, 78, 79, 80, 81, 82, 83, 84, 85, 86] (by decide +kernel) (by decide +kernel)
set_option maxRecDepth 20000 in
theorem gX5_isFree_X5_steps : GoodIn wsX5_isFree (wsV RX5 95 RX5 yX5_steps wsX5_steps) := goodIn_app (goodIn_of _ (by decide +kernel)) ggX5_isFree_X5_steps
set_option maxRecDepth 20000 in
theorem ggX5_isFree_X5_dx : GoodIn wsX5_isFree wsX5_dx := goodIn_r _ [8] (by decide +kernel) (by decide +kernel)
set_option maxRecDepth 20000 in
theorem gX5_isFree_X5_dx : GoodIn wsX5_isFree (va_wsS RX5 81 yX5_dx wsX5_dx) := goodIn_app (goodIn_of _ (by decide +kernel)) ggX5_isFree_X5_dx
set_option maxRecDepth 20000 in
theorem ggX5_isFree_X5_dy : GoodIn wsX5_isFree wsX5_dy := goodIn_r _ [11] (by decide +kernel) (by decide +kernel)
set_option maxRecDepth 20000 in
theorem gX5_isFree_X5_dy : GoodIn wsX5_isFree (va_wsS RX5 84 yX5_dy wsX5_dy) := goodIn_app (goodIn_of _ (by decide +kernel)) ggX5_isFree_X5_dy
set_option maxRecDepth 20000 in
theorem ggX5_isFree_X5_moves : GoodIn wsX5_isFree wsX5_moves := goodIn_r _ [15, 16, 17, 18, 19, 4, 20, 77, 78, 79, 80, 81, 82, 83, 84, 85, 86] (by decide +kernel) (by decide +kernel)
set_option maxRecDepth 20000 in
theorem gX5_isFree_X5_moves : GoodIn wsX5_isFree (wsV RX5 87 RX5 yX5_moves wsX5_moves) := goodIn_app (goodIn_of _ (by decide +kernel)) ggX5_isFree_X5_moves
theorem dX5_isFree_0 : decode cX5_isFree 0 = .ok (.aload_n 0, 1) := by decide +kernel
theorem dX5_isFree_1 : decode cX5_isFree 1 = .ok (.iload_n 1, 1) := by decide +kernel
theorem dX5_isFree_2 : decode cX5_isFree 2 = .ok (.iload_n 2, 1) := by decide +kernel
theorem dX5_isFree_3 : decode cX5_isFree 3 = .ok (.invokevirtual 95, 3) := by decide +kernel
theorem dX5_isFree_6 : decode cX5_isFree 6 = .ok (.istore_n 3, 1) := by decide +kernel
theorem dX5_isFree_7 : decode cX5_isFree 7 = .ok (.iload_n 3, 1) := by decide +kernel
theorem dX5_isFree_8 : decode cX5_isFree 8 = .ok (.ifCond .eq 18, 3) := by decide +kernel
theorem dX5_isFree_11 : decode cX5_isFree 11 = .ok (.aload_n 0, 1) := by decide +kernel
theorem dX5_isFree_12 : decode cX5_isFree 12 = .ok (.iload_n 1, 1) := by decide +kernel
theorem dX5_isFree_13 : decode cX5_isFree 13 = .ok (.iload_n 2, 1) := by decide +kernel
theorem dX5_isFree_14 : decode cX5_isFree 14 = .ok (.invokestatic 81, 3) := by decide +kernel
theorem dX5_isFree_17 : decode cX5_isFree 17 = .ok (.ineg, 1) := by decide +kernel
theorem dX5_isFree_18 : decode cX5_isFree 18 = .ok (.iload_n 2, 1) := by decide +kernel
theorem dX5_isFree_19 : decode cX5_isFree 19 = .ok (.invokestatic 84, 3) := by decide +kernel
theorem dX5_isFree_22 : decode cX5_isFree 22 = .ok (.ineg, 1) := by decide +kernel
theorem dX5_isFree_23 : decode cX5_isFree 23 = .ok (.invokevirtual 87, 3) := by decide +kernel
theorem dX5_isFree_26 : decode cX5_isFree 26 = .ok (.iload_n 3, 1) := by decide +kernel
theorem dX5_isFree_27 : decode cX5_isFree 27 = .ok (.ireturn, 1) := by decide +kernel
set_option maxRecDepth 20000 in
theorem ggX5_freeDirections_X5_isFree : GoodIn wsX5_freeDirections wsX5_isFree := goodIn_r _ [5, 6, 7, 8, 4, 9, 10, 11, 12, 13, 14, 15, 16, 17, 18, 19, 20, 21, 22, 23, 24, 25, 26, 27, 28, 29, 30, 31, 32, 33, 34, 35, 36, 37, 38, 39, 40, 41, 42, 43, 44, 45, 46, 47, 48, 49, 50, 51, 52, 53, 54, 55, 56, 57, 58, 59, 60, 61, 62, 63, 64, 65, 66, 67, 68, 69, 70, 71, 72, 73, 74, 75, 76, 77, 78, 79, 80, 81, 82, 83, 84, 85, 86, 87, 88, 89, 90] (by decide +kernel) (by decide +kernel)
set_option maxRecDepth 20000 in
theorem gX5_freeDirections_X5_isFree : GoodIn wsX5_freeDirections (wsV RX5 98 RX5 yX5_isFree wsX5_isFree) := goodIn_app (goodIn_of _ (by decide +kernel)) ggX5_freeDirections_X5_isFree
theorem dX5_freeDirections_0 : decode cX5_freeDirections 0 = .ok (.iconst 0, 1) := by decide +kernel
theorem dX5_freeDirections_1 : decode cX5_freeDirections 1 = .ok (.istore_n 2, 1) := by decide +kernel
theorem dX5_freeDirections_2 : decode cX5_freeDirections 2 = .ok (.iconst 0, 1) := by decide +kernel
theorem dX5_freeDirections_3 : decode cX5_freeDirections 3 = .ok (.istore_n 3, 1) := by decide +kernel
theorem dX5_freeDirections_4 : decode cX5_freeDirections 4 = .ok (.iload_n 3, 1) := by decide +kernel
theorem dX5_freeDirections_5 : decode cX5_freeDirections 5 = .ok (.bipush 8, 2) := by decide +kernel
theorem dX5_freeDirections_7 : decode cX5_freeDirections 7 = .ok (.if_icmp .ge 28, 3) := by decide +kernel
theorem dX5_freeDirections_10 : decode cX5_freeDirections 10 = .ok (.iload_n 2, 1) := by decide +kernel
theorem dX5_freeDirections_11 : decode cX5_freeDirections 11 = .ok (.aload_n 0, 1) := by decide +kernel
theorem dX5_freeDirections_12 : decode cX5_freeDirections 12 = .ok (.iload_n 1, 1) := by decide +kernel
theorem dX5_freeDirections_13 : decode cX5_freeDirections 13 = .ok (.iload_n 3, 1) := by decide +kernel
theorem dX5_freeDirections_14 : decode cX5_freeDirections 14 = .ok (.invokevirtual 98, 3) := by decide +kernel
theorem dX5_freeDirections_17 : decode cX5_freeDirections 17 = .ok (.ifCond .eq 9, 3) := by decide +kernel
theorem dX5_freeDirections_20 : decode cX5_freeDirections 20 = .ok (.iconst 1, 1) := by decide +kernel
theorem dX5_freeDirections_21 : decode cX5_freeDirections 21 = .ok (.iload_n 3, 1) := by decide +kernel
theorem dX5_freeDirections_22 : decode cX5_freeDirections 22 = .ok (.ishl, 1) := by decide +kernel
theorem dX5_freeDirections_23 : decode cX5_freeDirections 23 = .ok (.goto 4, 3) := by decide +kernel
theorem dX5_freeDirections_26 : decode cX5_freeDirections 26 = .ok (.iconst 0, 1) := by decide +kernel
theorem dX5_freeDirections_27 : decode cX5_freeDirections 27 = .ok (.ior, 1) := by decide +kernel
theorem dX5_freeDirections_28 : decode cX5_freeDirections 28 = .ok (.istore_n 2, 1) := by decide +kernel
theorem dX5_freeDirections_29 : decode cX5_freeDirections 29 = .ok (.iinc 3 1, 3) := by decide +kernel
theorem dX5_freeDirections_32 : decode cX5_freeDirections 32 = .ok (.goto (-28), 3) := by decide +kernel
theorem dX5_freeDirections_35 : decode cX5_freeDirections 35 = .ok (.iload_n 2, 1) := by decide +kernel
theorem dX5_freeDirections_36 : decode cX5_freeDirections 36 = .ok (.ireturn, 1) := by decide +kernel
set_option maxRecDepth 20000 in
theorem ggX5_isJammed_X5_freeDirections : GoodIn wsX5_isJammed wsX5_freeDirections := goodIn_r _ [5, 6, 7, 8, 4, 9, 10, 11, 12, 13, 14, 15, 16, 17, 18, 19, 20, 21, 22, 23, 24, 25, 26, 27, 28, 29, 30, 31, 32, 33, 34, 35, 36, 37, 38, 39, 40, 41, 42, 43, 44, 45, 46, 47, 48, 49, 50, 51, 52, 53, 54, 55, 56, 57, 58, 59, 60, 61, 62, 63, 64, 65, 66, 67, 68, 69, 70, 71, 72, 73, 74, 75, 76, 77, 78, 79, 80, 81, 82, 83, 84, 85, 86, 87, 88, 89, 90, 91, 92, 93, 94] (by decide +kernel) (by decide +kernel)
set_option maxRecDepth 20000 in
theorem gX5_isJammed_X5_freeDirections : GoodIn wsX5_isJammed (wsV RX5 101 RX5 yX5_freeDirections wsX5_freeDirections) := goodIn_app (goodIn_of _ (by decide +kernel)) ggX5_isJammed_X5_freeDirections
theorem dX5_isJammed_0 : decode cX5_isJammed 0 = .ok (.aload_n 0, 1) := by decide +kernel
theorem dX5_isJammed_1 : decode cX5_isJammed 1 = .ok (.iload_n 1, 1) := by decide +kernel
theorem dX5_isJammed_2 : decode cX5_isJammed 2 = .ok (.invokevirtual 101, 3) := by decide +kernel
theorem dX5_isJammed_5 : decode cX5_isJammed 5 = .ok (.bipush 85, 2) := by decide +kernel
theorem dX5_isJammed_7 : decode cX5_isJammed 7 = .ok (.iand, 1) := by decide +kernel
theorem dX5_isJammed_8 : decode cX5_isJammed 8 = .ok (.ifCond .ne 7, 3) := by decide +kernel
theorem dX5_isJammed_11 : decode cX5_isJammed 11 = .ok (.iconst 1, 1) := by decide +kernel
theorem dX5_isJammed_12 : decode cX5_isJammed 12 = .ok (.goto 4, 3) := by decide +kernel
theorem dX5_isJammed_15 : decode cX5_isJammed 15 = .ok (.iconst 0, 1) := by decide +kernel
theorem dX5_isJammed_16 : decode cX5_isJammed 16 = .ok (.ireturn, 1) := by decide +kernel
set_option maxRecDepth 20000 in
theorem ggX5_slides_X5_steps : GoodIn wsX5_slides wsX5_steps := goodIn_r _ [5, 6, 7, 4, 8, 9, 10, 11, 12, 13, 14, 15, 16, 17, 18, 19, 20, 21, 22, 23, 24, 25, 26, 27, 28, 29, 30, 31, 32, 33, 34, 35, 36, 37, 38, 39, 40, 41, 42, 43, 44, 45, 46, 47, 48, 49, 50, 51, 52, 53, 54, 55, 56, 57, 58, 59, 60, 61, 62, 63, 64, 65, 66, 67, 68, 69, 70, 71, 72, 73, 74, 75, 76, 77, 78, 79, 80, 81, 82, 83, 84, 85, 86] (by decide +kernel) (by decide +kernel)
set_option maxRecDepth 20000 in
theorem gX5_slides_X5_steps : GoodIn wsX5_slides (wsV RX5 95 RX5 yX5_steps wsX5_steps) := goodIn_app (goodIn_of _ (by decide +kernel)) ggX5_slides_X5_steps
theorem dX5_slides_0 : decode cX5_slides 0 = .ok (.iconst 0, 1) := by decide +kernel
theorem dX5_slides_1 : decode cX5_slides 1 = .ok (.istore 4, 2) := by decide +kernel
theorem dX5_slides_3 : decode cX5_slides 3 = .ok (.iload 4, 2) := by decide +kernel
theorem dX5_slides_5 : decode cX5_slides 5 = .ok (.iload_n 3, 1) := by decide +kernel
theorem dX5_slides_6 : decode cX5_slides 6 = .ok (.if_icmp .ge 18, 3) := by decide +kernel
theorem dX5_slides_9 : decode cX5_slides 9 = .ok (.aload_n 0, 1) := by decide +kernel
theorem dX5_slides_10 : decode cX5_slides 10 = .ok (.iload_n 1, 1) := by decide +kernel
theorem dX5_slides_11 : decode cX5_slides 11 = .ok (.iload_n 2, 1) := by decide +kernel
theorem dX5_slides_12 : decode cX5_slides 12 = .ok (.invokevirtual 95, 3) := by decide +kernel
theorem dX5_slides_15 : decode cX5_slides 15 = .ok (.ifCond .eq 9, 3) := by decide +kernel
theorem dX5_slides_18 : decode cX5_slides 18 = .ok (.iinc 4 1, 3) := by decide +kernel
theorem dX5_slides_21 : decode cX5_slides 21 = .ok (.goto (-18), 3) := by decide +kernel
theorem dX5_slides_24 : decode cX5_slides 24 = .ok (.iload 4, 2) := by decide +kernel
theorem dX5_slides_26 : decode cX5_slides 26 = .ok (.ireturn, 1) := by decide +kernel
set_option maxRecDepth 20000 in
theorem ggX5_isDirection_X5_in : GoodIn wsX5_isDirection wsX5_in := goodIn_r _ [5] (by decide +kernel) (by decide +kernel)
set_option maxRecDepth 20000 in
theorem gX5_isDirection_X5_in : GoodIn wsX5_isDirection (va_wsS RX5 26 yX5_in wsX5_in) := goodIn_app (goodIn_of _ (by decide +kernel)) ggX5_isDirection_X5_in
theorem dX5_isDirection_0 : decode cX5_isDirection 0 = .ok (.iload_n 0, 1) := by decide +kernel
theorem dX5_isDirection_1 : decode cX5_isDirection 1 = .ok (.i2l, 1) := by decide +kernel
theorem dX5_isDirection_2 : decode cX5_isDirection 2 = .ok (.lconst 0, 1) := by decide +kernel
theorem dX5_isDirection_3 : decode cX5_isDirection 3 = .ok (.ldc2_w 104, 3) := by decide +kernel
theorem dX5_isDirection_6 : decode cX5_isDirection 6 = .ok (.invokestatic 26, 3) := by decide +kernel
theorem dX5_isDirection_9 : decode cX5_isDirection 9 = .ok (.ireturn, 1) := by decide +kernel
set_option maxRecDepth 20000 in
theorem ggX5_settles_X5_slides : GoodIn wsX5_settles wsX5_slides := goodIn_r _ [6, 7, 8, 9, 5, 10, 11, 12, 13, 14, 15, 16, 17, 18, 19, 20, 1, 21, 22, 23, 24, 25, 26, 27, 28, 29, 30, 31, 32, 33, 34, 35, 36, 37, 38, 39, 40, 41, 42, 43, 44, 45, 46, 47, 48, 49, 50, 51, 52, 53, 54, 55, 56, 57, 58, 59, 60, 61, 62, 63, 64, 65, 66, 67, 68, 69, 70, 71, 72, 73, 74, 75, 76, 77, 78, 79, 80, 81, 82, 83, 84, 85, 86, 87, 88, 89, 90] (by decide +kernel) (by decide +kernel)
set_option maxRecDepth 20000 in
theorem gX5_settles_X5_slides : GoodIn wsX5_settles (wsV RX5 106 RX5 yX5_slides wsX5_slides) := goodIn_app (goodIn_of _ (by decide +kernel)) ggX5_settles_X5_slides
theorem dX5_settles_0 : decode cX5_settles 0 = .ok (.iconst 0, 1) := by decide +kernel
theorem dX5_settles_1 : decode cX5_settles 1 = .ok (.istore_n 2, 1) := by decide +kernel
theorem dX5_settles_2 : decode cX5_settles 2 = .ok (.iconst (-1), 1) := by decide +kernel
theorem dX5_settles_3 : decode cX5_settles 3 = .ok (.istore_n 3, 1) := by decide +kernel
theorem dX5_settles_4 : decode cX5_settles 4 = .ok (.iload_n 2, 1) := by decide +kernel
theorem dX5_settles_5 : decode cX5_settles 5 = .ok (.iload_n 3, 1) := by decide +kernel
theorem dX5_settles_6 : decode cX5_settles 6 = .ok (.if_icmp .eq 40, 3) := by decide +kernel
theorem dX5_settles_9 : decode cX5_settles 9 = .ok (.iload_n 2, 1) := by decide +kernel
theorem dX5_settles_10 : decode cX5_settles 10 = .ok (.istore_n 3, 1) := by decide +kernel
theorem dX5_settles_11 : decode cX5_settles 11 = .ok (.iconst 0, 1) := by decide +kernel
theorem dX5_settles_12 : decode cX5_settles 12 = .ok (.istore 4, 2) := by decide +kernel
theorem dX5_settles_14 : decode cX5_settles 14 = .ok (.iload 4, 2) := by decide +kernel
theorem dX5_settles_16 : decode cX5_settles 16 = .ok (.aload_n 0, 1) := by decide +kernel
theorem dX5_settles_17 : decode cX5_settles 17 = .ok (.getfield 7, 3) := by decide +kernel
theorem dX5_settles_20 : decode cX5_settles 20 = .ok (.iconst 2, 1) := by decide +kernel
theorem dX5_settles_21 : decode cX5_settles 21 = .ok (.iaload, 1) := by decide +kernel
theorem dX5_settles_22 : decode cX5_settles 22 = .ok (.if_icmp .ge 21, 3) := by decide +kernel
theorem dX5_settles_25 : decode cX5_settles 25 = .ok (.iload_n 2, 1) := by decide +kernel
theorem dX5_settles_26 : decode cX5_settles 26 = .ok (.aload_n 0, 1) := by decide +kernel
theorem dX5_settles_27 : decode cX5_settles 27 = .ok (.iload 4, 2) := by decide +kernel
theorem dX5_settles_29 : decode cX5_settles 29 = .ok (.iload_n 1, 1) := by decide +kernel
theorem dX5_settles_30 : decode cX5_settles 30 = .ok (.bipush 61, 2) := by decide +kernel
theorem dX5_settles_32 : decode cX5_settles 32 = .ok (.invokevirtual 106, 3) := by decide +kernel
theorem dX5_settles_35 : decode cX5_settles 35 = .ok (.iadd, 1) := by decide +kernel
theorem dX5_settles_36 : decode cX5_settles 36 = .ok (.istore_n 2, 1) := by decide +kernel
theorem dX5_settles_37 : decode cX5_settles 37 = .ok (.iinc 4 1, 3) := by decide +kernel
theorem dX5_settles_40 : decode cX5_settles 40 = .ok (.goto (-26), 3) := by decide +kernel
theorem dX5_settles_43 : decode cX5_settles 43 = .ok (.goto (-39), 3) := by decide +kernel
theorem dX5_settles_46 : decode cX5_settles 46 = .ok (.iload_n 2, 1) := by decide +kernel
theorem dX5_settles_47 : decode cX5_settles 47 = .ok (.ireturn, 1) := by decide +kernel
set_option maxRecDepth 20000 in
theorem ggX5_area_X5_corners : GoodIn wsX5_area wsX5_corners := goodIn_r _ [5, 6, 15, 16, 17, 18, 19, 20, 21, 22, 23, 24] (by decide +kernel) (by decide +kernel)
set_option maxRecDepth 20000 in
theorem gX5_area_X5_corners : GoodIn wsX5_area (wsV RX5 30 RX5 yX5_corners wsX5_corners) := goodIn_app (goodIn_of _ (by decide +kernel)) ggX5_area_X5_corners
set_option maxRecDepth 20000 in
theorem ggX5_area_X5_x : GoodIn wsX5_area wsX5_x := goodIn_r _ [10, 6, 1, 2, 3, 4, 5, 15, 16, 17, 18, 19, 20, 21, 22, 23, 24] (by decide +kernel) (by decide +kernel)
set_option maxRecDepth 20000 in
theorem gX5_area_X5_x : GoodIn wsX5_area (wsV RX5 34 RX5 yX5_x wsX5_x) := goodIn_app (goodIn_of _ (by decide +kernel)) ggX5_area_X5_x
set_option maxRecDepth 20000 in
theorem ggX5_area_X5_y : GoodIn wsX5_area wsX5_y := goodIn_r _ [14, 6, 1, 2, 3, 4, 5, 15, 16, 17, 18, 19, 20, 21, 22, 23, 24] (by decide +kernel) (by decide +kernel)
set_option maxRecDepth 20000 in
theorem gX5_area_X5_y : GoodIn wsX5_area (wsV RX5 38 RX5 yX5_y wsX5_y) := goodIn_app (goodIn_of _ (by decide +kernel)) ggX5_area_X5_y
theorem dX5_area_0 : decode cX5_area 0 = .ok (.iconst 0, 1) := by decide +kernel
theorem dX5_area_1 : decode cX5_area 1 = .ok (.istore_n 2, 1) := by decide +kernel
theorem dX5_area_2 : decode cX5_area 2 = .ok (.iconst 0, 1) := by decide +kernel
theorem dX5_area_3 : decode cX5_area 3 = .ok (.istore_n 3, 1) := by decide +kernel
theorem dX5_area_4 : decode cX5_area 4 = .ok (.iload_n 3, 1) := by decide +kernel
theorem dX5_area_5 : decode cX5_area 5 = .ok (.aload_n 0, 1) := by decide +kernel
theorem dX5_area_6 : decode cX5_area 6 = .ok (.iload_n 1, 1) := by decide +kernel
theorem dX5_area_7 : decode cX5_area 7 = .ok (.invokevirtual 30, 3) := by decide +kernel
theorem dX5_area_10 : decode cX5_area 10 = .ok (.if_icmp .ge 43, 3) := by decide +kernel
theorem dX5_area_13 : decode cX5_area 13 = .ok (.iload_n 2, 1) := by decide +kernel
theorem dX5_area_14 : decode cX5_area 14 = .ok (.aload_n 0, 1) := by decide +kernel
theorem dX5_area_15 : decode cX5_area 15 = .ok (.iload_n 1, 1) := by decide +kernel
theorem dX5_area_16 : decode cX5_area 16 = .ok (.iload_n 3, 1) := by decide +kernel
theorem dX5_area_17 : decode cX5_area 17 = .ok (.invokevirtual 34, 3) := by decide +kernel
theorem dX5_area_20 : decode cX5_area 20 = .ok (.aload_n 0, 1) := by decide +kernel
theorem dX5_area_21 : decode cX5_area 21 = .ok (.iload_n 1, 1) := by decide +kernel
theorem dX5_area_22 : decode cX5_area 22 = .ok (.iload_n 3, 1) := by decide +kernel
theorem dX5_area_23 : decode cX5_area 23 = .ok (.iconst 1, 1) := by decide +kernel
theorem dX5_area_24 : decode cX5_area 24 = .ok (.iadd, 1) := by decide +kernel
theorem dX5_area_25 : decode cX5_area 25 = .ok (.invokevirtual 38, 3) := by decide +kernel
theorem dX5_area_28 : decode cX5_area 28 = .ok (.imul, 1) := by decide +kernel
theorem dX5_area_29 : decode cX5_area 29 = .ok (.aload_n 0, 1) := by decide +kernel
theorem dX5_area_30 : decode cX5_area 30 = .ok (.iload_n 1, 1) := by decide +kernel
theorem dX5_area_31 : decode cX5_area 31 = .ok (.iload_n 3, 1) := by decide +kernel
theorem dX5_area_32 : decode cX5_area 32 = .ok (.iconst 1, 1) := by decide +kernel
theorem dX5_area_33 : decode cX5_area 33 = .ok (.iadd, 1) := by decide +kernel
theorem dX5_area_34 : decode cX5_area 34 = .ok (.invokevirtual 34, 3) := by decide +kernel
theorem dX5_area_37 : decode cX5_area 37 = .ok (.aload_n 0, 1) := by decide +kernel
theorem dX5_area_38 : decode cX5_area 38 = .ok (.iload_n 1, 1) := by decide +kernel
theorem dX5_area_39 : decode cX5_area 39 = .ok (.iload_n 3, 1) := by decide +kernel
theorem dX5_area_40 : decode cX5_area 40 = .ok (.invokevirtual 38, 3) := by decide +kernel
theorem dX5_area_43 : decode cX5_area 43 = .ok (.imul, 1) := by decide +kernel
theorem dX5_area_44 : decode cX5_area 44 = .ok (.isub, 1) := by decide +kernel
theorem dX5_area_45 : decode cX5_area 45 = .ok (.iadd, 1) := by decide +kernel
theorem dX5_area_46 : decode cX5_area 46 = .ok (.istore_n 2, 1) := by decide +kernel
theorem dX5_area_47 : decode cX5_area 47 = .ok (.iinc 3 1, 3) := by decide +kernel
theorem dX5_area_50 : decode cX5_area 50 = .ok (.goto (-46), 3) := by decide +kernel
theorem dX5_area_53 : decode cX5_area 53 = .ok (.iload_n 2, 1) := by decide +kernel
theorem dX5_area_54 : decode cX5_area 54 = .ok (.ireturn, 1) := by decide +kernel
set_option maxRecDepth 20000 in
theorem ggX5_areas_X5_area : GoodIn wsX5_areas wsX5_area := goodIn_r _ [6, 7, 8, 9, 5, 10, 1, 11, 12, 13, 14, 15, 16, 17, 18, 19, 20, 21, 22, 23, 24, 25, 26, 27, 28] (by decide +kernel) (by decide +kernel)
set_option maxRecDepth 20000 in
theorem gX5_areas_X5_area : GoodIn wsX5_areas (wsV RX5 109 RX5 yX5_area wsX5_area) := goodIn_app (goodIn_of _ (by decide +kernel)) ggX5_areas_X5_area
theorem dX5_areas_0 : decode cX5_areas 0 = .ok (.iconst 0, 1) := by decide +kernel
theorem dX5_areas_1 : decode cX5_areas 1 = .ok (.istore_n 1, 1) := by decide +kernel
theorem dX5_areas_2 : decode cX5_areas 2 = .ok (.iconst 0, 1) := by decide +kernel
theorem dX5_areas_3 : decode cX5_areas 3 = .ok (.istore_n 2, 1) := by decide +kernel
theorem dX5_areas_4 : decode cX5_areas 4 = .ok (.iload_n 2, 1) := by decide +kernel
theorem dX5_areas_5 : decode cX5_areas 5 = .ok (.aload_n 0, 1) := by decide +kernel
theorem dX5_areas_6 : decode cX5_areas 6 = .ok (.getfield 7, 3) := by decide +kernel
theorem dX5_areas_9 : decode cX5_areas 9 = .ok (.iconst 2, 1) := by decide +kernel
theorem dX5_areas_10 : decode cX5_areas 10 = .ok (.iaload, 1) := by decide +kernel
theorem dX5_areas_11 : decode cX5_areas 11 = .ok (.if_icmp .ge 17, 3) := by decide +kernel
theorem dX5_areas_14 : decode cX5_areas 14 = .ok (.iload_n 1, 1) := by decide +kernel
theorem dX5_areas_15 : decode cX5_areas 15 = .ok (.aload_n 0, 1) := by decide +kernel
theorem dX5_areas_16 : decode cX5_areas 16 = .ok (.iload_n 2, 1) := by decide +kernel
theorem dX5_areas_17 : decode cX5_areas 17 = .ok (.invokevirtual 109, 3) := by decide +kernel
theorem dX5_areas_20 : decode cX5_areas 20 = .ok (.iadd, 1) := by decide +kernel
theorem dX5_areas_21 : decode cX5_areas 21 = .ok (.istore_n 1, 1) := by decide +kernel
theorem dX5_areas_22 : decode cX5_areas 22 = .ok (.iinc 2 1, 3) := by decide +kernel
theorem dX5_areas_25 : decode cX5_areas 25 = .ok (.goto (-21), 3) := by decide +kernel
theorem dX5_areas_28 : decode cX5_areas 28 = .ok (.iload_n 1, 1) := by decide +kernel
theorem dX5_areas_29 : decode cX5_areas 29 = .ok (.ireturn, 1) := by decide +kernel
theorem dX5_copyBody_0 : decode cX5_copyBody 0 = .ok (.aload_n 0, 1) := by decide +kernel
theorem dX5_copyBody_1 : decode cX5_copyBody 1 = .ok (.getfield 7, 3) := by decide +kernel
theorem dX5_copyBody_4 : decode cX5_copyBody 4 = .ok (.iconst 3, 1) := by decide +kernel
theorem dX5_copyBody_5 : decode cX5_copyBody 5 = .ok (.iload_n 2, 1) := by decide +kernel
theorem dX5_copyBody_6 : decode cX5_copyBody 6 = .ok (.iadd, 1) := by decide +kernel
theorem dX5_copyBody_7 : decode cX5_copyBody 7 = .ok (.aload_n 0, 1) := by decide +kernel
theorem dX5_copyBody_8 : decode cX5_copyBody 8 = .ok (.getfield 7, 3) := by decide +kernel
theorem dX5_copyBody_11 : decode cX5_copyBody 11 = .ok (.iconst 3, 1) := by decide +kernel
theorem dX5_copyBody_12 : decode cX5_copyBody 12 = .ok (.iload_n 1, 1) := by decide +kernel
theorem dX5_copyBody_13 : decode cX5_copyBody 13 = .ok (.iadd, 1) := by decide +kernel
theorem dX5_copyBody_14 : decode cX5_copyBody 14 = .ok (.iaload, 1) := by decide +kernel
theorem dX5_copyBody_15 : decode cX5_copyBody 15 = .ok (.iastore, 1) := by decide +kernel
theorem dX5_copyBody_16 : decode cX5_copyBody 16 = .ok (.iconst 0, 1) := by decide +kernel
theorem dX5_copyBody_17 : decode cX5_copyBody 17 = .ok (.istore_n 3, 1) := by decide +kernel
theorem dX5_copyBody_18 : decode cX5_copyBody 18 = .ok (.iload_n 3, 1) := by decide +kernel
theorem dX5_copyBody_19 : decode cX5_copyBody 19 = .ok (.bipush 6, 2) := by decide +kernel
theorem dX5_copyBody_21 : decode cX5_copyBody 21 = .ok (.if_icmp .ge 65, 3) := by decide +kernel
theorem dX5_copyBody_24 : decode cX5_copyBody 24 = .ok (.aload_n 0, 1) := by decide +kernel
theorem dX5_copyBody_25 : decode cX5_copyBody 25 = .ok (.getfield 7, 3) := by decide +kernel
theorem dX5_copyBody_28 : decode cX5_copyBody 28 = .ok (.bipush 12, 2) := by decide +kernel
theorem dX5_copyBody_30 : decode cX5_copyBody 30 = .ok (.bipush 6, 2) := by decide +kernel
theorem dX5_copyBody_32 : decode cX5_copyBody 32 = .ok (.iload_n 2, 1) := by decide +kernel
theorem dX5_copyBody_33 : decode cX5_copyBody 33 = .ok (.imul, 1) := by decide +kernel
theorem dX5_copyBody_34 : decode cX5_copyBody 34 = .ok (.iadd, 1) := by decide +kernel
theorem dX5_copyBody_35 : decode cX5_copyBody 35 = .ok (.iload_n 3, 1) := by decide +kernel
theorem dX5_copyBody_36 : decode cX5_copyBody 36 = .ok (.iadd, 1) := by decide +kernel
theorem dX5_copyBody_37 : decode cX5_copyBody 37 = .ok (.aload_n 0, 1) := by decide +kernel
theorem dX5_copyBody_38 : decode cX5_copyBody 38 = .ok (.getfield 7, 3) := by decide +kernel
theorem dX5_copyBody_41 : decode cX5_copyBody 41 = .ok (.bipush 12, 2) := by decide +kernel
theorem dX5_copyBody_43 : decode cX5_copyBody 43 = .ok (.bipush 6, 2) := by decide +kernel
theorem dX5_copyBody_45 : decode cX5_copyBody 45 = .ok (.iload_n 1, 1) := by decide +kernel
theorem dX5_copyBody_46 : decode cX5_copyBody 46 = .ok (.imul, 1) := by decide +kernel
theorem dX5_copyBody_47 : decode cX5_copyBody 47 = .ok (.iadd, 1) := by decide +kernel
theorem dX5_copyBody_48 : decode cX5_copyBody 48 = .ok (.iload_n 3, 1) := by decide +kernel
theorem dX5_copyBody_49 : decode cX5_copyBody 49 = .ok (.iadd, 1) := by decide +kernel
theorem dX5_copyBody_50 : decode cX5_copyBody 50 = .ok (.iaload, 1) := by decide +kernel
theorem dX5_copyBody_51 : decode cX5_copyBody 51 = .ok (.iastore, 1) := by decide +kernel
theorem dX5_copyBody_52 : decode cX5_copyBody 52 = .ok (.aload_n 0, 1) := by decide +kernel
theorem dX5_copyBody_53 : decode cX5_copyBody 53 = .ok (.getfield 7, 3) := by decide +kernel
theorem dX5_copyBody_56 : decode cX5_copyBody 56 = .ok (.bipush 66, 2) := by decide +kernel
theorem dX5_copyBody_58 : decode cX5_copyBody 58 = .ok (.bipush 6, 2) := by decide +kernel
theorem dX5_copyBody_60 : decode cX5_copyBody 60 = .ok (.iload_n 2, 1) := by decide +kernel
theorem dX5_copyBody_61 : decode cX5_copyBody 61 = .ok (.imul, 1) := by decide +kernel
theorem dX5_copyBody_62 : decode cX5_copyBody 62 = .ok (.iadd, 1) := by decide +kernel
theorem dX5_copyBody_63 : decode cX5_copyBody 63 = .ok (.iload_n 3, 1) := by decide +kernel
theorem dX5_copyBody_64 : decode cX5_copyBody 64 = .ok (.iadd, 1) := by decide +kernel
theorem dX5_copyBody_65 : decode cX5_copyBody 65 = .ok (.aload_n 0, 1) := by decide +kernel
theorem dX5_copyBody_66 : decode cX5_copyBody 66 = .ok (.getfield 7, 3) := by decide +kernel
theorem dX5_copyBody_69 : decode cX5_copyBody 69 = .ok (.bipush 66, 2) := by decide +kernel
theorem dX5_copyBody_71 : decode cX5_copyBody 71 = .ok (.bipush 6, 2) := by decide +kernel
theorem dX5_copyBody_73 : decode cX5_copyBody 73 = .ok (.iload_n 1, 1) := by decide +kernel
theorem dX5_copyBody_74 : decode cX5_copyBody 74 = .ok (.imul, 1) := by decide +kernel
theorem dX5_copyBody_75 : decode cX5_copyBody 75 = .ok (.iadd, 1) := by decide +kernel
theorem dX5_copyBody_76 : decode cX5_copyBody 76 = .ok (.iload_n 3, 1) := by decide +kernel
theorem dX5_copyBody_77 : decode cX5_copyBody 77 = .ok (.iadd, 1) := by decide +kernel
theorem dX5_copyBody_78 : decode cX5_copyBody 78 = .ok (.iaload, 1) := by decide +kernel
theorem dX5_copyBody_79 : decode cX5_copyBody 79 = .ok (.iastore, 1) := by decide +kernel
theorem dX5_copyBody_80 : decode cX5_copyBody 80 = .ok (.iinc 3 1, 3) := by decide +kernel
theorem dX5_copyBody_83 : decode cX5_copyBody 83 = .ok (.goto (-65), 3) := by decide +kernel
theorem dX5_copyBody_86 : decode cX5_copyBody 86 = .ok (.return_, 1) := by decide +kernel
set_option maxRecDepth 20000 in
theorem ggX5_takesOut_X5_copyBody : GoodIn wsX5_takesOut wsX5_copyBody := goodIn_r _ [6, 1, 7, 8, 9, 10, 11, 12, 13, 14, 15, 16] (by decide +kernel) (by decide +kernel)
set_option maxRecDepth 20000 in
theorem gX5_takesOut_X5_copyBody : GoodIn wsX5_takesOut (wsV RX5 112 RX5 yX5_copyBody wsX5_copyBody) := goodIn_app (goodIn_of _ (by decide +kernel)) ggX5_takesOut_X5_copyBody
theorem dX5_takesOut_0 : decode cX5_takesOut 0 = .ok (.aload_n 0, 1) := by decide +kernel
theorem dX5_takesOut_1 : decode cX5_takesOut 1 = .ok (.getfield 7, 3) := by decide +kernel
theorem dX5_takesOut_4 : decode cX5_takesOut 4 = .ok (.iconst 2, 1) := by decide +kernel
theorem dX5_takesOut_5 : decode cX5_takesOut 5 = .ok (.dup2, 1) := by decide +kernel
theorem dX5_takesOut_6 : decode cX5_takesOut 6 = .ok (.iaload, 1) := by decide +kernel
theorem dX5_takesOut_7 : decode cX5_takesOut 7 = .ok (.iconst 1, 1) := by decide +kernel
theorem dX5_takesOut_8 : decode cX5_takesOut 8 = .ok (.isub, 1) := by decide +kernel
theorem dX5_takesOut_9 : decode cX5_takesOut 9 = .ok (.iastore, 1) := by decide +kernel
theorem dX5_takesOut_10 : decode cX5_takesOut 10 = .ok (.iload_n 1, 1) := by decide +kernel
theorem dX5_takesOut_11 : decode cX5_takesOut 11 = .ok (.istore_n 2, 1) := by decide +kernel
theorem dX5_takesOut_12 : decode cX5_takesOut 12 = .ok (.iload_n 2, 1) := by decide +kernel
theorem dX5_takesOut_13 : decode cX5_takesOut 13 = .ok (.aload_n 0, 1) := by decide +kernel
theorem dX5_takesOut_14 : decode cX5_takesOut 14 = .ok (.getfield 7, 3) := by decide +kernel
theorem dX5_takesOut_17 : decode cX5_takesOut 17 = .ok (.iconst 2, 1) := by decide +kernel
theorem dX5_takesOut_18 : decode cX5_takesOut 18 = .ok (.iaload, 1) := by decide +kernel
theorem dX5_takesOut_19 : decode cX5_takesOut 19 = .ok (.if_icmp .ge 17, 3) := by decide +kernel
theorem dX5_takesOut_22 : decode cX5_takesOut 22 = .ok (.aload_n 0, 1) := by decide +kernel
theorem dX5_takesOut_23 : decode cX5_takesOut 23 = .ok (.iload_n 2, 1) := by decide +kernel
theorem dX5_takesOut_24 : decode cX5_takesOut 24 = .ok (.iconst 1, 1) := by decide +kernel
theorem dX5_takesOut_25 : decode cX5_takesOut 25 = .ok (.iadd, 1) := by decide +kernel
theorem dX5_takesOut_26 : decode cX5_takesOut 26 = .ok (.iload_n 2, 1) := by decide +kernel
theorem dX5_takesOut_27 : decode cX5_takesOut 27 = .ok (.invokevirtual 112, 3) := by decide +kernel
theorem dX5_takesOut_30 : decode cX5_takesOut 30 = .ok (.iinc 2 1, 3) := by decide +kernel
theorem dX5_takesOut_33 : decode cX5_takesOut 33 = .ok (.goto (-21), 3) := by decide +kernel
theorem dX5_takesOut_36 : decode cX5_takesOut 36 = .ok (.return_, 1) := by decide +kernel
set_option maxRecDepth 20000 in
theorem ggX5_box_X5_in : GoodIn wsX5_box wsX5_in := goodIn_r _ [9] (by decide +kernel) (by decide +kernel)
set_option maxRecDepth 20000 in
theorem gX5_box_X5_in : GoodIn wsX5_box (va_wsS RX5 26 yX5_in wsX5_in) := goodIn_app (goodIn_of _ (by decide +kernel)) ggX5_box_X5_in
set_option maxRecDepth 20000 in
theorem ggX5_box_X5_greatestX : GoodIn wsX5_box wsX5_greatestX := goodIn_r _ [13, 14, 15, 16, 8, 17, 4, 18, 19, 20, 21, 37, 38, 39, 40, 41, 42, 43, 44, 45, 46] (by decide +kernel) (by decide +kernel)
set_option maxRecDepth 20000 in
theorem gX5_box_X5_greatestX : GoodIn wsX5_box (wsV RX5 66 RX5 yX5_greatestX wsX5_greatestX) := goodIn_app (goodIn_of _ (by decide +kernel)) ggX5_box_X5_greatestX
set_option maxRecDepth 20000 in
theorem ggX5_box_X5_greatestY : GoodIn wsX5_box wsX5_greatestY := goodIn_r _ [25, 14, 15, 16, 8, 17, 4, 18, 19, 20, 21, 37, 38, 39, 40, 41, 42, 43, 44, 45, 46] (by decide +kernel) (by decide +kernel)
set_option maxRecDepth 20000 in
theorem gX5_box_X5_greatestY : GoodIn wsX5_box (wsV RX5 72 RX5 yX5_greatestY wsX5_greatestY) := goodIn_app (goodIn_of _ (by decide +kernel)) ggX5_box_X5_greatestY
set_option maxRecDepth 20000 in
theorem ggX5_box_X5_keep : GoodIn wsX5_box wsX5_keep := goodIn_r _ [29, 30, 4, 37, 38, 39, 40, 41, 42, 43, 44, 45, 46] (by decide +kernel) (by decide +kernel)
set_option maxRecDepth 20000 in
theorem gX5_box_X5_keep : GoodIn wsX5_box (wsV RX5 122 RX5 yX5_keep wsX5_keep) := goodIn_app (goodIn_of _ (by decide +kernel)) ggX5_box_X5_keep
set_option maxRecDepth 20000 in
theorem ggX5_box_X5_changed : GoodIn wsX5_box wsX5_changed := goodIn_r _ [34, 35, 36, 30, 37, 38, 39, 40, 41, 42, 43, 44, 45, 46] (by decide +kernel) (by decide +kernel)
set_option maxRecDepth 20000 in
theorem gX5_box_X5_changed : GoodIn wsX5_box (wsV RX5 125 RX5 yX5_changed wsX5_changed) := goodIn_app (goodIn_of _ (by decide +kernel)) ggX5_box_X5_changed
theorem dX5_box_0 : decode cX5_box 0 = .ok (.iload_n 1, 1) := by decide +kernel
theorem dX5_box_1 : decode cX5_box 1 = .ok (.i2l, 1) := by decide +kernel
theorem dX5_box_2 : decode cX5_box 2 = .ok (.ldc2_w 116, 3) := by decide +kernel
theorem dX5_box_5 : decode cX5_box 5 = .ok (.ldc2_w 118, 3) := by decide +kernel
theorem dX5_box_8 : decode cX5_box 8 = .ok (.invokestatic 26, 3) := by decide +kernel
theorem dX5_box_11 : decode cX5_box 11 = .ok (.ifCond .eq 17, 3) := by decide +kernel
theorem dX5_box_14 : decode cX5_box 14 = .ok (.iload_n 2, 1) := by decide +kernel
theorem dX5_box_15 : decode cX5_box 15 = .ok (.i2l, 1) := by decide +kernel
theorem dX5_box_16 : decode cX5_box 16 = .ok (.ldc2_w 116, 3) := by decide +kernel
theorem dX5_box_19 : decode cX5_box 19 = .ok (.ldc2_w 118, 3) := by decide +kernel
theorem dX5_box_22 : decode cX5_box 22 = .ok (.invokestatic 26, 3) := by decide +kernel
theorem dX5_box_25 : decode cX5_box 25 = .ok (.ifCond .ne 6, 3) := by decide +kernel
theorem dX5_box_28 : decode cX5_box 28 = .ok (.ldc 120, 2) := by decide +kernel
theorem dX5_box_30 : decode cX5_box 30 = .ok (.ireturn, 1) := by decide +kernel
theorem dX5_box_31 : decode cX5_box 31 = .ok (.iconst 0, 1) := by decide +kernel
theorem dX5_box_32 : decode cX5_box 32 = .ok (.istore_n 3, 1) := by decide +kernel
theorem dX5_box_33 : decode cX5_box 33 = .ok (.iload_n 3, 1) := by decide +kernel
end
section
theorem dX5_box_34 : decode cX5_box 34 = .ok (.aload_n 0, 1) := by decide +kernel
theorem dX5_box_35 : decode cX5_box 35 = .ok (.getfield 7, 3) := by decide +kernel
theorem dX5_box_38 : decode cX5_box 38 = .ok (.iconst 2, 1) := by decide +kernel
theorem dX5_box_39 : decode cX5_box 39 = .ok (.iaload, 1) := by decide +kernel
theorem dX5_box_40 : decode cX5_box 40 = .ok (.if_icmp .ge 30, 3) := by decide +kernel
theorem dX5_box_43 : decode cX5_box 43 = .ok (.aload_n 0, 1) := by decide +kernel
theorem dX5_box_44 : decode cX5_box 44 = .ok (.iload_n 3, 1) := by decide +kernel
theorem dX5_box_45 : decode cX5_box 45 = .ok (.invokevirtual 66, 3) := by decide +kernel
theorem dX5_box_48 : decode cX5_box 48 = .ok (.iload_n 1, 1) := by decide +kernel
theorem dX5_box_49 : decode cX5_box 49 = .ok (.if_icmp .gt 12, 3) := by decide +kernel
theorem dX5_box_52 : decode cX5_box 52 = .ok (.aload_n 0, 1) := by decide +kernel
theorem dX5_box_53 : decode cX5_box 53 = .ok (.iload_n 3, 1) := by decide +kernel
theorem dX5_box_54 : decode cX5_box 54 = .ok (.invokevirtual 72, 3) := by decide +kernel
theorem dX5_box_57 : decode cX5_box 57 = .ok (.iload_n 2, 1) := by decide +kernel
theorem dX5_box_58 : decode cX5_box 58 = .ok (.if_icmp .le 6, 3) := by decide +kernel
theorem dX5_box_61 : decode cX5_box 61 = .ok (.ldc 121, 2) := by decide +kernel
theorem dX5_box_63 : decode cX5_box 63 = .ok (.ireturn, 1) := by decide +kernel
theorem dX5_box_64 : decode cX5_box 64 = .ok (.iinc 3 1, 3) := by decide +kernel
theorem dX5_box_67 : decode cX5_box 67 = .ok (.goto (-34), 3) := by decide +kernel
theorem dX5_box_70 : decode cX5_box 70 = .ok (.aload_n 0, 1) := by decide +kernel
theorem dX5_box_71 : decode cX5_box 71 = .ok (.invokevirtual 122, 3) := by decide +kernel
theorem dX5_box_74 : decode cX5_box 74 = .ok (.bipush 100, 2) := by decide +kernel
theorem dX5_box_76 : decode cX5_box 76 = .ok (.aload_n 0, 1) := by decide +kernel
theorem dX5_box_77 : decode cX5_box 77 = .ok (.getfield 7, 3) := by decide +kernel
theorem dX5_box_80 : decode cX5_box 80 = .ok (.iconst 0, 1) := by decide +kernel
theorem dX5_box_81 : decode cX5_box 81 = .ok (.iaload, 1) := by decide +kernel
theorem dX5_box_82 : decode cX5_box 82 = .ok (.imul, 1) := by decide +kernel
theorem dX5_box_83 : decode cX5_box 83 = .ok (.aload_n 0, 1) := by decide +kernel
theorem dX5_box_84 : decode cX5_box 84 = .ok (.getfield 7, 3) := by decide +kernel
theorem dX5_box_87 : decode cX5_box 87 = .ok (.iconst 1, 1) := by decide +kernel
theorem dX5_box_88 : decode cX5_box 88 = .ok (.iaload, 1) := by decide +kernel
theorem dX5_box_89 : decode cX5_box 89 = .ok (.iadd, 1) := by decide +kernel
theorem dX5_box_90 : decode cX5_box 90 = .ok (.istore_n 3, 1) := by decide +kernel
theorem dX5_box_91 : decode cX5_box 91 = .ok (.aload_n 0, 1) := by decide +kernel
theorem dX5_box_92 : decode cX5_box 92 = .ok (.getfield 7, 3) := by decide +kernel
theorem dX5_box_95 : decode cX5_box 95 = .ok (.iconst 0, 1) := by decide +kernel
theorem dX5_box_96 : decode cX5_box 96 = .ok (.iload_n 1, 1) := by decide +kernel
theorem dX5_box_97 : decode cX5_box 97 = .ok (.iastore, 1) := by decide +kernel
theorem dX5_box_98 : decode cX5_box 98 = .ok (.aload_n 0, 1) := by decide +kernel
theorem dX5_box_99 : decode cX5_box 99 = .ok (.getfield 7, 3) := by decide +kernel
theorem dX5_box_102 : decode cX5_box 102 = .ok (.iconst 1, 1) := by decide +kernel
theorem dX5_box_103 : decode cX5_box 103 = .ok (.iload_n 2, 1) := by decide +kernel
theorem dX5_box_104 : decode cX5_box 104 = .ok (.iastore, 1) := by decide +kernel
theorem dX5_box_105 : decode cX5_box 105 = .ok (.aload_n 0, 1) := by decide +kernel
theorem dX5_box_106 : decode cX5_box 106 = .ok (.iload_n 3, 1) := by decide +kernel
theorem dX5_box_107 : decode cX5_box 107 = .ok (.invokevirtual 125, 3) := by decide +kernel
theorem dX5_box_110 : decode cX5_box 110 = .ok (.ireturn, 1) := by decide +kernel
set_option maxRecDepth 20000 in
theorem ggX5_put_X5_hasFault : GoodIn wsX5_put wsX5_hasFault := goodIn_r _ [8, 9, 10, 11, 12, 7, 13, 2, 14, 15, 16, 17, 18, 19, 20, 21, 22, 23, 24, 25, 26, 27, 28, 29, 30, 31, 32, 33, 34, 35, 36, 37, 38, 39, 40, 41, 42, 43, 44, 45, 46, 47, 48, 49, 50, 51, 52, 53, 54, 55, 56, 57, 58, 59, 60, 61, 62, 63, 64, 65, 66, 67, 68, 69, 70, 71, 72, 73, 74, 75, 76, 77, 78, 79, 95, 96, 97, 98, 99, 100, 101, 102, 103, 104] (by decide +kernel) (by decide +kernel)
set_option maxRecDepth 20000 in
theorem gX5_put_X5_hasFault : GoodIn wsX5_put (wsV RX5 128 RX5 yX5_hasFault wsX5_hasFault) := goodIn_app (goodIn_of _ (by decide +kernel)) ggX5_put_X5_hasFault
set_option maxRecDepth 20000 in
theorem ggX5_put_X5_keep : GoodIn wsX5_put wsX5_keep := goodIn_r _ [83, 84, 2, 95, 96, 97, 98, 99, 100, 101, 102, 103, 104] (by decide +kernel) (by decide +kernel)
set_option maxRecDepth 20000 in
theorem gX5_put_X5_keep : GoodIn wsX5_put (wsV RX5 122 RX5 yX5_keep wsX5_keep) := goodIn_app (goodIn_of _ (by decide +kernel)) ggX5_put_X5_keep
set_option maxRecDepth 20000 in
theorem ggX5_put_X5_copyBody : GoodIn wsX5_put wsX5_copyBody := goodIn_r _ [88, 2, 95, 96, 97, 98, 99, 100, 101, 102, 103, 104] (by decide +kernel) (by decide +kernel)
set_option maxRecDepth 20000 in
theorem gX5_put_X5_copyBody : GoodIn wsX5_put (wsV RX5 112 RX5 yX5_copyBody wsX5_copyBody) := goodIn_app (goodIn_of _ (by decide +kernel)) ggX5_put_X5_copyBody
set_option maxRecDepth 20000 in
theorem ggX5_put_X5_changed : GoodIn wsX5_put wsX5_changed := goodIn_r _ [92, 93, 94, 84, 95, 96, 97, 98, 99, 100, 101, 102, 103, 104] (by decide +kernel) (by decide +kernel)
set_option maxRecDepth 20000 in
theorem gX5_put_X5_changed : GoodIn wsX5_put (wsV RX5 125 RX5 yX5_changed wsX5_changed) := goodIn_app (goodIn_of _ (by decide +kernel)) ggX5_put_X5_changed
theorem dX5_put_0 : decode cX5_put 0 = .ok (.aload_n 0, 1) := by decide +kernel
theorem dX5_put_1 : decode cX5_put 1 = .ok (.invokevirtual 128, 3) := by decide +kernel
theorem dX5_put_4 : decode cX5_put 4 = .ok (.ifCond .eq 6, 3) := by decide +kernel
theorem dX5_put_7 : decode cX5_put 7 = .ok (.ldc 121, 2) := by decide +kernel
theorem dX5_put_9 : decode cX5_put 9 = .ok (.ireturn, 1) := by decide +kernel
theorem dX5_put_10 : decode cX5_put 10 = .ok (.aload_n 0, 1) := by decide +kernel
theorem dX5_put_11 : decode cX5_put 11 = .ok (.getfield 7, 3) := by decide +kernel
theorem dX5_put_14 : decode cX5_put 14 = .ok (.iconst 2, 1) := by decide +kernel
theorem dX5_put_15 : decode cX5_put 15 = .ok (.iaload, 1) := by decide +kernel
theorem dX5_put_16 : decode cX5_put 16 = .ok (.bipush 8, 2) := by decide +kernel
theorem dX5_put_18 : decode cX5_put 18 = .ok (.if_icmp .ne 6, 3) := by decide +kernel
theorem dX5_put_21 : decode cX5_put 21 = .ok (.ldc 132, 2) := by decide +kernel
theorem dX5_put_23 : decode cX5_put 23 = .ok (.ireturn, 1) := by decide +kernel
theorem dX5_put_24 : decode cX5_put 24 = .ok (.aload_n 0, 1) := by decide +kernel
theorem dX5_put_25 : decode cX5_put 25 = .ok (.invokevirtual 122, 3) := by decide +kernel
theorem dX5_put_28 : decode cX5_put 28 = .ok (.aload_n 0, 1) := by decide +kernel
theorem dX5_put_29 : decode cX5_put 29 = .ok (.bipush 8, 2) := by decide +kernel
theorem dX5_put_31 : decode cX5_put 31 = .ok (.aload_n 0, 1) := by decide +kernel
theorem dX5_put_32 : decode cX5_put 32 = .ok (.getfield 7, 3) := by decide +kernel
theorem dX5_put_35 : decode cX5_put 35 = .ok (.iconst 2, 1) := by decide +kernel
theorem dX5_put_36 : decode cX5_put 36 = .ok (.iaload, 1) := by decide +kernel
theorem dX5_put_37 : decode cX5_put 37 = .ok (.invokevirtual 112, 3) := by decide +kernel
theorem dX5_put_40 : decode cX5_put 40 = .ok (.aload_n 0, 1) := by decide +kernel
theorem dX5_put_41 : decode cX5_put 41 = .ok (.getfield 7, 3) := by decide +kernel
theorem dX5_put_44 : decode cX5_put 44 = .ok (.iconst 2, 1) := by decide +kernel
theorem dX5_put_45 : decode cX5_put 45 = .ok (.dup2, 1) := by decide +kernel
theorem dX5_put_46 : decode cX5_put 46 = .ok (.iaload, 1) := by decide +kernel
theorem dX5_put_47 : decode cX5_put 47 = .ok (.iconst 1, 1) := by decide +kernel
theorem dX5_put_48 : decode cX5_put 48 = .ok (.iadd, 1) := by decide +kernel
theorem dX5_put_49 : decode cX5_put 49 = .ok (.iastore, 1) := by decide +kernel
theorem dX5_put_50 : decode cX5_put 50 = .ok (.aload_n 0, 1) := by decide +kernel
theorem dX5_put_51 : decode cX5_put 51 = .ok (.aload_n 0, 1) := by decide +kernel
theorem dX5_put_52 : decode cX5_put 52 = .ok (.getfield 7, 3) := by decide +kernel
theorem dX5_put_55 : decode cX5_put 55 = .ok (.iconst 2, 1) := by decide +kernel
theorem dX5_put_56 : decode cX5_put 56 = .ok (.iaload, 1) := by decide +kernel
theorem dX5_put_57 : decode cX5_put 57 = .ok (.iconst 1, 1) := by decide +kernel
theorem dX5_put_58 : decode cX5_put 58 = .ok (.isub, 1) := by decide +kernel
theorem dX5_put_59 : decode cX5_put 59 = .ok (.invokevirtual 125, 3) := by decide +kernel
theorem dX5_put_62 : decode cX5_put 62 = .ok (.ireturn, 1) := by decide +kernel
set_option maxRecDepth 20000 in
theorem ggX5_remove_X5_isBody : GoodIn wsX5_remove wsX5_isBody := goodIn_r _ [7, 2, 8, 9, 6, 10, 30, 31, 32, 33, 34, 35, 36, 37, 38, 39] (by decide +kernel) (by decide +kernel)
set_option maxRecDepth 20000 in
theorem gX5_remove_X5_isBody : GoodIn wsX5_remove (wsV RX5 133 RX5 yX5_isBody wsX5_isBody) := goodIn_app (goodIn_of _ (by decide +kernel)) ggX5_remove_X5_isBody
set_option maxRecDepth 20000 in
theorem ggX5_remove_X5_keep : GoodIn wsX5_remove wsX5_keep := goodIn_r _ [14, 15, 2, 30, 31, 32, 33, 34, 35, 36, 37, 38, 39] (by decide +kernel) (by decide +kernel)
set_option maxRecDepth 20000 in
theorem gX5_remove_X5_keep : GoodIn wsX5_remove (wsV RX5 122 RX5 yX5_keep wsX5_keep) := goodIn_app (goodIn_of _ (by decide +kernel)) ggX5_remove_X5_keep
set_option maxRecDepth 20000 in
theorem ggX5_remove_X5_takesOut : GoodIn wsX5_remove wsX5_takesOut := goodIn_r _ [19, 2, 20, 21, 22, 6, 23, 30, 31, 32, 33, 34, 35, 36, 37, 38, 39] (by decide +kernel) (by decide +kernel)
set_option maxRecDepth 20000 in
theorem gX5_remove_X5_takesOut : GoodIn wsX5_remove (wsV RX5 136 RX5 yX5_takesOut wsX5_takesOut) := goodIn_app (goodIn_of _ (by decide +kernel)) ggX5_remove_X5_takesOut
set_option maxRecDepth 20000 in
theorem ggX5_remove_X5_changed : GoodIn wsX5_remove wsX5_changed := goodIn_r _ [27, 28, 29, 15, 30, 31, 32, 33, 34, 35, 36, 37, 38, 39] (by decide +kernel) (by decide +kernel)
set_option maxRecDepth 20000 in
theorem gX5_remove_X5_changed : GoodIn wsX5_remove (wsV RX5 125 RX5 yX5_changed wsX5_changed) := goodIn_app (goodIn_of _ (by decide +kernel)) ggX5_remove_X5_changed
theorem dX5_remove_0 : decode cX5_remove 0 = .ok (.aload_n 0, 1) := by decide +kernel
theorem dX5_remove_1 : decode cX5_remove 1 = .ok (.iload_n 1, 1) := by decide +kernel
theorem dX5_remove_2 : decode cX5_remove 2 = .ok (.invokevirtual 133, 3) := by decide +kernel
theorem dX5_remove_5 : decode cX5_remove 5 = .ok (.ifCond .ne 6, 3) := by decide +kernel
theorem dX5_remove_8 : decode cX5_remove 8 = .ok (.ldc 120, 2) := by decide +kernel
theorem dX5_remove_10 : decode cX5_remove 10 = .ok (.ireturn, 1) := by decide +kernel
theorem dX5_remove_11 : decode cX5_remove 11 = .ok (.aload_n 0, 1) := by decide +kernel
theorem dX5_remove_12 : decode cX5_remove 12 = .ok (.invokevirtual 122, 3) := by decide +kernel
theorem dX5_remove_15 : decode cX5_remove 15 = .ok (.aload_n 0, 1) := by decide +kernel
theorem dX5_remove_16 : decode cX5_remove 16 = .ok (.iload_n 1, 1) := by decide +kernel
theorem dX5_remove_17 : decode cX5_remove 17 = .ok (.invokevirtual 136, 3) := by decide +kernel
theorem dX5_remove_20 : decode cX5_remove 20 = .ok (.aload_n 0, 1) := by decide +kernel
theorem dX5_remove_21 : decode cX5_remove 21 = .ok (.aload_n 0, 1) := by decide +kernel
theorem dX5_remove_22 : decode cX5_remove 22 = .ok (.getfield 7, 3) := by decide +kernel
theorem dX5_remove_25 : decode cX5_remove 25 = .ok (.iconst 2, 1) := by decide +kernel
theorem dX5_remove_26 : decode cX5_remove 26 = .ok (.iaload, 1) := by decide +kernel
theorem dX5_remove_27 : decode cX5_remove 27 = .ok (.invokevirtual 125, 3) := by decide +kernel
theorem dX5_remove_30 : decode cX5_remove 30 = .ok (.ireturn, 1) := by decide +kernel
set_option maxRecDepth 20000 in
theorem ggX5_empty_X5_keep : GoodIn wsX5_empty wsX5_keep := goodIn_r _ [6, 7, 1, 14, 15, 16, 17, 18, 19, 20, 21, 22, 23] (by decide +kernel) (by decide +kernel)
set_option maxRecDepth 20000 in
theorem gX5_empty_X5_keep : GoodIn wsX5_empty (wsV RX5 122 RX5 yX5_keep wsX5_keep) := goodIn_app (goodIn_of _ (by decide +kernel)) ggX5_empty_X5_keep
set_option maxRecDepth 20000 in
theorem ggX5_empty_X5_changed : GoodIn wsX5_empty wsX5_changed := goodIn_r _ [11, 12, 13, 7, 14, 15, 16, 17, 18, 19, 20, 21, 22, 23] (by decide +kernel) (by decide +kernel)
set_option maxRecDepth 20000 in
theorem gX5_empty_X5_changed : GoodIn wsX5_empty (wsV RX5 125 RX5 yX5_changed wsX5_changed) := goodIn_app (goodIn_of _ (by decide +kernel)) ggX5_empty_X5_changed
theorem dX5_empty_0 : decode cX5_empty 0 = .ok (.aload_n 0, 1) := by decide +kernel
theorem dX5_empty_1 : decode cX5_empty 1 = .ok (.invokevirtual 122, 3) := by decide +kernel
theorem dX5_empty_4 : decode cX5_empty 4 = .ok (.aload_n 0, 1) := by decide +kernel
theorem dX5_empty_5 : decode cX5_empty 5 = .ok (.getfield 7, 3) := by decide +kernel
theorem dX5_empty_8 : decode cX5_empty 8 = .ok (.iconst 2, 1) := by decide +kernel
theorem dX5_empty_9 : decode cX5_empty 9 = .ok (.iaload, 1) := by decide +kernel
theorem dX5_empty_10 : decode cX5_empty 10 = .ok (.istore_n 1, 1) := by decide +kernel
theorem dX5_empty_11 : decode cX5_empty 11 = .ok (.aload_n 0, 1) := by decide +kernel
theorem dX5_empty_12 : decode cX5_empty 12 = .ok (.getfield 7, 3) := by decide +kernel
theorem dX5_empty_15 : decode cX5_empty 15 = .ok (.iconst 2, 1) := by decide +kernel
theorem dX5_empty_16 : decode cX5_empty 16 = .ok (.iconst 0, 1) := by decide +kernel
theorem dX5_empty_17 : decode cX5_empty 17 = .ok (.iastore, 1) := by decide +kernel
theorem dX5_empty_18 : decode cX5_empty 18 = .ok (.aload_n 0, 1) := by decide +kernel
theorem dX5_empty_19 : decode cX5_empty 19 = .ok (.iload_n 1, 1) := by decide +kernel
theorem dX5_empty_20 : decode cX5_empty 20 = .ok (.invokevirtual 125, 3) := by decide +kernel
theorem dX5_empty_23 : decode cX5_empty 23 = .ok (.ireturn, 1) := by decide +kernel
set_option maxRecDepth 20000 in
theorem ggX5_slide_X5_isBody : GoodIn wsX5_slide wsX5_isBody := goodIn_r _ [8, 9, 10, 11, 7, 12, 106, 107, 108, 109, 110, 111, 112, 113, 114, 115] (by decide +kernel) (by decide +kernel)
set_option maxRecDepth 20000 in
theorem gX5_slide_X5_isBody : GoodIn wsX5_slide (wsV RX5 133 RX5 yX5_isBody wsX5_isBody) := goodIn_app (goodIn_of _ (by decide +kernel)) ggX5_slide_X5_isBody
set_option maxRecDepth 20000 in
theorem ggX5_slide_X5_isDirection : GoodIn wsX5_slide wsX5_isDirection := goodIn_r _ [15, 16, 10, 11, 7, 12] (by decide +kernel) (by decide +kernel)
set_option maxRecDepth 20000 in
theorem gX5_slide_X5_isDirection : GoodIn wsX5_slide (va_wsS RX5 140 yX5_isDirection wsX5_isDirection) := goodIn_app (goodIn_of _ (by decide +kernel)) ggX5_slide_X5_isDirection
set_option maxRecDepth 20000 in
theorem ggX5_slide_X5_in : GoodIn wsX5_slide wsX5_in := goodIn_r _ [12] (by decide +kernel) (by decide +kernel)
set_option maxRecDepth 20000 in
theorem gX5_slide_X5_in : GoodIn wsX5_slide (va_wsS RX5 26 yX5_in wsX5_in) := goodIn_app (goodIn_of _ (by decide +kernel)) ggX5_slide_X5_in
set_option maxRecDepth 20000 in
theorem ggX5_slide_X5_keep : GoodIn wsX5_slide wsX5_keep := goodIn_r _ [20, 21, 9, 106, 107, 108, 109, 110, 111, 112, 113, 114, 115] (by decide +kernel) (by decide +kernel)
set_option maxRecDepth 20000 in
theorem gX5_slide_X5_keep : GoodIn wsX5_slide (wsV RX5 122 RX5 yX5_keep wsX5_keep) := goodIn_app (goodIn_of _ (by decide +kernel)) ggX5_slide_X5_keep
set_option maxRecDepth 20000 in
theorem ggX5_slide_X5_slides : GoodIn wsX5_slide wsX5_slides := goodIn_r _ [25, 26, 27, 28, 7, 29, 30, 31, 32, 33, 34, 35, 36, 37, 38, 39, 9, 40, 41, 42, 43, 44, 45, 46, 47, 48, 49, 50, 51, 52, 53, 54, 55, 56, 57, 58, 59, 60, 61, 62, 63, 64, 65, 66, 67, 68, 69, 70, 71, 72, 73, 74, 75, 76, 77, 78, 79, 80, 81, 82, 83, 84, 85, 86, 87, 88, 89, 90, 91, 92, 93, 94, 95, 96, 97, 98, 99, 106, 107, 108, 109, 110, 111, 112, 113, 114, 115] (by decide +kernel) (by decide +kernel)
set_option maxRecDepth 20000 in
theorem gX5_slide_X5_slides : GoodIn wsX5_slide (wsV RX5 106 RX5 yX5_slides wsX5_slides) := goodIn_app (goodIn_of _ (by decide +kernel)) ggX5_slide_X5_slides
set_option maxRecDepth 20000 in
theorem ggX5_slide_X5_changed : GoodIn wsX5_slide wsX5_changed := goodIn_r _ [103, 104, 105, 21, 106, 107, 108, 109, 110, 111, 112, 113, 114, 115] (by decide +kernel) (by decide +kernel)
set_option maxRecDepth 20000 in
theorem gX5_slide_X5_changed : GoodIn wsX5_slide (wsV RX5 125 RX5 yX5_changed wsX5_changed) := goodIn_app (goodIn_of _ (by decide +kernel)) ggX5_slide_X5_changed
theorem dX5_slide_0 : decode cX5_slide 0 = .ok (.aload_n 0, 1) := by decide +kernel
theorem dX5_slide_1 : decode cX5_slide 1 = .ok (.iload_n 1, 1) := by decide +kernel
theorem dX5_slide_2 : decode cX5_slide 2 = .ok (.invokevirtual 133, 3) := by decide +kernel
theorem dX5_slide_5 : decode cX5_slide 5 = .ok (.ifCond .eq 22, 3) := by decide +kernel
theorem dX5_slide_8 : decode cX5_slide 8 = .ok (.iload_n 2, 1) := by decide +kernel
theorem dX5_slide_9 : decode cX5_slide 9 = .ok (.invokestatic 140, 3) := by decide +kernel
theorem dX5_slide_12 : decode cX5_slide 12 = .ok (.ifCond .eq 15, 3) := by decide +kernel
theorem dX5_slide_15 : decode cX5_slide 15 = .ok (.iload_n 3, 1) := by decide +kernel
theorem dX5_slide_16 : decode cX5_slide 16 = .ok (.i2l, 1) := by decide +kernel
theorem dX5_slide_17 : decode cX5_slide 17 = .ok (.lconst 1, 1) := by decide +kernel
theorem dX5_slide_18 : decode cX5_slide 18 = .ok (.ldc2_w 118, 3) := by decide +kernel
theorem dX5_slide_21 : decode cX5_slide 21 = .ok (.invokestatic 26, 3) := by decide +kernel
theorem dX5_slide_24 : decode cX5_slide 24 = .ok (.ifCond .ne 6, 3) := by decide +kernel
theorem dX5_slide_27 : decode cX5_slide 27 = .ok (.ldc 120, 2) := by decide +kernel
theorem dX5_slide_29 : decode cX5_slide 29 = .ok (.ireturn, 1) := by decide +kernel
theorem dX5_slide_30 : decode cX5_slide 30 = .ok (.aload_n 0, 1) := by decide +kernel
theorem dX5_slide_31 : decode cX5_slide 31 = .ok (.invokevirtual 122, 3) := by decide +kernel
theorem dX5_slide_34 : decode cX5_slide 34 = .ok (.aload_n 0, 1) := by decide +kernel
theorem dX5_slide_35 : decode cX5_slide 35 = .ok (.iload_n 1, 1) := by decide +kernel
theorem dX5_slide_36 : decode cX5_slide 36 = .ok (.iload_n 2, 1) := by decide +kernel
theorem dX5_slide_37 : decode cX5_slide 37 = .ok (.iload_n 3, 1) := by decide +kernel
theorem dX5_slide_38 : decode cX5_slide 38 = .ok (.invokevirtual 106, 3) := by decide +kernel
theorem dX5_slide_41 : decode cX5_slide 41 = .ok (.istore 4, 2) := by decide +kernel
theorem dX5_slide_43 : decode cX5_slide 43 = .ok (.iload 4, 2) := by decide +kernel
theorem dX5_slide_45 : decode cX5_slide 45 = .ok (.ifCond .ne 8, 3) := by decide +kernel
theorem dX5_slide_48 : decode cX5_slide 48 = .ok (.ldc 121, 2) := by decide +kernel
theorem dX5_slide_50 : decode cX5_slide 50 = .ok (.goto 9, 3) := by decide +kernel
theorem dX5_slide_53 : decode cX5_slide 53 = .ok (.aload_n 0, 1) := by decide +kernel
theorem dX5_slide_54 : decode cX5_slide 54 = .ok (.iload 4, 2) := by decide +kernel
theorem dX5_slide_56 : decode cX5_slide 56 = .ok (.invokevirtual 125, 3) := by decide +kernel
theorem dX5_slide_59 : decode cX5_slide 59 = .ok (.ireturn, 1) := by decide +kernel
set_option maxRecDepth 20000 in
theorem ggX5_turn_X5_isBody : GoodIn wsX5_turn wsX5_isBody := goodIn_r _ [8, 2, 9, 10, 7, 11, 87, 88, 89, 90, 91, 92, 93, 94, 95, 96] (by decide +kernel) (by decide +kernel)
set_option maxRecDepth 20000 in
theorem gX5_turn_X5_isBody : GoodIn wsX5_turn (wsV RX5 133 RX5 yX5_isBody wsX5_isBody) := goodIn_app (goodIn_of _ (by decide +kernel)) ggX5_turn_X5_isBody
set_option maxRecDepth 20000 in
theorem ggX5_turn_X5_keep : GoodIn wsX5_turn wsX5_keep := goodIn_r _ [15, 16, 2, 87, 88, 89, 90, 91, 92, 93, 94, 95, 96] (by decide +kernel) (by decide +kernel)
set_option maxRecDepth 20000 in
theorem gX5_turn_X5_keep : GoodIn wsX5_turn (wsV RX5 122 RX5 yX5_keep wsX5_keep) := goodIn_app (goodIn_of _ (by decide +kernel)) ggX5_turn_X5_keep
set_option maxRecDepth 20000 in
theorem ggX5_turn_X5_leastX : GoodIn wsX5_turn wsX5_leastX := goodIn_r _ [20, 21, 22, 23, 7, 24, 2, 25, 26, 27, 28, 87, 88, 89, 90, 91, 92, 93, 94, 95, 96] (by decide +kernel) (by decide +kernel)
set_option maxRecDepth 20000 in
theorem gX5_turn_X5_leastX : GoodIn wsX5_turn (wsV RX5 63 RX5 yX5_leastX wsX5_leastX) := goodIn_app (goodIn_of _ (by decide +kernel)) ggX5_turn_X5_leastX
set_option maxRecDepth 20000 in
theorem ggX5_turn_X5_leastY : GoodIn wsX5_turn wsX5_leastY := goodIn_r _ [32, 21, 22, 23, 7, 24, 2, 25, 26, 27, 28, 87, 88, 89, 90, 91, 92, 93, 94, 95, 96] (by decide +kernel) (by decide +kernel)
set_option maxRecDepth 20000 in
theorem gX5_turn_X5_leastY : GoodIn wsX5_turn (wsV RX5 69 RX5 yX5_leastY wsX5_leastY) := goodIn_app (goodIn_of _ (by decide +kernel)) ggX5_turn_X5_leastY
set_option maxRecDepth 20000 in
theorem ggX5_turn_X5_greatestY : GoodIn wsX5_turn wsX5_greatestY := goodIn_r _ [36, 21, 22, 23, 7, 24, 2, 25, 26, 27, 28, 87, 88, 89, 90, 91, 92, 93, 94, 95, 96] (by decide +kernel) (by decide +kernel)
set_option maxRecDepth 20000 in
theorem gX5_turn_X5_greatestY : GoodIn wsX5_turn (wsV RX5 72 RX5 yX5_greatestY wsX5_greatestY) := goodIn_app (goodIn_of _ (by decide +kernel)) ggX5_turn_X5_greatestY
set_option maxRecDepth 20000 in
theorem ggX5_turn_X5_corners : GoodIn wsX5_turn wsX5_corners := goodIn_r _ [28, 2, 87, 88, 89, 90, 91, 92, 93, 94, 95, 96] (by decide +kernel) (by decide +kernel)
set_option maxRecDepth 20000 in
theorem gX5_turn_X5_corners : GoodIn wsX5_turn (wsV RX5 30 RX5 yX5_corners wsX5_corners) := goodIn_app (goodIn_of _ (by decide +kernel)) ggX5_turn_X5_corners
set_option maxRecDepth 20000 in
theorem ggX5_turn_X5_fits : GoodIn wsX5_turn wsX5_fits := goodIn_r _ [40, 41, 42, 43, 7, 44, 2, 17, 18, 19, 20, 21, 22, 23, 24, 25, 26, 27, 28, 45, 46, 47, 48, 29, 30, 31, 32, 33, 34, 35, 36, 49, 50, 51, 52, 53, 54, 55, 56, 57, 58, 59, 60, 61, 62, 63, 64, 65, 66, 67, 68, 69, 70, 71, 72, 73, 74, 75, 76, 87, 88, 89, 90, 91, 92, 93, 94, 95, 96] (by decide +kernel) (by decide +kernel)
set_option maxRecDepth 20000 in
theorem gX5_turn_X5_fits : GoodIn wsX5_turn (wsV RX5 91 RX5 yX5_fits wsX5_fits) := goodIn_app (goodIn_of _ (by decide +kernel)) ggX5_turn_X5_fits
set_option maxRecDepth 20000 in
theorem ggX5_turn_X5_giveBack : GoodIn wsX5_turn wsX5_giveBack := goodIn_r _ [80, 2, 16, 87, 88, 89, 90, 91, 92, 93, 94, 95, 96] (by decide +kernel) (by decide +kernel)
set_option maxRecDepth 20000 in
theorem gX5_turn_X5_giveBack : GoodIn wsX5_turn (wsV RX5 143 RX5 yX5_giveBack wsX5_giveBack) := goodIn_app (goodIn_of _ (by decide +kernel)) ggX5_turn_X5_giveBack
set_option maxRecDepth 20000 in
theorem ggX5_turn_X5_changed : GoodIn wsX5_turn wsX5_changed := goodIn_r _ [84, 85, 86, 16, 87, 88, 89, 90, 91, 92, 93, 94, 95, 96] (by decide +kernel) (by decide +kernel)
set_option maxRecDepth 20000 in
theorem gX5_turn_X5_changed : GoodIn wsX5_turn (wsV RX5 125 RX5 yX5_changed wsX5_changed) := goodIn_app (goodIn_of _ (by decide +kernel)) ggX5_turn_X5_changed
theorem dX5_turn_0 : decode cX5_turn 0 = .ok (.aload_n 0, 1) := by decide +kernel
theorem dX5_turn_1 : decode cX5_turn 1 = .ok (.iload_n 1, 1) := by decide +kernel
theorem dX5_turn_2 : decode cX5_turn 2 = .ok (.invokevirtual 133, 3) := by decide +kernel
theorem dX5_turn_5 : decode cX5_turn 5 = .ok (.ifCond .ne 6, 3) := by decide +kernel
theorem dX5_turn_8 : decode cX5_turn 8 = .ok (.ldc 120, 2) := by decide +kernel
theorem dX5_turn_10 : decode cX5_turn 10 = .ok (.ireturn, 1) := by decide +kernel
theorem dX5_turn_11 : decode cX5_turn 11 = .ok (.aload_n 0, 1) := by decide +kernel
theorem dX5_turn_12 : decode cX5_turn 12 = .ok (.invokevirtual 122, 3) := by decide +kernel
theorem dX5_turn_15 : decode cX5_turn 15 = .ok (.aload_n 0, 1) := by decide +kernel
theorem dX5_turn_16 : decode cX5_turn 16 = .ok (.iload_n 1, 1) := by decide +kernel
theorem dX5_turn_17 : decode cX5_turn 17 = .ok (.invokevirtual 63, 3) := by decide +kernel
theorem dX5_turn_20 : decode cX5_turn 20 = .ok (.istore_n 2, 1) := by decide +kernel
theorem dX5_turn_21 : decode cX5_turn 21 = .ok (.aload_n 0, 1) := by decide +kernel
theorem dX5_turn_22 : decode cX5_turn 22 = .ok (.iload_n 1, 1) := by decide +kernel
theorem dX5_turn_23 : decode cX5_turn 23 = .ok (.invokevirtual 69, 3) := by decide +kernel
theorem dX5_turn_26 : decode cX5_turn 26 = .ok (.istore_n 3, 1) := by decide +kernel
theorem dX5_turn_27 : decode cX5_turn 27 = .ok (.aload_n 0, 1) := by decide +kernel
theorem dX5_turn_28 : decode cX5_turn 28 = .ok (.iload_n 1, 1) := by decide +kernel
theorem dX5_turn_29 : decode cX5_turn 29 = .ok (.invokevirtual 72, 3) := by decide +kernel
theorem dX5_turn_32 : decode cX5_turn 32 = .ok (.iload_n 3, 1) := by decide +kernel
theorem dX5_turn_33 : decode cX5_turn 33 = .ok (.isub, 1) := by decide +kernel
theorem dX5_turn_34 : decode cX5_turn 34 = .ok (.istore 4, 2) := by decide +kernel
theorem dX5_turn_36 : decode cX5_turn 36 = .ok (.iconst 0, 1) := by decide +kernel
theorem dX5_turn_37 : decode cX5_turn 37 = .ok (.istore 5, 2) := by decide +kernel
theorem dX5_turn_39 : decode cX5_turn 39 = .ok (.iload 5, 2) := by decide +kernel
theorem dX5_turn_41 : decode cX5_turn 41 = .ok (.aload_n 0, 1) := by decide +kernel
theorem dX5_turn_42 : decode cX5_turn 42 = .ok (.iload_n 1, 1) := by decide +kernel
theorem dX5_turn_43 : decode cX5_turn 43 = .ok (.invokevirtual 30, 3) := by decide +kernel
theorem dX5_turn_46 : decode cX5_turn 46 = .ok (.if_icmp .ge 88, 3) := by decide +kernel
theorem dX5_turn_49 : decode cX5_turn 49 = .ok (.aload_n 0, 1) := by decide +kernel
theorem dX5_turn_50 : decode cX5_turn 50 = .ok (.getfield 7, 3) := by decide +kernel
theorem dX5_turn_53 : decode cX5_turn 53 = .ok (.bipush 12, 2) := by decide +kernel
theorem dX5_turn_55 : decode cX5_turn 55 = .ok (.bipush 6, 2) := by decide +kernel
theorem dX5_turn_57 : decode cX5_turn 57 = .ok (.iload_n 1, 1) := by decide +kernel
theorem dX5_turn_58 : decode cX5_turn 58 = .ok (.imul, 1) := by decide +kernel
theorem dX5_turn_59 : decode cX5_turn 59 = .ok (.iadd, 1) := by decide +kernel
theorem dX5_turn_60 : decode cX5_turn 60 = .ok (.iload 5, 2) := by decide +kernel
theorem dX5_turn_62 : decode cX5_turn 62 = .ok (.iadd, 1) := by decide +kernel
theorem dX5_turn_63 : decode cX5_turn 63 = .ok (.iaload, 1) := by decide +kernel
theorem dX5_turn_64 : decode cX5_turn 64 = .ok (.iload_n 2, 1) := by decide +kernel
theorem dX5_turn_65 : decode cX5_turn 65 = .ok (.isub, 1) := by decide +kernel
theorem dX5_turn_66 : decode cX5_turn 66 = .ok (.istore 6, 2) := by decide +kernel
theorem dX5_turn_68 : decode cX5_turn 68 = .ok (.aload_n 0, 1) := by decide +kernel
theorem dX5_turn_69 : decode cX5_turn 69 = .ok (.getfield 7, 3) := by decide +kernel
theorem dX5_turn_72 : decode cX5_turn 72 = .ok (.bipush 66, 2) := by decide +kernel
theorem dX5_turn_74 : decode cX5_turn 74 = .ok (.bipush 6, 2) := by decide +kernel
theorem dX5_turn_76 : decode cX5_turn 76 = .ok (.iload_n 1, 1) := by decide +kernel
theorem dX5_turn_77 : decode cX5_turn 77 = .ok (.imul, 1) := by decide +kernel
theorem dX5_turn_78 : decode cX5_turn 78 = .ok (.iadd, 1) := by decide +kernel
theorem dX5_turn_79 : decode cX5_turn 79 = .ok (.iload 5, 2) := by decide +kernel
theorem dX5_turn_81 : decode cX5_turn 81 = .ok (.iadd, 1) := by decide +kernel
theorem dX5_turn_82 : decode cX5_turn 82 = .ok (.iaload, 1) := by decide +kernel
theorem dX5_turn_83 : decode cX5_turn 83 = .ok (.iload_n 3, 1) := by decide +kernel
theorem dX5_turn_84 : decode cX5_turn 84 = .ok (.isub, 1) := by decide +kernel
theorem dX5_turn_85 : decode cX5_turn 85 = .ok (.istore 7, 2) := by decide +kernel
theorem dX5_turn_87 : decode cX5_turn 87 = .ok (.aload_n 0, 1) := by decide +kernel
theorem dX5_turn_88 : decode cX5_turn 88 = .ok (.getfield 7, 3) := by decide +kernel
theorem dX5_turn_91 : decode cX5_turn 91 = .ok (.bipush 12, 2) := by decide +kernel
theorem dX5_turn_93 : decode cX5_turn 93 = .ok (.bipush 6, 2) := by decide +kernel
theorem dX5_turn_95 : decode cX5_turn 95 = .ok (.iload_n 1, 1) := by decide +kernel
theorem dX5_turn_96 : decode cX5_turn 96 = .ok (.imul, 1) := by decide +kernel
theorem dX5_turn_97 : decode cX5_turn 97 = .ok (.iadd, 1) := by decide +kernel
theorem dX5_turn_98 : decode cX5_turn 98 = .ok (.iload 5, 2) := by decide +kernel
theorem dX5_turn_100 : decode cX5_turn 100 = .ok (.iadd, 1) := by decide +kernel
theorem dX5_turn_101 : decode cX5_turn 101 = .ok (.iload_n 2, 1) := by decide +kernel
theorem dX5_turn_102 : decode cX5_turn 102 = .ok (.iload 4, 2) := by decide +kernel
theorem dX5_turn_104 : decode cX5_turn 104 = .ok (.iadd, 1) := by decide +kernel
theorem dX5_turn_105 : decode cX5_turn 105 = .ok (.iload 7, 2) := by decide +kernel
theorem dX5_turn_107 : decode cX5_turn 107 = .ok (.isub, 1) := by decide +kernel
theorem dX5_turn_108 : decode cX5_turn 108 = .ok (.iastore, 1) := by decide +kernel
theorem dX5_turn_109 : decode cX5_turn 109 = .ok (.aload_n 0, 1) := by decide +kernel
theorem dX5_turn_110 : decode cX5_turn 110 = .ok (.getfield 7, 3) := by decide +kernel
theorem dX5_turn_113 : decode cX5_turn 113 = .ok (.bipush 66, 2) := by decide +kernel
theorem dX5_turn_115 : decode cX5_turn 115 = .ok (.bipush 6, 2) := by decide +kernel
theorem dX5_turn_117 : decode cX5_turn 117 = .ok (.iload_n 1, 1) := by decide +kernel
theorem dX5_turn_118 : decode cX5_turn 118 = .ok (.imul, 1) := by decide +kernel
theorem dX5_turn_119 : decode cX5_turn 119 = .ok (.iadd, 1) := by decide +kernel
theorem dX5_turn_120 : decode cX5_turn 120 = .ok (.iload 5, 2) := by decide +kernel
theorem dX5_turn_122 : decode cX5_turn 122 = .ok (.iadd, 1) := by decide +kernel
theorem dX5_turn_123 : decode cX5_turn 123 = .ok (.iload_n 3, 1) := by decide +kernel
theorem dX5_turn_124 : decode cX5_turn 124 = .ok (.iload 6, 2) := by decide +kernel
theorem dX5_turn_126 : decode cX5_turn 126 = .ok (.iadd, 1) := by decide +kernel
theorem dX5_turn_127 : decode cX5_turn 127 = .ok (.iastore, 1) := by decide +kernel
theorem dX5_turn_128 : decode cX5_turn 128 = .ok (.iinc 5 1, 3) := by decide +kernel
theorem dX5_turn_131 : decode cX5_turn 131 = .ok (.goto (-92), 3) := by decide +kernel
theorem dX5_turn_134 : decode cX5_turn 134 = .ok (.aload_n 0, 1) := by decide +kernel
theorem dX5_turn_135 : decode cX5_turn 135 = .ok (.iload_n 1, 1) := by decide +kernel
theorem dX5_turn_136 : decode cX5_turn 136 = .ok (.invokevirtual 91, 3) := by decide +kernel
theorem dX5_turn_139 : decode cX5_turn 139 = .ok (.ifCond .ne 10, 3) := by decide +kernel
theorem dX5_turn_142 : decode cX5_turn 142 = .ok (.aload_n 0, 1) := by decide +kernel
theorem dX5_turn_143 : decode cX5_turn 143 = .ok (.invokevirtual 143, 3) := by decide +kernel
theorem dX5_turn_146 : decode cX5_turn 146 = .ok (.ldc 121, 2) := by decide +kernel
theorem dX5_turn_148 : decode cX5_turn 148 = .ok (.ireturn, 1) := by decide +kernel
theorem dX5_turn_149 : decode cX5_turn 149 = .ok (.aload_n 0, 1) := by decide +kernel
theorem dX5_turn_150 : decode cX5_turn 150 = .ok (.iload 4, 2) := by decide +kernel
theorem dX5_turn_152 : decode cX5_turn 152 = .ok (.invokevirtual 125, 3) := by decide +kernel
theorem dX5_turn_155 : decode cX5_turn 155 = .ok (.ireturn, 1) := by decide +kernel
set_option maxRecDepth 20000 in
theorem ggX5_settle_X5_isDirection : GoodIn wsX5_settle wsX5_isDirection := goodIn_r _ [5, 6, 7, 8, 4, 9] (by decide +kernel) (by decide +kernel)
set_option maxRecDepth 20000 in
theorem gX5_settle_X5_isDirection : GoodIn wsX5_settle (va_wsS RX5 140 yX5_isDirection wsX5_isDirection) := goodIn_app (goodIn_of _ (by decide +kernel)) ggX5_settle_X5_isDirection
set_option maxRecDepth 20000 in
theorem ggX5_settle_X5_keep : GoodIn wsX5_settle wsX5_keep := goodIn_r _ [13, 14, 15, 104, 105, 106, 107, 108, 109, 110, 111, 112, 113] (by decide +kernel) (by decide +kernel)
set_option maxRecDepth 20000 in
theorem gX5_settle_X5_keep : GoodIn wsX5_settle (wsV RX5 122 RX5 yX5_keep wsX5_keep) := goodIn_app (goodIn_of _ (by decide +kernel)) ggX5_settle_X5_keep
set_option maxRecDepth 20000 in
theorem ggX5_settle_X5_settles : GoodIn wsX5_settle wsX5_settles := goodIn_r _ [19, 15, 20, 21, 22, 4, 23, 24, 25, 26, 27, 28, 29, 30, 31, 32, 33, 34, 35, 36, 37, 38, 39, 40, 41, 42, 43, 44, 45, 46, 47, 48, 49, 50, 51, 52, 53, 54, 55, 56, 57, 58, 59, 60, 61, 62, 63, 64, 65, 66, 67, 68, 69, 70, 71, 72, 73, 74, 75, 76, 77, 78, 79, 80, 81, 82, 83, 84, 85, 86, 87, 88, 89, 90, 91, 92, 93, 94, 95, 96, 97, 104, 105, 106, 107, 108, 109, 110, 111, 112, 113] (by decide +kernel) (by decide +kernel)
set_option maxRecDepth 20000 in
theorem gX5_settle_X5_settles : GoodIn wsX5_settle (wsV RX5 146 RX5 yX5_settles wsX5_settles) := goodIn_app (goodIn_of _ (by decide +kernel)) ggX5_settle_X5_settles
set_option maxRecDepth 20000 in
theorem ggX5_settle_X5_changed : GoodIn wsX5_settle wsX5_changed := goodIn_r _ [101, 102, 103, 14, 104, 105, 106, 107, 108, 109, 110, 111, 112, 113] (by decide +kernel) (by decide +kernel)
set_option maxRecDepth 20000 in
theorem gX5_settle_X5_changed : GoodIn wsX5_settle (wsV RX5 125 RX5 yX5_changed wsX5_changed) := goodIn_app (goodIn_of _ (by decide +kernel)) ggX5_settle_X5_changed
theorem dX5_settle_0 : decode cX5_settle 0 = .ok (.iload_n 1, 1) := by decide +kernel
theorem dX5_settle_1 : decode cX5_settle 1 = .ok (.invokestatic 140, 3) := by decide +kernel
theorem dX5_settle_4 : decode cX5_settle 4 = .ok (.ifCond .ne 6, 3) := by decide +kernel
theorem dX5_settle_7 : decode cX5_settle 7 = .ok (.ldc 120, 2) := by decide +kernel
theorem dX5_settle_9 : decode cX5_settle 9 = .ok (.ireturn, 1) := by decide +kernel
theorem dX5_settle_10 : decode cX5_settle 10 = .ok (.aload_n 0, 1) := by decide +kernel
theorem dX5_settle_11 : decode cX5_settle 11 = .ok (.invokevirtual 122, 3) := by decide +kernel
theorem dX5_settle_14 : decode cX5_settle 14 = .ok (.aload_n 0, 1) := by decide +kernel
theorem dX5_settle_15 : decode cX5_settle 15 = .ok (.aload_n 0, 1) := by decide +kernel
theorem dX5_settle_16 : decode cX5_settle 16 = .ok (.iload_n 1, 1) := by decide +kernel
theorem dX5_settle_17 : decode cX5_settle 17 = .ok (.invokevirtual 146, 3) := by decide +kernel
theorem dX5_settle_20 : decode cX5_settle 20 = .ok (.invokevirtual 125, 3) := by decide +kernel
theorem dX5_settle_23 : decode cX5_settle 23 = .ok (.ireturn, 1) := by decide +kernel
set_option maxRecDepth 20000 in
theorem ggX5_cornerValue_X5_corners : GoodIn wsX5_cornerValue wsX5_corners := goodIn_r _ [6, 7, 16, 17, 18, 19, 20, 21, 22, 23, 24, 25] (by decide +kernel) (by decide +kernel)
set_option maxRecDepth 20000 in
theorem gX5_cornerValue_X5_corners : GoodIn wsX5_cornerValue (wsV RX5 30 RX5 yX5_corners wsX5_corners) := goodIn_app (goodIn_of _ (by decide +kernel)) ggX5_cornerValue_X5_corners
set_option maxRecDepth 20000 in
theorem ggX5_cornerValue_X5_x : GoodIn wsX5_cornerValue wsX5_x := goodIn_r _ [11, 7, 2, 3, 4, 5, 6, 16, 17, 18, 19, 20, 21, 22, 23, 24, 25] (by decide +kernel) (by decide +kernel)
set_option maxRecDepth 20000 in
theorem gX5_cornerValue_X5_x : GoodIn wsX5_cornerValue (wsV RX5 34 RX5 yX5_x wsX5_x) := goodIn_app (goodIn_of _ (by decide +kernel)) ggX5_cornerValue_X5_x
set_option maxRecDepth 20000 in
theorem ggX5_cornerValue_X5_y : GoodIn wsX5_cornerValue wsX5_y := goodIn_r _ [15, 7, 2, 3, 4, 5, 6, 16, 17, 18, 19, 20, 21, 22, 23, 24, 25] (by decide +kernel) (by decide +kernel)
set_option maxRecDepth 20000 in
theorem gX5_cornerValue_X5_y : GoodIn wsX5_cornerValue (wsV RX5 38 RX5 yX5_y wsX5_y) := goodIn_app (goodIn_of _ (by decide +kernel)) ggX5_cornerValue_X5_y
theorem dX5_cornerValue_0 : decode cX5_cornerValue 0 = .ok (.iload_n 2, 1) := by decide +kernel
theorem dX5_cornerValue_1 : decode cX5_cornerValue 1 = .ok (.iconst 2, 1) := by decide +kernel
theorem dX5_cornerValue_2 : decode cX5_cornerValue 2 = .ok (.idiv, 1) := by decide +kernel
theorem dX5_cornerValue_3 : decode cX5_cornerValue 3 = .ok (.istore_n 3, 1) := by decide +kernel
theorem dX5_cornerValue_4 : decode cX5_cornerValue 4 = .ok (.iload_n 3, 1) := by decide +kernel
theorem dX5_cornerValue_5 : decode cX5_cornerValue 5 = .ok (.aload_n 0, 1) := by decide +kernel
theorem dX5_cornerValue_6 : decode cX5_cornerValue 6 = .ok (.iload_n 1, 1) := by decide +kernel
theorem dX5_cornerValue_7 : decode cX5_cornerValue 7 = .ok (.invokevirtual 30, 3) := by decide +kernel
theorem dX5_cornerValue_10 : decode cX5_cornerValue 10 = .ok (.if_icmp .lt 8, 3) := by decide +kernel
theorem dX5_cornerValue_13 : decode cX5_cornerValue 13 = .ok (.ldc 149, 2) := by decide +kernel
theorem dX5_cornerValue_15 : decode cX5_cornerValue 15 = .ok (.goto 24, 3) := by decide +kernel
theorem dX5_cornerValue_18 : decode cX5_cornerValue 18 = .ok (.iload_n 2, 1) := by decide +kernel
theorem dX5_cornerValue_19 : decode cX5_cornerValue 19 = .ok (.iconst 2, 1) := by decide +kernel
theorem dX5_cornerValue_20 : decode cX5_cornerValue 20 = .ok (.irem, 1) := by decide +kernel
theorem dX5_cornerValue_21 : decode cX5_cornerValue 21 = .ok (.ifCond .ne 12, 3) := by decide +kernel
theorem dX5_cornerValue_24 : decode cX5_cornerValue 24 = .ok (.aload_n 0, 1) := by decide +kernel
theorem dX5_cornerValue_25 : decode cX5_cornerValue 25 = .ok (.iload_n 1, 1) := by decide +kernel
theorem dX5_cornerValue_26 : decode cX5_cornerValue 26 = .ok (.iload_n 3, 1) := by decide +kernel
theorem dX5_cornerValue_27 : decode cX5_cornerValue 27 = .ok (.invokevirtual 34, 3) := by decide +kernel
theorem dX5_cornerValue_30 : decode cX5_cornerValue 30 = .ok (.goto 9, 3) := by decide +kernel
theorem dX5_cornerValue_33 : decode cX5_cornerValue 33 = .ok (.aload_n 0, 1) := by decide +kernel
theorem dX5_cornerValue_34 : decode cX5_cornerValue 34 = .ok (.iload_n 1, 1) := by decide +kernel
theorem dX5_cornerValue_35 : decode cX5_cornerValue 35 = .ok (.iload_n 3, 1) := by decide +kernel
theorem dX5_cornerValue_36 : decode cX5_cornerValue 36 = .ok (.invokevirtual 38, 3) := by decide +kernel
theorem dX5_cornerValue_39 : decode cX5_cornerValue 39 = .ok (.ireturn, 1) := by decide +kernel
set_option maxRecDepth 20000 in
theorem ggX5_bodyOf_X5_isBody : GoodIn wsX5_bodyOf wsX5_isBody := goodIn_r _ [7, 8, 9, 10, 6, 11, 115, 116, 117, 118, 119, 120, 121, 122, 123, 124] (by decide +kernel) (by decide +kernel)
set_option maxRecDepth 20000 in
theorem gX5_bodyOf_X5_isBody : GoodIn wsX5_bodyOf (wsV RX5 133 RX5 yX5_isBody wsX5_isBody) := goodIn_app (goodIn_of _ (by decide +kernel)) ggX5_bodyOf_X5_isBody
set_option maxRecDepth 20000 in
theorem ggX5_bodyOf_X5_in : GoodIn wsX5_bodyOf wsX5_in := goodIn_r _ [11] (by decide +kernel) (by decide +kernel)
set_option maxRecDepth 20000 in
theorem gX5_bodyOf_X5_in : GoodIn wsX5_bodyOf (va_wsS RX5 26 yX5_in wsX5_in) := goodIn_app (goodIn_of _ (by decide +kernel)) ggX5_bodyOf_X5_in
set_option maxRecDepth 20000 in
theorem ggX5_bodyOf_X5_corners : GoodIn wsX5_bodyOf wsX5_corners := goodIn_r _ [15, 8, 115, 116, 117, 118, 119, 120, 121, 122, 123, 124] (by decide +kernel) (by decide +kernel)
set_option maxRecDepth 20000 in
theorem gX5_bodyOf_X5_corners : GoodIn wsX5_bodyOf (wsV RX5 30 RX5 yX5_corners wsX5_corners) := goodIn_app (goodIn_of _ (by decide +kernel)) ggX5_bodyOf_X5_corners
set_option maxRecDepth 20000 in
theorem ggX5_bodyOf_X5_area : GoodIn wsX5_bodyOf wsX5_area := goodIn_r _ [19, 12, 13, 14, 6, 15, 8, 20, 21, 22, 23, 24, 25, 26, 27, 115, 116, 117, 118, 119, 120, 121, 122, 123, 124] (by decide +kernel) (by decide +kernel)
set_option maxRecDepth 20000 in
theorem gX5_bodyOf_X5_area : GoodIn wsX5_bodyOf (wsV RX5 109 RX5 yX5_area wsX5_area) := goodIn_app (goodIn_of _ (by decide +kernel)) ggX5_bodyOf_X5_area
set_option maxRecDepth 20000 in
theorem ggX5_bodyOf_X5_leastX : GoodIn wsX5_bodyOf wsX5_leastX := goodIn_r _ [31, 32, 33, 34, 6, 35, 8, 12, 13, 14, 15, 115, 116, 117, 118, 119, 120, 121, 122, 123, 124] (by decide +kernel) (by decide +kernel)
set_option maxRecDepth 20000 in
theorem gX5_bodyOf_X5_leastX : GoodIn wsX5_bodyOf (wsV RX5 63 RX5 yX5_leastX wsX5_leastX) := goodIn_app (goodIn_of _ (by decide +kernel)) ggX5_bodyOf_X5_leastX
set_option maxRecDepth 20000 in
theorem ggX5_bodyOf_X5_greatestX : GoodIn wsX5_bodyOf wsX5_greatestX := goodIn_r _ [39, 32, 33, 34, 6, 35, 8, 12, 13, 14, 15, 115, 116, 117, 118, 119, 120, 121, 122, 123, 124] (by decide +kernel) (by decide +kernel)
set_option maxRecDepth 20000 in
theorem gX5_bodyOf_X5_greatestX : GoodIn wsX5_bodyOf (wsV RX5 66 RX5 yX5_greatestX wsX5_greatestX) := goodIn_app (goodIn_of _ (by decide +kernel)) ggX5_bodyOf_X5_greatestX
set_option maxRecDepth 20000 in
theorem ggX5_bodyOf_X5_leastY : GoodIn wsX5_bodyOf wsX5_leastY := goodIn_r _ [43, 32, 33, 34, 6, 35, 8, 12, 13, 14, 15, 115, 116, 117, 118, 119, 120, 121, 122, 123, 124] (by decide +kernel) (by decide +kernel)
set_option maxRecDepth 20000 in
theorem gX5_bodyOf_X5_leastY : GoodIn wsX5_bodyOf (wsV RX5 69 RX5 yX5_leastY wsX5_leastY) := goodIn_app (goodIn_of _ (by decide +kernel)) ggX5_bodyOf_X5_leastY
set_option maxRecDepth 20000 in
theorem ggX5_bodyOf_X5_greatestY : GoodIn wsX5_bodyOf wsX5_greatestY := goodIn_r _ [47, 32, 33, 34, 6, 35, 8, 12, 13, 14, 15, 115, 116, 117, 118, 119, 120, 121, 122, 123, 124] (by decide +kernel) (by decide +kernel)
set_option maxRecDepth 20000 in
theorem gX5_bodyOf_X5_greatestY : GoodIn wsX5_bodyOf (wsV RX5 72 RX5 yX5_greatestY wsX5_greatestY) := goodIn_app (goodIn_of _ (by decide +kernel)) ggX5_bodyOf_X5_greatestY
set_option maxRecDepth 20000 in
theorem ggX5_bodyOf_X5_wallsBy : GoodIn wsX5_bodyOf wsX5_wallsBy := goodIn_r _ [51, 8, 28, 29, 30, 6, 31, 32, 33, 34, 35, 12, 13, 14, 15, 36, 37, 38, 39, 40, 41, 42, 43, 44, 45, 46, 47, 115, 116, 117, 118, 119, 120, 121, 122, 123, 124] (by decide +kernel) (by decide +kernel)
set_option maxRecDepth 20000 in
theorem gX5_bodyOf_X5_wallsBy : GoodIn wsX5_bodyOf (wsV RX5 75 RX5 yX5_wallsBy wsX5_wallsBy) := goodIn_app (goodIn_of _ (by decide +kernel)) ggX5_bodyOf_X5_wallsBy
set_option maxRecDepth 20000 in
theorem ggX5_bodyOf_X5_touched : GoodIn wsX5_bodyOf wsX5_touched := goodIn_r _ [55, 8, 56, 57, 58, 6, 59, 60, 61, 62, 63, 64, 65, 66, 67, 12, 13, 14, 15, 68, 69, 70, 71, 72, 73, 74, 75, 20, 21, 22, 23, 24, 25, 26, 27, 115, 116, 117, 118, 119, 120, 121, 122, 123, 124] (by decide +kernel) (by decide +kernel)
set_option maxRecDepth 20000 in
theorem gX5_bodyOf_X5_touched : GoodIn wsX5_bodyOf (wsV RX5 152 RX5 yX5_touched wsX5_touched) := goodIn_app (goodIn_of _ (by decide +kernel)) ggX5_bodyOf_X5_touched
set_option maxRecDepth 20000 in
theorem ggX5_bodyOf_X5_freeDirections : GoodIn wsX5_bodyOf wsX5_freeDirections := goodIn_r _ [79, 80, 81, 82, 6, 83, 84, 85, 86, 87, 88, 89, 90, 91, 92, 93, 94, 95, 96, 97, 8, 12, 13, 14, 15, 98, 99, 100, 101, 48, 49, 50, 51, 28, 29, 30, 31, 32, 33, 34, 35, 36, 37, 38, 39, 40, 41, 42, 43, 44, 45, 46, 47, 102, 103, 104, 105, 60, 61, 62, 63, 64, 65, 66, 67, 68, 69, 70, 71, 72, 73, 74, 75, 20, 21, 22, 23, 24, 25, 26, 27, 115, 116, 117, 118, 119, 120, 121, 122, 123, 124] (by decide +kernel) (by decide +kernel)
set_option maxRecDepth 20000 in
theorem gX5_bodyOf_X5_freeDirections : GoodIn wsX5_bodyOf (wsV RX5 101 RX5 yX5_freeDirections wsX5_freeDirections) := goodIn_app (goodIn_of _ (by decide +kernel)) ggX5_bodyOf_X5_freeDirections
set_option maxRecDepth 20000 in
theorem ggX5_bodyOf_X5_isJammed : GoodIn wsX5_bodyOf wsX5_isJammed := goodIn_r _ [109, 76, 77, 78, 6, 79, 80, 81, 82, 83, 84, 85, 86, 87, 88, 89, 90, 91, 92, 93, 94, 95, 96, 97, 8, 12, 13, 14, 15, 98, 99, 100, 101, 48, 49, 50, 51, 28, 29, 30, 31, 32, 33, 34, 35, 36, 37, 38, 39, 40, 41, 42, 43, 44, 45, 46, 47, 102, 103, 104, 105, 60, 61, 62, 63, 64, 65, 66, 67, 68, 69, 70, 71, 72, 73, 74, 75, 20, 21, 22, 23, 24, 25, 26, 27, 115, 116, 117, 118, 119, 120, 121, 122, 123, 124] (by decide +kernel) (by decide +kernel)
set_option maxRecDepth 20000 in
theorem gX5_bodyOf_X5_isJammed : GoodIn wsX5_bodyOf (wsV RX5 155 RX5 yX5_isJammed wsX5_isJammed) := goodIn_app (goodIn_of _ (by decide +kernel)) ggX5_bodyOf_X5_isJammed
set_option maxRecDepth 20000 in
theorem ggX5_bodyOf_X5_cornerValue : GoodIn wsX5_bodyOf wsX5_cornerValue := goodIn_r _ [113, 114, 12, 13, 14, 6, 15, 8, 20, 21, 22, 23, 24, 25, 26, 27, 115, 116, 117, 118, 119, 120, 121, 122, 123, 124] (by decide +kernel) (by decide +kernel)
set_option maxRecDepth 20000 in
theorem gX5_bodyOf_X5_cornerValue : GoodIn wsX5_bodyOf (wsV RX5 158 RX5 yX5_cornerValue wsX5_cornerValue) := goodIn_app (goodIn_of _ (by decide +kernel)) ggX5_bodyOf_X5_cornerValue
theorem dX5_bodyOf_0 : decode cX5_bodyOf 0 = .ok (.aload_n 0, 1) := by decide +kernel
theorem dX5_bodyOf_1 : decode cX5_bodyOf 1 = .ok (.iload_n 1, 1) := by decide +kernel
theorem dX5_bodyOf_2 : decode cX5_bodyOf 2 = .ok (.invokevirtual 133, 3) := by decide +kernel
theorem dX5_bodyOf_5 : decode cX5_bodyOf 5 = .ok (.ifCond .eq 15, 3) := by decide +kernel
theorem dX5_bodyOf_8 : decode cX5_bodyOf 8 = .ok (.iload_n 2, 1) := by decide +kernel
theorem dX5_bodyOf_9 : decode cX5_bodyOf 9 = .ok (.i2l, 1) := by decide +kernel
theorem dX5_bodyOf_10 : decode cX5_bodyOf 10 = .ok (.lconst 0, 1) := by decide +kernel
theorem dX5_bodyOf_11 : decode cX5_bodyOf 11 = .ok (.ldc2_w 150, 3) := by decide +kernel
theorem dX5_bodyOf_14 : decode cX5_bodyOf 14 = .ok (.invokestatic 26, 3) := by decide +kernel
theorem dX5_bodyOf_17 : decode cX5_bodyOf 17 = .ok (.ifCond .ne 6, 3) := by decide +kernel
theorem dX5_bodyOf_20 : decode cX5_bodyOf 20 = .ok (.ldc 120, 2) := by decide +kernel
theorem dX5_bodyOf_22 : decode cX5_bodyOf 22 = .ok (.ireturn, 1) := by decide +kernel
theorem dX5_bodyOf_23 : decode cX5_bodyOf 23 = .ok (.iload_n 2, 1) := by decide +kernel
theorem dX5_bodyOf_24 : decode cX5_bodyOf 24 = .ok (.tableswitch 125 0 9 #[56, 62, 68, 74, 80, 86, 92, 99, 105, 111], 56) := by decide +kernel
theorem dX5_bodyOf_80 : decode cX5_bodyOf 80 = .ok (.aload_n 0, 1) := by decide +kernel
theorem dX5_bodyOf_81 : decode cX5_bodyOf 81 = .ok (.iload_n 1, 1) := by decide +kernel
theorem dX5_bodyOf_82 : decode cX5_bodyOf 82 = .ok (.invokevirtual 30, 3) := by decide +kernel
theorem dX5_bodyOf_85 : decode cX5_bodyOf 85 = .ok (.ireturn, 1) := by decide +kernel
theorem dX5_bodyOf_86 : decode cX5_bodyOf 86 = .ok (.aload_n 0, 1) := by decide +kernel
theorem dX5_bodyOf_87 : decode cX5_bodyOf 87 = .ok (.iload_n 1, 1) := by decide +kernel
theorem dX5_bodyOf_88 : decode cX5_bodyOf 88 = .ok (.invokevirtual 109, 3) := by decide +kernel
theorem dX5_bodyOf_91 : decode cX5_bodyOf 91 = .ok (.ireturn, 1) := by decide +kernel
theorem dX5_bodyOf_92 : decode cX5_bodyOf 92 = .ok (.aload_n 0, 1) := by decide +kernel
theorem dX5_bodyOf_93 : decode cX5_bodyOf 93 = .ok (.iload_n 1, 1) := by decide +kernel
theorem dX5_bodyOf_94 : decode cX5_bodyOf 94 = .ok (.invokevirtual 63, 3) := by decide +kernel
theorem dX5_bodyOf_97 : decode cX5_bodyOf 97 = .ok (.ireturn, 1) := by decide +kernel
theorem dX5_bodyOf_98 : decode cX5_bodyOf 98 = .ok (.aload_n 0, 1) := by decide +kernel
theorem dX5_bodyOf_99 : decode cX5_bodyOf 99 = .ok (.iload_n 1, 1) := by decide +kernel
theorem dX5_bodyOf_100 : decode cX5_bodyOf 100 = .ok (.invokevirtual 66, 3) := by decide +kernel
theorem dX5_bodyOf_103 : decode cX5_bodyOf 103 = .ok (.ireturn, 1) := by decide +kernel
theorem dX5_bodyOf_104 : decode cX5_bodyOf 104 = .ok (.aload_n 0, 1) := by decide +kernel
theorem dX5_bodyOf_105 : decode cX5_bodyOf 105 = .ok (.iload_n 1, 1) := by decide +kernel
theorem dX5_bodyOf_106 : decode cX5_bodyOf 106 = .ok (.invokevirtual 69, 3) := by decide +kernel
theorem dX5_bodyOf_109 : decode cX5_bodyOf 109 = .ok (.ireturn, 1) := by decide +kernel
theorem dX5_bodyOf_110 : decode cX5_bodyOf 110 = .ok (.aload_n 0, 1) := by decide +kernel
theorem dX5_bodyOf_111 : decode cX5_bodyOf 111 = .ok (.iload_n 1, 1) := by decide +kernel
theorem dX5_bodyOf_112 : decode cX5_bodyOf 112 = .ok (.invokevirtual 72, 3) := by decide +kernel
theorem dX5_bodyOf_115 : decode cX5_bodyOf 115 = .ok (.ireturn, 1) := by decide +kernel
theorem dX5_bodyOf_116 : decode cX5_bodyOf 116 = .ok (.aload_n 0, 1) := by decide +kernel
theorem dX5_bodyOf_117 : decode cX5_bodyOf 117 = .ok (.iload_n 1, 1) := by decide +kernel
theorem dX5_bodyOf_118 : decode cX5_bodyOf 118 = .ok (.iconst 0, 1) := by decide +kernel
theorem dX5_bodyOf_119 : decode cX5_bodyOf 119 = .ok (.invokevirtual 75, 3) := by decide +kernel
theorem dX5_bodyOf_122 : decode cX5_bodyOf 122 = .ok (.ireturn, 1) := by decide +kernel
theorem dX5_bodyOf_123 : decode cX5_bodyOf 123 = .ok (.aload_n 0, 1) := by decide +kernel
theorem dX5_bodyOf_124 : decode cX5_bodyOf 124 = .ok (.iload_n 1, 1) := by decide +kernel
theorem dX5_bodyOf_125 : decode cX5_bodyOf 125 = .ok (.invokevirtual 152, 3) := by decide +kernel
theorem dX5_bodyOf_128 : decode cX5_bodyOf 128 = .ok (.ireturn, 1) := by decide +kernel
theorem dX5_bodyOf_129 : decode cX5_bodyOf 129 = .ok (.aload_n 0, 1) := by decide +kernel
theorem dX5_bodyOf_130 : decode cX5_bodyOf 130 = .ok (.iload_n 1, 1) := by decide +kernel
theorem dX5_bodyOf_131 : decode cX5_bodyOf 131 = .ok (.invokevirtual 101, 3) := by decide +kernel
theorem dX5_bodyOf_134 : decode cX5_bodyOf 134 = .ok (.ireturn, 1) := by decide +kernel
theorem dX5_bodyOf_135 : decode cX5_bodyOf 135 = .ok (.aload_n 0, 1) := by decide +kernel
theorem dX5_bodyOf_136 : decode cX5_bodyOf 136 = .ok (.iload_n 1, 1) := by decide +kernel
theorem dX5_bodyOf_137 : decode cX5_bodyOf 137 = .ok (.invokevirtual 155, 3) := by decide +kernel
theorem dX5_bodyOf_140 : decode cX5_bodyOf 140 = .ok (.ifCond .eq 7, 3) := by decide +kernel
theorem dX5_bodyOf_143 : decode cX5_bodyOf 143 = .ok (.iconst 1, 1) := by decide +kernel
theorem dX5_bodyOf_144 : decode cX5_bodyOf 144 = .ok (.goto 4, 3) := by decide +kernel
theorem dX5_bodyOf_147 : decode cX5_bodyOf 147 = .ok (.iconst 0, 1) := by decide +kernel
theorem dX5_bodyOf_148 : decode cX5_bodyOf 148 = .ok (.ireturn, 1) := by decide +kernel
theorem dX5_bodyOf_149 : decode cX5_bodyOf 149 = .ok (.aload_n 0, 1) := by decide +kernel
theorem dX5_bodyOf_150 : decode cX5_bodyOf 150 = .ok (.iload_n 1, 1) := by decide +kernel
theorem dX5_bodyOf_151 : decode cX5_bodyOf 151 = .ok (.iload_n 2, 1) := by decide +kernel
theorem dX5_bodyOf_152 : decode cX5_bodyOf 152 = .ok (.bipush 10, 2) := by decide +kernel
theorem dX5_bodyOf_154 : decode cX5_bodyOf 154 = .ok (.isub, 1) := by decide +kernel
theorem dX5_bodyOf_155 : decode cX5_bodyOf 155 = .ok (.invokevirtual 158, 3) := by decide +kernel
theorem dX5_bodyOf_158 : decode cX5_bodyOf 158 = .ok (.ireturn, 1) := by decide +kernel
set_option maxRecDepth 20000 in
theorem ggX5_parts_X5_isBody : GoodIn wsX5_parts wsX5_isBody := goodIn_r _ [7, 8, 9, 10, 6, 11, 36, 37, 38, 39, 40, 41, 42, 43, 44, 45] (by decide +kernel) (by decide +kernel)
set_option maxRecDepth 20000 in
theorem gX5_parts_X5_isBody : GoodIn wsX5_parts (wsV RX5 133 RX5 yX5_isBody wsX5_isBody) := goodIn_app (goodIn_of _ (by decide +kernel)) ggX5_parts_X5_isBody
set_option maxRecDepth 20000 in
theorem ggX5_parts_X5_in : GoodIn wsX5_parts wsX5_in := goodIn_r _ [11] (by decide +kernel) (by decide +kernel)
set_option maxRecDepth 20000 in
theorem gX5_parts_X5_in : GoodIn wsX5_parts (va_wsS RX5 26 yX5_in wsX5_in) := goodIn_app (goodIn_of _ (by decide +kernel)) ggX5_parts_X5_in
set_option maxRecDepth 20000 in
theorem ggX5_parts_X5_parting : GoodIn wsX5_parts wsX5_parting := goodIn_r _ [15, 16, 17, 18, 6, 19, 8, 20, 21, 22, 23, 24, 25, 26, 27, 28, 29, 30, 31, 32, 33, 34, 35, 36, 37, 38, 39, 40, 41, 42, 43, 44, 45] (by decide +kernel) (by decide +kernel)
set_option maxRecDepth 20000 in
theorem gX5_parts_X5_parting : GoodIn wsX5_parts (wsV RX5 49 RX5 yX5_parting wsX5_parting) := goodIn_app (goodIn_of _ (by decide +kernel)) ggX5_parts_X5_parting
set_option maxRecDepth 20000 in
theorem ggX5_parts_X5_nearest : GoodIn wsX5_parts wsX5_nearest := goodIn_r _ [23, 16, 17, 18, 6, 19, 8, 24, 25, 26, 27, 28, 29, 30, 31, 32, 33, 34, 35, 36, 37, 38, 39, 40, 41, 42, 43, 44, 45] (by decide +kernel) (by decide +kernel)
set_option maxRecDepth 20000 in
theorem gX5_parts_X5_nearest : GoodIn wsX5_parts (wsV RX5 45 RX5 yX5_nearest wsX5_nearest) := goodIn_app (goodIn_of _ (by decide +kernel)) ggX5_parts_X5_nearest
set_option maxRecDepth 20000 in
theorem ggX5_parts_X5_side : GoodIn wsX5_parts wsX5_side := goodIn_r _ [27, 28, 29, 30, 6, 31, 8, 16, 17, 18, 19, 32, 33, 34, 35, 36, 37, 38, 39, 40, 41, 42, 43, 44, 45] (by decide +kernel) (by decide +kernel)
set_option maxRecDepth 20000 in
theorem gX5_parts_X5_side : GoodIn wsX5_parts (wsV RX5 41 RX5 yX5_side wsX5_side) := goodIn_app (goodIn_of _ (by decide +kernel)) ggX5_parts_X5_side
theorem dX5_parts_0 : decode cX5_parts 0 = .ok (.aload_n 0, 1) := by decide +kernel
theorem dX5_parts_1 : decode cX5_parts 1 = .ok (.iload_n 1, 1) := by decide +kernel
theorem dX5_parts_2 : decode cX5_parts 2 = .ok (.invokevirtual 133, 3) := by decide +kernel
theorem dX5_parts_5 : decode cX5_parts 5 = .ok (.ifCond .eq 28, 3) := by decide +kernel
theorem dX5_parts_8 : decode cX5_parts 8 = .ok (.aload_n 0, 1) := by decide +kernel
theorem dX5_parts_9 : decode cX5_parts 9 = .ok (.iload_n 2, 1) := by decide +kernel
theorem dX5_parts_10 : decode cX5_parts 10 = .ok (.invokevirtual 133, 3) := by decide +kernel
theorem dX5_parts_13 : decode cX5_parts 13 = .ok (.ifCond .eq 20, 3) := by decide +kernel
theorem dX5_parts_16 : decode cX5_parts 16 = .ok (.iload_n 1, 1) := by decide +kernel
theorem dX5_parts_17 : decode cX5_parts 17 = .ok (.iload_n 2, 1) := by decide +kernel
theorem dX5_parts_18 : decode cX5_parts 18 = .ok (.if_icmp .eq 15, 3) := by decide +kernel
theorem dX5_parts_21 : decode cX5_parts 21 = .ok (.iload_n 3, 1) := by decide +kernel
theorem dX5_parts_22 : decode cX5_parts 22 = .ok (.i2l, 1) := by decide +kernel
theorem dX5_parts_23 : decode cX5_parts 23 = .ok (.lconst 0, 1) := by decide +kernel
theorem dX5_parts_24 : decode cX5_parts 24 = .ok (.ldc2_w 161, 3) := by decide +kernel
theorem dX5_parts_27 : decode cX5_parts 27 = .ok (.invokestatic 26, 3) := by decide +kernel
theorem dX5_parts_30 : decode cX5_parts 30 = .ok (.ifCond .ne 6, 3) := by decide +kernel
theorem dX5_parts_33 : decode cX5_parts 33 = .ok (.ldc 120, 2) := by decide +kernel
theorem dX5_parts_35 : decode cX5_parts 35 = .ok (.ireturn, 1) := by decide +kernel
theorem dX5_parts_36 : decode cX5_parts 36 = .ok (.aload_n 0, 1) := by decide +kernel
theorem dX5_parts_37 : decode cX5_parts 37 = .ok (.iload_n 1, 1) := by decide +kernel
theorem dX5_parts_38 : decode cX5_parts 38 = .ok (.iload_n 2, 1) := by decide +kernel
theorem dX5_parts_39 : decode cX5_parts 39 = .ok (.iconst 0, 1) := by decide +kernel
theorem dX5_parts_40 : decode cX5_parts 40 = .ok (.invokevirtual 49, 3) := by decide +kernel
theorem dX5_parts_43 : decode cX5_parts 43 = .ok (.istore 4, 2) := by decide +kernel
theorem dX5_parts_45 : decode cX5_parts 45 = .ok (.iload 4, 2) := by decide +kernel
theorem dX5_parts_47 : decode cX5_parts 47 = .ok (.iconst (-1), 1) := by decide +kernel
theorem dX5_parts_48 : decode cX5_parts 48 = .ok (.if_icmp .eq 7, 3) := by decide +kernel
theorem dX5_parts_51 : decode cX5_parts 51 = .ok (.iload_n 1, 1) := by decide +kernel
theorem dX5_parts_52 : decode cX5_parts 52 = .ok (.goto 4, 3) := by decide +kernel
theorem dX5_parts_55 : decode cX5_parts 55 = .ok (.iload_n 2, 1) := by decide +kernel
theorem dX5_parts_56 : decode cX5_parts 56 = .ok (.istore 5, 2) := by decide +kernel
theorem dX5_parts_58 : decode cX5_parts 58 = .ok (.iload 4, 2) := by decide +kernel
theorem dX5_parts_60 : decode cX5_parts 60 = .ok (.iconst (-1), 1) := by decide +kernel
theorem dX5_parts_61 : decode cX5_parts 61 = .ok (.if_icmp .eq 7, 3) := by decide +kernel
theorem dX5_parts_64 : decode cX5_parts 64 = .ok (.iload_n 2, 1) := by decide +kernel
theorem dX5_parts_65 : decode cX5_parts 65 = .ok (.goto 4, 3) := by decide +kernel
theorem dX5_parts_68 : decode cX5_parts 68 = .ok (.iload_n 1, 1) := by decide +kernel
theorem dX5_parts_69 : decode cX5_parts 69 = .ok (.istore 6, 2) := by decide +kernel
theorem dX5_parts_71 : decode cX5_parts 71 = .ok (.iload 4, 2) := by decide +kernel
theorem dX5_parts_73 : decode cX5_parts 73 = .ok (.iconst (-1), 1) := by decide +kernel
theorem dX5_parts_74 : decode cX5_parts 74 = .ok (.if_icmp .eq 8, 3) := by decide +kernel
theorem dX5_parts_77 : decode cX5_parts 77 = .ok (.iload 4, 2) := by decide +kernel
theorem dX5_parts_79 : decode cX5_parts 79 = .ok (.goto 10, 3) := by decide +kernel
theorem dX5_parts_82 : decode cX5_parts 82 = .ok (.aload_n 0, 1) := by decide +kernel
theorem dX5_parts_83 : decode cX5_parts 83 = .ok (.iload_n 2, 1) := by decide +kernel
theorem dX5_parts_84 : decode cX5_parts 84 = .ok (.iload_n 1, 1) := by decide +kernel
theorem dX5_parts_85 : decode cX5_parts 85 = .ok (.iconst 0, 1) := by decide +kernel
theorem dX5_parts_86 : decode cX5_parts 86 = .ok (.invokevirtual 49, 3) := by decide +kernel
theorem dX5_parts_89 : decode cX5_parts 89 = .ok (.istore 7, 2) := by decide +kernel
theorem dX5_parts_91 : decode cX5_parts 91 = .ok (.aload_n 0, 1) := by decide +kernel
theorem dX5_parts_92 : decode cX5_parts 92 = .ok (.iload 5, 2) := by decide +kernel
theorem dX5_parts_94 : decode cX5_parts 94 = .ok (.iload 7, 2) := by decide +kernel
theorem dX5_parts_96 : decode cX5_parts 96 = .ok (.iload 6, 2) := by decide +kernel
theorem dX5_parts_98 : decode cX5_parts 98 = .ok (.invokevirtual 45, 3) := by decide +kernel
theorem dX5_parts_101 : decode cX5_parts 101 = .ok (.istore 8, 2) := by decide +kernel
theorem dX5_parts_103 : decode cX5_parts 103 = .ok (.iload_n 3, 1) := by decide +kernel
theorem dX5_parts_104 : decode cX5_parts 104 = .ok (.ifCond .ne 22, 3) := by decide +kernel
theorem dX5_parts_107 : decode cX5_parts 107 = .ok (.iload 4, 2) := by decide +kernel
theorem dX5_parts_109 : decode cX5_parts 109 = .ok (.iconst (-1), 1) := by decide +kernel
theorem dX5_parts_110 : decode cX5_parts 110 = .ok (.if_icmp .eq 8, 3) := by decide +kernel
theorem dX5_parts_113 : decode cX5_parts 113 = .ok (.iload 7, 2) := by decide +kernel
theorem dX5_parts_115 : decode cX5_parts 115 = .ok (.goto 34, 3) := by decide +kernel
theorem dX5_parts_118 : decode cX5_parts 118 = .ok (.iload 7, 2) := by decide +kernel
theorem dX5_parts_120 : decode cX5_parts 120 = .ok (.bipush 10, 2) := by decide +kernel
theorem dX5_parts_122 : decode cX5_parts 122 = .ok (.iadd, 1) := by decide +kernel
theorem dX5_parts_123 : decode cX5_parts 123 = .ok (.goto 26, 3) := by decide +kernel
theorem dX5_parts_126 : decode cX5_parts 126 = .ok (.iload_n 3, 1) := by decide +kernel
theorem dX5_parts_127 : decode cX5_parts 127 = .ok (.iconst 1, 1) := by decide +kernel
theorem dX5_parts_128 : decode cX5_parts 128 = .ok (.if_icmp .ne 8, 3) := by decide +kernel
theorem dX5_parts_131 : decode cX5_parts 131 = .ok (.iload 8, 2) := by decide +kernel
theorem dX5_parts_133 : decode cX5_parts 133 = .ok (.goto 16, 3) := by decide +kernel
theorem dX5_parts_136 : decode cX5_parts 136 = .ok (.aload_n 0, 1) := by decide +kernel
theorem dX5_parts_137 : decode cX5_parts 137 = .ok (.iload 5, 2) := by decide +kernel
theorem dX5_parts_139 : decode cX5_parts 139 = .ok (.iload 7, 2) := by decide +kernel
theorem dX5_parts_141 : decode cX5_parts 141 = .ok (.iload 6, 2) := by decide +kernel
theorem dX5_parts_143 : decode cX5_parts 143 = .ok (.iload 8, 2) := by decide +kernel
theorem dX5_parts_145 : decode cX5_parts 145 = .ok (.invokevirtual 41, 3) := by decide +kernel
theorem dX5_parts_148 : decode cX5_parts 148 = .ok (.ineg, 1) := by decide +kernel
theorem dX5_parts_149 : decode cX5_parts 149 = .ok (.ireturn, 1) := by decide +kernel
set_option maxRecDepth 20000 in
theorem ggX5_way_X5_isBody : GoodIn wsX5_way wsX5_isBody := goodIn_r _ [7, 8, 9, 10, 6, 11, 103, 104, 105, 106, 107, 108, 109, 110, 111, 112] (by decide +kernel) (by decide +kernel)
set_option maxRecDepth 20000 in
theorem gX5_way_X5_isBody : GoodIn wsX5_way (wsV RX5 133 RX5 yX5_isBody wsX5_isBody) := goodIn_app (goodIn_of _ (by decide +kernel)) ggX5_way_X5_isBody
set_option maxRecDepth 20000 in
theorem ggX5_way_X5_isDirection : GoodIn wsX5_way wsX5_isDirection := goodIn_r _ [14, 15, 9, 10, 6, 11] (by decide +kernel) (by decide +kernel)
set_option maxRecDepth 20000 in
theorem gX5_way_X5_isDirection : GoodIn wsX5_way (va_wsS RX5 140 yX5_isDirection wsX5_isDirection) := goodIn_app (goodIn_of _ (by decide +kernel)) ggX5_way_X5_isDirection
set_option maxRecDepth 20000 in
theorem ggX5_way_X5_in : GoodIn wsX5_way wsX5_in := goodIn_r _ [11] (by decide +kernel) (by decide +kernel)
set_option maxRecDepth 20000 in
theorem gX5_way_X5_in : GoodIn wsX5_way (va_wsS RX5 26 yX5_in wsX5_in) := goodIn_app (goodIn_of _ (by decide +kernel)) ggX5_way_X5_in
set_option maxRecDepth 20000 in
theorem ggX5_way_X5_keep : GoodIn wsX5_way wsX5_keep := goodIn_r _ [19, 20, 8, 103, 104, 105, 106, 107, 108, 109, 110, 111, 112] (by decide +kernel) (by decide +kernel)
set_option maxRecDepth 20000 in
theorem gX5_way_X5_keep : GoodIn wsX5_way (wsV RX5 122 RX5 yX5_keep wsX5_keep) := goodIn_app (goodIn_of _ (by decide +kernel)) ggX5_way_X5_keep
set_option maxRecDepth 20000 in
theorem ggX5_way_X5_slides : GoodIn wsX5_way wsX5_slides := goodIn_r _ [24, 25, 26, 27, 6, 28, 29, 30, 31, 32, 33, 34, 35, 36, 37, 38, 8, 39, 40, 41, 42, 43, 44, 45, 46, 47, 48, 49, 50, 51, 52, 53, 54, 55, 56, 57, 58, 59, 60, 61, 62, 63, 64, 65, 66, 67, 68, 69, 70, 71, 72, 73, 74, 75, 76, 77, 78, 79, 80, 81, 82, 83, 84, 85, 86, 87, 88, 89, 90, 91, 92, 93, 94, 95, 96, 97, 98, 103, 104, 105, 106, 107, 108, 109, 110, 111, 112] (by decide +kernel) (by decide +kernel)
set_option maxRecDepth 20000 in
theorem gX5_way_X5_slides : GoodIn wsX5_way (wsV RX5 106 RX5 yX5_slides wsX5_slides) := goodIn_app (goodIn_of _ (by decide +kernel)) ggX5_way_X5_slides
set_option maxRecDepth 20000 in
theorem ggX5_way_X5_dx : GoodIn wsX5_way wsX5_dx := goodIn_r _ [31] (by decide +kernel) (by decide +kernel)
set_option maxRecDepth 20000 in
theorem gX5_way_X5_dx : GoodIn wsX5_way (va_wsS RX5 81 yX5_dx wsX5_dx) := goodIn_app (goodIn_of _ (by decide +kernel)) ggX5_way_X5_dx
set_option maxRecDepth 20000 in
theorem ggX5_way_X5_dy : GoodIn wsX5_way wsX5_dy := goodIn_r _ [34] (by decide +kernel) (by decide +kernel)
set_option maxRecDepth 20000 in
theorem gX5_way_X5_dy : GoodIn wsX5_way (va_wsS RX5 84 yX5_dy wsX5_dy) := goodIn_app (goodIn_of _ (by decide +kernel)) ggX5_way_X5_dy
set_option maxRecDepth 20000 in
theorem ggX5_way_X5_moves : GoodIn wsX5_way wsX5_moves := goodIn_r _ [38, 8, 39, 40, 41, 6, 42, 103, 104, 105, 106, 107, 108, 109, 110, 111, 112] (by decide +kernel) (by decide +kernel)
set_option maxRecDepth 20000 in
theorem gX5_way_X5_moves : GoodIn wsX5_way (wsV RX5 87 RX5 yX5_moves wsX5_moves) := goodIn_app (goodIn_of _ (by decide +kernel)) ggX5_way_X5_moves
set_option maxRecDepth 20000 in
theorem ggX5_way_X5_overlapped : GoodIn wsX5_way wsX5_overlapped := goodIn_r _ [74, 8, 75, 76, 77, 6, 78, 79, 80, 81, 82, 39, 40, 41, 42, 83, 84, 85, 86, 87, 88, 89, 90, 91, 92, 93, 94, 95, 96, 97, 98, 103, 104, 105, 106, 107, 108, 109, 110, 111, 112] (by decide +kernel) (by decide +kernel)
set_option maxRecDepth 20000 in
theorem gX5_way_X5_overlapped : GoodIn wsX5_way (wsV RX5 78 RX5 yX5_overlapped wsX5_overlapped) := goodIn_app (goodIn_of _ (by decide +kernel)) ggX5_way_X5_overlapped
set_option maxRecDepth 20000 in
theorem ggX5_way_X5_wallsBy : GoodIn wsX5_way wsX5_wallsBy := goodIn_r _ [50, 8, 51, 52, 53, 6, 54, 55, 56, 57, 58, 39, 40, 41, 42, 59, 60, 61, 62, 63, 64, 65, 66, 67, 68, 69, 70, 103, 104, 105, 106, 107, 108, 109, 110, 111, 112] (by decide +kernel) (by decide +kernel)
set_option maxRecDepth 20000 in
theorem gX5_way_X5_wallsBy : GoodIn wsX5_way (wsV RX5 75 RX5 yX5_wallsBy wsX5_wallsBy) := goodIn_app (goodIn_of _ (by decide +kernel)) ggX5_way_X5_wallsBy
set_option maxRecDepth 20000 in
theorem ggX5_way_X5_giveBack : GoodIn wsX5_way wsX5_giveBack := goodIn_r _ [102, 8, 20, 103, 104, 105, 106, 107, 108, 109, 110, 111, 112] (by decide +kernel) (by decide +kernel)
set_option maxRecDepth 20000 in
theorem gX5_way_X5_giveBack : GoodIn wsX5_way (wsV RX5 143 RX5 yX5_giveBack wsX5_giveBack) := goodIn_app (goodIn_of _ (by decide +kernel)) ggX5_way_X5_giveBack
theorem dX5_way_0 : decode cX5_way 0 = .ok (.aload_n 0, 1) := by decide +kernel
theorem dX5_way_1 : decode cX5_way 1 = .ok (.iload_n 1, 1) := by decide +kernel
theorem dX5_way_2 : decode cX5_way 2 = .ok (.invokevirtual 133, 3) := by decide +kernel
theorem dX5_way_5 : decode cX5_way 5 = .ok (.ifCond .eq 22, 3) := by decide +kernel
theorem dX5_way_8 : decode cX5_way 8 = .ok (.iload_n 2, 1) := by decide +kernel
theorem dX5_way_9 : decode cX5_way 9 = .ok (.invokestatic 140, 3) := by decide +kernel
theorem dX5_way_12 : decode cX5_way 12 = .ok (.ifCond .eq 15, 3) := by decide +kernel
theorem dX5_way_15 : decode cX5_way 15 = .ok (.iload_n 3, 1) := by decide +kernel
theorem dX5_way_16 : decode cX5_way 16 = .ok (.i2l, 1) := by decide +kernel
theorem dX5_way_17 : decode cX5_way 17 = .ok (.lconst 0, 1) := by decide +kernel
theorem dX5_way_18 : decode cX5_way 18 = .ok (.ldc2_w 161, 3) := by decide +kernel
theorem dX5_way_21 : decode cX5_way 21 = .ok (.invokestatic 26, 3) := by decide +kernel
theorem dX5_way_24 : decode cX5_way 24 = .ok (.ifCond .ne 6, 3) := by decide +kernel
theorem dX5_way_27 : decode cX5_way 27 = .ok (.ldc 120, 2) := by decide +kernel
theorem dX5_way_29 : decode cX5_way 29 = .ok (.ireturn, 1) := by decide +kernel
theorem dX5_way_30 : decode cX5_way 30 = .ok (.aload_n 0, 1) := by decide +kernel
theorem dX5_way_31 : decode cX5_way 31 = .ok (.invokevirtual 122, 3) := by decide +kernel
theorem dX5_way_34 : decode cX5_way 34 = .ok (.aload_n 0, 1) := by decide +kernel
theorem dX5_way_35 : decode cX5_way 35 = .ok (.iload_n 1, 1) := by decide +kernel
theorem dX5_way_36 : decode cX5_way 36 = .ok (.iload_n 2, 1) := by decide +kernel
theorem dX5_way_37 : decode cX5_way 37 = .ok (.bipush 61, 2) := by decide +kernel
theorem dX5_way_39 : decode cX5_way 39 = .ok (.invokevirtual 106, 3) := by decide +kernel
theorem dX5_way_42 : decode cX5_way 42 = .ok (.istore 4, 2) := by decide +kernel
theorem dX5_way_44 : decode cX5_way 44 = .ok (.aload_n 0, 1) := by decide +kernel
end
section
theorem dX5_way_45 : decode cX5_way 45 = .ok (.iload_n 1, 1) := by decide +kernel
theorem dX5_way_46 : decode cX5_way 46 = .ok (.iload_n 2, 1) := by decide +kernel
theorem dX5_way_47 : decode cX5_way 47 = .ok (.invokestatic 81, 3) := by decide +kernel
theorem dX5_way_50 : decode cX5_way 50 = .ok (.iload_n 2, 1) := by decide +kernel
theorem dX5_way_51 : decode cX5_way 51 = .ok (.invokestatic 84, 3) := by decide +kernel
theorem dX5_way_54 : decode cX5_way 54 = .ok (.invokevirtual 87, 3) := by decide +kernel
theorem dX5_way_57 : decode cX5_way 57 = .ok (.iload_n 3, 1) := by decide +kernel
theorem dX5_way_58 : decode cX5_way 58 = .ok (.ifCond .ne 8, 3) := by decide +kernel
theorem dX5_way_61 : decode cX5_way 61 = .ok (.iload 4, 2) := by decide +kernel
theorem dX5_way_63 : decode cX5_way 63 = .ok (.goto 22, 3) := by decide +kernel
theorem dX5_way_66 : decode cX5_way 66 = .ok (.iload_n 3, 1) := by decide +kernel
theorem dX5_way_67 : decode cX5_way 67 = .ok (.iconst 1, 1) := by decide +kernel
theorem dX5_way_68 : decode cX5_way 68 = .ok (.if_icmp .ne 11, 3) := by decide +kernel
theorem dX5_way_71 : decode cX5_way 71 = .ok (.aload_n 0, 1) := by decide +kernel
theorem dX5_way_72 : decode cX5_way 72 = .ok (.iload_n 1, 1) := by decide +kernel
theorem dX5_way_73 : decode cX5_way 73 = .ok (.invokevirtual 78, 3) := by decide +kernel
theorem dX5_way_76 : decode cX5_way 76 = .ok (.goto 9, 3) := by decide +kernel
theorem dX5_way_79 : decode cX5_way 79 = .ok (.aload_n 0, 1) := by decide +kernel
theorem dX5_way_80 : decode cX5_way 80 = .ok (.iload_n 1, 1) := by decide +kernel
theorem dX5_way_81 : decode cX5_way 81 = .ok (.iconst 1, 1) := by decide +kernel
theorem dX5_way_82 : decode cX5_way 82 = .ok (.invokevirtual 75, 3) := by decide +kernel
theorem dX5_way_85 : decode cX5_way 85 = .ok (.istore 5, 2) := by decide +kernel
theorem dX5_way_87 : decode cX5_way 87 = .ok (.aload_n 0, 1) := by decide +kernel
theorem dX5_way_88 : decode cX5_way 88 = .ok (.invokevirtual 143, 3) := by decide +kernel
theorem dX5_way_91 : decode cX5_way 91 = .ok (.iload 5, 2) := by decide +kernel
theorem dX5_way_93 : decode cX5_way 93 = .ok (.ireturn, 1) := by decide +kernel
set_option maxRecDepth 20000 in
theorem ggX5_together_X5_touched : GoodIn wsX5_together wsX5_touched := goodIn_r _ [6, 1, 7, 8, 9, 5, 10, 11, 12, 13, 14, 15, 16, 17, 18, 19, 20, 21, 22, 23, 24, 25, 26, 27, 28, 29, 30, 31, 32, 33, 34, 35, 36, 37, 38, 39, 40, 41, 42, 43, 44, 45, 46, 47, 48] (by decide +kernel) (by decide +kernel)
set_option maxRecDepth 20000 in
theorem gX5_together_X5_touched : GoodIn wsX5_together (wsV RX5 152 RX5 yX5_touched wsX5_touched) := goodIn_app (goodIn_of _ (by decide +kernel)) ggX5_together_X5_touched
theorem dX5_together_0 : decode cX5_together 0 = .ok (.iload_n 1, 1) := by decide +kernel
theorem dX5_together_1 : decode cX5_together 1 = .ok (.istore_n 2, 1) := by decide +kernel
theorem dX5_together_2 : decode cX5_together 2 = .ok (.iconst 0, 1) := by decide +kernel
theorem dX5_together_3 : decode cX5_together 3 = .ok (.istore_n 3, 1) := by decide +kernel
theorem dX5_together_4 : decode cX5_together 4 = .ok (.iload_n 2, 1) := by decide +kernel
theorem dX5_together_5 : decode cX5_together 5 = .ok (.iload_n 3, 1) := by decide +kernel
theorem dX5_together_6 : decode cX5_together 6 = .ok (.if_icmp .eq 51, 3) := by decide +kernel
theorem dX5_together_9 : decode cX5_together 9 = .ok (.iload_n 2, 1) := by decide +kernel
theorem dX5_together_10 : decode cX5_together 10 = .ok (.istore_n 3, 1) := by decide +kernel
theorem dX5_together_11 : decode cX5_together 11 = .ok (.iconst 0, 1) := by decide +kernel
theorem dX5_together_12 : decode cX5_together 12 = .ok (.istore 4, 2) := by decide +kernel
theorem dX5_together_14 : decode cX5_together 14 = .ok (.iload 4, 2) := by decide +kernel
theorem dX5_together_16 : decode cX5_together 16 = .ok (.aload_n 0, 1) := by decide +kernel
theorem dX5_together_17 : decode cX5_together 17 = .ok (.getfield 7, 3) := by decide +kernel
theorem dX5_together_20 : decode cX5_together 20 = .ok (.iconst 2, 1) := by decide +kernel
theorem dX5_together_21 : decode cX5_together 21 = .ok (.iaload, 1) := by decide +kernel
theorem dX5_together_22 : decode cX5_together 22 = .ok (.if_icmp .ge 32, 3) := by decide +kernel
theorem dX5_together_25 : decode cX5_together 25 = .ok (.iload_n 2, 1) := by decide +kernel
theorem dX5_together_26 : decode cX5_together 26 = .ok (.iload_n 3, 1) := by decide +kernel
theorem dX5_together_27 : decode cX5_together 27 = .ok (.iload 4, 2) := by decide +kernel
theorem dX5_together_29 : decode cX5_together 29 = .ok (.ishr, 1) := by decide +kernel
theorem dX5_together_30 : decode cX5_together 30 = .ok (.iconst 1, 1) := by decide +kernel
theorem dX5_together_31 : decode cX5_together 31 = .ok (.iand, 1) := by decide +kernel
theorem dX5_together_32 : decode cX5_together 32 = .ok (.iconst 1, 1) := by decide +kernel
theorem dX5_together_33 : decode cX5_together 33 = .ok (.if_icmp .ne 12, 3) := by decide +kernel
theorem dX5_together_36 : decode cX5_together 36 = .ok (.aload_n 0, 1) := by decide +kernel
theorem dX5_together_37 : decode cX5_together 37 = .ok (.iload 4, 2) := by decide +kernel
theorem dX5_together_39 : decode cX5_together 39 = .ok (.invokevirtual 152, 3) := by decide +kernel
theorem dX5_together_42 : decode cX5_together 42 = .ok (.goto 4, 3) := by decide +kernel
theorem dX5_together_45 : decode cX5_together 45 = .ok (.iconst 0, 1) := by decide +kernel
theorem dX5_together_46 : decode cX5_together 46 = .ok (.ior, 1) := by decide +kernel
theorem dX5_together_47 : decode cX5_together 47 = .ok (.istore_n 2, 1) := by decide +kernel
theorem dX5_together_48 : decode cX5_together 48 = .ok (.iinc 4 1, 3) := by decide +kernel
theorem dX5_together_51 : decode cX5_together 51 = .ok (.goto (-37), 3) := by decide +kernel
theorem dX5_together_54 : decode cX5_together 54 = .ok (.goto (-50), 3) := by decide +kernel
theorem dX5_together_57 : decode cX5_together 57 = .ok (.iload_n 2, 1) := by decide +kernel
theorem dX5_together_58 : decode cX5_together 58 = .ok (.ireturn, 1) := by decide +kernel
set_option maxRecDepth 20000 in
theorem ggX5_counts_X5_isJammed : GoodIn wsX5_counts wsX5_isJammed := goodIn_r _ [5, 6, 7, 8, 4, 9, 10, 11, 12, 13, 14, 15, 16, 17, 18, 19, 20, 21, 22, 23, 24, 25, 26, 27, 28, 29, 30, 31, 32, 33, 34, 35, 36, 37, 38, 39, 40, 41, 42, 43, 44, 45, 46, 47, 48, 49, 50, 51, 52, 53, 54, 55, 56, 57, 58, 59, 60, 61, 62, 63, 64, 65, 66, 67, 68, 69, 70, 71, 72, 73, 74, 75, 76, 77, 78, 79, 80, 81, 82, 83, 84, 85, 86, 87, 88, 97, 98, 99, 100, 101, 102, 103, 104, 105, 106] (by decide +kernel) (by decide +kernel)
set_option maxRecDepth 20000 in
theorem gX5_counts_X5_isJammed : GoodIn wsX5_counts (wsV RX5 155 RX5 yX5_isJammed wsX5_isJammed) := goodIn_app (goodIn_of _ (by decide +kernel)) ggX5_counts_X5_isJammed
set_option maxRecDepth 20000 in
theorem ggX5_counts_X5_touched : GoodIn wsX5_counts wsX5_touched := goodIn_r _ [92, 28, 93, 94, 95, 4, 96, 65, 66, 67, 68, 69, 70, 71, 72, 29, 30, 31, 32, 73, 74, 75, 76, 77, 78, 79, 80, 81, 82, 83, 84, 85, 86, 87, 88, 97, 98, 99, 100, 101, 102, 103, 104, 105, 106] (by decide +kernel) (by decide +kernel)
set_option maxRecDepth 20000 in
theorem gX5_counts_X5_touched : GoodIn wsX5_counts (wsV RX5 152 RX5 yX5_touched wsX5_touched) := goodIn_app (goodIn_of _ (by decide +kernel)) ggX5_counts_X5_touched
set_option maxRecDepth 20000 in
theorem ggX5_counts_X5_wallsBy : GoodIn wsX5_counts wsX5_wallsBy := goodIn_r _ [40, 28, 41, 42, 43, 4, 44, 45, 46, 47, 48, 29, 30, 31, 32, 49, 50, 51, 52, 53, 54, 55, 56, 57, 58, 59, 60, 97, 98, 99, 100, 101, 102, 103, 104, 105, 106] (by decide +kernel) (by decide +kernel)
set_option maxRecDepth 20000 in
theorem gX5_counts_X5_wallsBy : GoodIn wsX5_counts (wsV RX5 75 RX5 yX5_wallsBy wsX5_wallsBy) := goodIn_app (goodIn_of _ (by decide +kernel)) ggX5_counts_X5_wallsBy
theorem dX5_counts_0 : decode cX5_counts 0 = .ok (.iload_n 2, 1) := by decide +kernel
theorem dX5_counts_1 : decode cX5_counts 1 = .ok (.ifCond .ne 11, 3) := by decide +kernel
theorem dX5_counts_4 : decode cX5_counts 4 = .ok (.aload_n 0, 1) := by decide +kernel
theorem dX5_counts_5 : decode cX5_counts 5 = .ok (.iload_n 1, 1) := by decide +kernel
theorem dX5_counts_6 : decode cX5_counts 6 = .ok (.invokevirtual 155, 3) := by decide +kernel
theorem dX5_counts_9 : decode cX5_counts 9 = .ok (.goto 62, 3) := by decide +kernel
theorem dX5_counts_12 : decode cX5_counts 12 = .ok (.iload_n 2, 1) := by decide +kernel
theorem dX5_counts_13 : decode cX5_counts 13 = .ok (.iconst 1, 1) := by decide +kernel
theorem dX5_counts_14 : decode cX5_counts 14 = .ok (.if_icmp .ne 19, 3) := by decide +kernel
theorem dX5_counts_17 : decode cX5_counts 17 = .ok (.aload_n 0, 1) := by decide +kernel
theorem dX5_counts_18 : decode cX5_counts 18 = .ok (.iload_n 1, 1) := by decide +kernel
theorem dX5_counts_19 : decode cX5_counts 19 = .ok (.invokevirtual 152, 3) := by decide +kernel
theorem dX5_counts_22 : decode cX5_counts 22 = .ok (.ifCond .ne 7, 3) := by decide +kernel
theorem dX5_counts_25 : decode cX5_counts 25 = .ok (.iconst 1, 1) := by decide +kernel
theorem dX5_counts_26 : decode cX5_counts 26 = .ok (.goto 45, 3) := by decide +kernel
theorem dX5_counts_29 : decode cX5_counts 29 = .ok (.iconst 0, 1) := by decide +kernel
theorem dX5_counts_30 : decode cX5_counts 30 = .ok (.goto 41, 3) := by decide +kernel
theorem dX5_counts_33 : decode cX5_counts 33 = .ok (.iload_n 2, 1) := by decide +kernel
theorem dX5_counts_34 : decode cX5_counts 34 = .ok (.iconst 2, 1) := by decide +kernel
theorem dX5_counts_35 : decode cX5_counts 35 = .ok (.if_icmp .ne 20, 3) := by decide +kernel
theorem dX5_counts_38 : decode cX5_counts 38 = .ok (.aload_n 0, 1) := by decide +kernel
theorem dX5_counts_39 : decode cX5_counts 39 = .ok (.iload_n 1, 1) := by decide +kernel
theorem dX5_counts_40 : decode cX5_counts 40 = .ok (.iconst 0, 1) := by decide +kernel
theorem dX5_counts_41 : decode cX5_counts 41 = .ok (.invokevirtual 75, 3) := by decide +kernel
theorem dX5_counts_44 : decode cX5_counts 44 = .ok (.ifCond .eq 7, 3) := by decide +kernel
theorem dX5_counts_47 : decode cX5_counts 47 = .ok (.iconst 1, 1) := by decide +kernel
theorem dX5_counts_48 : decode cX5_counts 48 = .ok (.goto 23, 3) := by decide +kernel
theorem dX5_counts_51 : decode cX5_counts 51 = .ok (.iconst 0, 1) := by decide +kernel
theorem dX5_counts_52 : decode cX5_counts 52 = .ok (.goto 19, 3) := by decide +kernel
theorem dX5_counts_55 : decode cX5_counts 55 = .ok (.aload_n 0, 1) := by decide +kernel
theorem dX5_counts_56 : decode cX5_counts 56 = .ok (.iload_n 1, 1) := by decide +kernel
theorem dX5_counts_57 : decode cX5_counts 57 = .ok (.iconst 0, 1) := by decide +kernel
theorem dX5_counts_58 : decode cX5_counts 58 = .ok (.invokevirtual 75, 3) := by decide +kernel
theorem dX5_counts_61 : decode cX5_counts 61 = .ok (.iconst 4, 1) := by decide +kernel
theorem dX5_counts_62 : decode cX5_counts 62 = .ok (.iand, 1) := by decide +kernel
theorem dX5_counts_63 : decode cX5_counts 63 = .ok (.ifCond .eq 7, 3) := by decide +kernel
theorem dX5_counts_66 : decode cX5_counts 66 = .ok (.iconst 1, 1) := by decide +kernel
theorem dX5_counts_67 : decode cX5_counts 67 = .ok (.goto 4, 3) := by decide +kernel
theorem dX5_counts_70 : decode cX5_counts 70 = .ok (.iconst 0, 1) := by decide +kernel
theorem dX5_counts_71 : decode cX5_counts 71 = .ok (.ireturn, 1) := by decide +kernel
set_option maxRecDepth 20000 in
theorem ggX5_bodies_X5_in : GoodIn wsX5_bodies wsX5_in := goodIn_r _ [7] (by decide +kernel) (by decide +kernel)
set_option maxRecDepth 20000 in
theorem gX5_bodies_X5_in : GoodIn wsX5_bodies (va_wsS RX5 26 yX5_in wsX5_in) := goodIn_app (goodIn_of _ (by decide +kernel)) ggX5_bodies_X5_in
set_option maxRecDepth 20000 in
theorem ggX5_bodies_X5_counts : GoodIn wsX5_bodies wsX5_counts := goodIn_r _ [11, 12, 13, 14, 6, 15, 16, 17, 18, 19, 20, 21, 22, 23, 24, 25, 26, 27, 28, 29, 30, 31, 32, 33, 34, 35, 36, 37, 3, 38, 39, 40, 41, 42, 43, 44, 45, 46, 47, 48, 49, 50, 51, 52, 53, 54, 55, 56, 57, 58, 59, 60, 61, 62, 63, 64, 65, 66, 67, 68, 69, 70, 71, 72, 73, 74, 75, 76, 77, 78, 79, 80, 81, 82, 83, 84, 85, 86, 87, 88, 89, 90, 91, 92, 93, 94, 95, 96, 97, 98, 99, 100, 101, 102, 103, 104, 105, 110, 111, 112, 113, 114, 115, 116, 117, 118, 119] (by decide +kernel) (by decide +kernel)
set_option maxRecDepth 20000 in
theorem gX5_bodies_X5_counts : GoodIn wsX5_bodies (wsV RX5 165 RX5 yX5_counts wsX5_counts) := goodIn_app (goodIn_of _ (by decide +kernel)) ggX5_bodies_X5_counts
set_option maxRecDepth 20000 in
theorem ggX5_bodies_X5_together : GoodIn wsX5_bodies wsX5_together := goodIn_r _ [109, 3, 98, 99, 100, 6, 101, 102, 103, 104, 105, 74, 75, 76, 77, 78, 79, 80, 81, 38, 39, 40, 41, 82, 83, 84, 85, 86, 87, 88, 89, 90, 91, 92, 93, 94, 95, 96, 97, 110, 111, 112, 113, 114, 115, 116, 117, 118, 119] (by decide +kernel) (by decide +kernel)
set_option maxRecDepth 20000 in
theorem gX5_bodies_X5_together : GoodIn wsX5_bodies (wsV RX5 168 RX5 yX5_together wsX5_together) := goodIn_app (goodIn_of _ (by decide +kernel)) ggX5_bodies_X5_together
theorem dX5_bodies_0 : decode cX5_bodies 0 = .ok (.iload_n 1, 1) := by decide +kernel
theorem dX5_bodies_1 : decode cX5_bodies 1 = .ok (.i2l, 1) := by decide +kernel
theorem dX5_bodies_2 : decode cX5_bodies 2 = .ok (.lconst 0, 1) := by decide +kernel
theorem dX5_bodies_3 : decode cX5_bodies 3 = .ok (.ldc2_w 163, 3) := by decide +kernel
theorem dX5_bodies_6 : decode cX5_bodies 6 = .ok (.invokestatic 26, 3) := by decide +kernel
theorem dX5_bodies_9 : decode cX5_bodies 9 = .ok (.ifCond .ne 6, 3) := by decide +kernel
theorem dX5_bodies_12 : decode cX5_bodies 12 = .ok (.ldc 120, 2) := by decide +kernel
theorem dX5_bodies_14 : decode cX5_bodies 14 = .ok (.ireturn, 1) := by decide +kernel
theorem dX5_bodies_15 : decode cX5_bodies 15 = .ok (.iconst 0, 1) := by decide +kernel
theorem dX5_bodies_16 : decode cX5_bodies 16 = .ok (.istore_n 2, 1) := by decide +kernel
theorem dX5_bodies_17 : decode cX5_bodies 17 = .ok (.iconst 0, 1) := by decide +kernel
theorem dX5_bodies_18 : decode cX5_bodies 18 = .ok (.istore_n 3, 1) := by decide +kernel
theorem dX5_bodies_19 : decode cX5_bodies 19 = .ok (.iload_n 3, 1) := by decide +kernel
theorem dX5_bodies_20 : decode cX5_bodies 20 = .ok (.aload_n 0, 1) := by decide +kernel
theorem dX5_bodies_21 : decode cX5_bodies 21 = .ok (.getfield 7, 3) := by decide +kernel
theorem dX5_bodies_24 : decode cX5_bodies 24 = .ok (.iconst 2, 1) := by decide +kernel
theorem dX5_bodies_25 : decode cX5_bodies 25 = .ok (.iaload, 1) := by decide +kernel
theorem dX5_bodies_26 : decode cX5_bodies 26 = .ok (.if_icmp .ge 28, 3) := by decide +kernel
theorem dX5_bodies_29 : decode cX5_bodies 29 = .ok (.iload_n 2, 1) := by decide +kernel
theorem dX5_bodies_30 : decode cX5_bodies 30 = .ok (.aload_n 0, 1) := by decide +kernel
theorem dX5_bodies_31 : decode cX5_bodies 31 = .ok (.iload_n 3, 1) := by decide +kernel
theorem dX5_bodies_32 : decode cX5_bodies 32 = .ok (.iload_n 1, 1) := by decide +kernel
theorem dX5_bodies_33 : decode cX5_bodies 33 = .ok (.invokevirtual 165, 3) := by decide +kernel
theorem dX5_bodies_36 : decode cX5_bodies 36 = .ok (.ifCond .eq 9, 3) := by decide +kernel
theorem dX5_bodies_39 : decode cX5_bodies 39 = .ok (.iconst 1, 1) := by decide +kernel
theorem dX5_bodies_40 : decode cX5_bodies 40 = .ok (.iload_n 3, 1) := by decide +kernel
theorem dX5_bodies_41 : decode cX5_bodies 41 = .ok (.ishl, 1) := by decide +kernel
theorem dX5_bodies_42 : decode cX5_bodies 42 = .ok (.goto 4, 3) := by decide +kernel
theorem dX5_bodies_45 : decode cX5_bodies 45 = .ok (.iconst 0, 1) := by decide +kernel
theorem dX5_bodies_46 : decode cX5_bodies 46 = .ok (.ior, 1) := by decide +kernel
theorem dX5_bodies_47 : decode cX5_bodies 47 = .ok (.istore_n 2, 1) := by decide +kernel
theorem dX5_bodies_48 : decode cX5_bodies 48 = .ok (.iinc 3 1, 3) := by decide +kernel
theorem dX5_bodies_51 : decode cX5_bodies 51 = .ok (.goto (-32), 3) := by decide +kernel
theorem dX5_bodies_54 : decode cX5_bodies 54 = .ok (.iload_n 1, 1) := by decide +kernel
theorem dX5_bodies_55 : decode cX5_bodies 55 = .ok (.iconst 3, 1) := by decide +kernel
theorem dX5_bodies_56 : decode cX5_bodies 56 = .ok (.if_icmp .ne 11, 3) := by decide +kernel
theorem dX5_bodies_59 : decode cX5_bodies 59 = .ok (.aload_n 0, 1) := by decide +kernel
theorem dX5_bodies_60 : decode cX5_bodies 60 = .ok (.iload_n 2, 1) := by decide +kernel
theorem dX5_bodies_61 : decode cX5_bodies 61 = .ok (.invokevirtual 168, 3) := by decide +kernel
theorem dX5_bodies_64 : decode cX5_bodies 64 = .ok (.goto 4, 3) := by decide +kernel
theorem dX5_bodies_67 : decode cX5_bodies 67 = .ok (.iload_n 2, 1) := by decide +kernel
theorem dX5_bodies_68 : decode cX5_bodies 68 = .ok (.ireturn, 1) := by decide +kernel
set_option maxRecDepth 20000 in
theorem ggX5_group_X5_together : GoodIn wsX5_group wsX5_together := goodIn_r _ [8, 2, 9, 10, 11, 7, 12, 13, 14, 15, 16, 17, 18, 19, 20, 21, 22, 23, 24, 25, 26, 27, 28, 29, 30, 31, 32, 33, 34, 35, 36, 37, 38, 39, 40, 41, 42, 43, 44, 45, 46, 47, 48, 49, 50, 51, 52, 53, 54] (by decide +kernel) (by decide +kernel)
set_option maxRecDepth 20000 in
theorem gX5_group_X5_together : GoodIn wsX5_group (wsV RX5 168 RX5 yX5_together wsX5_together) := goodIn_app (goodIn_of _ (by decide +kernel)) ggX5_group_X5_together
theorem dX5_group_0 : decode cX5_group 0 = .ok (.iload_n 1, 1) := by decide +kernel
theorem dX5_group_1 : decode cX5_group 1 = .ok (.iconst (-1), 1) := by decide +kernel
theorem dX5_group_2 : decode cX5_group 2 = .ok (.if_icmp .ge 6, 3) := by decide +kernel
theorem dX5_group_5 : decode cX5_group 5 = .ok (.ldc 120, 2) := by decide +kernel
theorem dX5_group_7 : decode cX5_group 7 = .ok (.ireturn, 1) := by decide +kernel
theorem dX5_group_8 : decode cX5_group 8 = .ok (.iconst 0, 1) := by decide +kernel
theorem dX5_group_9 : decode cX5_group 9 = .ok (.istore_n 2, 1) := by decide +kernel
theorem dX5_group_10 : decode cX5_group 10 = .ok (.iconst 0, 1) := by decide +kernel
theorem dX5_group_11 : decode cX5_group 11 = .ok (.istore_n 3, 1) := by decide +kernel
theorem dX5_group_12 : decode cX5_group 12 = .ok (.iconst 0, 1) := by decide +kernel
theorem dX5_group_13 : decode cX5_group 13 = .ok (.istore 4, 2) := by decide +kernel
theorem dX5_group_15 : decode cX5_group 15 = .ok (.iload 4, 2) := by decide +kernel
theorem dX5_group_17 : decode cX5_group 17 = .ok (.aload_n 0, 1) := by decide +kernel
theorem dX5_group_18 : decode cX5_group 18 = .ok (.getfield 7, 3) := by decide +kernel
theorem dX5_group_21 : decode cX5_group 21 = .ok (.iconst 2, 1) := by decide +kernel
theorem dX5_group_22 : decode cX5_group 22 = .ok (.iaload, 1) := by decide +kernel
theorem dX5_group_23 : decode cX5_group 23 = .ok (.if_icmp .ge 44, 3) := by decide +kernel
theorem dX5_group_26 : decode cX5_group 26 = .ok (.iload_n 2, 1) := by decide +kernel
theorem dX5_group_27 : decode cX5_group 27 = .ok (.iload 4, 2) := by decide +kernel
theorem dX5_group_29 : decode cX5_group 29 = .ok (.ishr, 1) := by decide +kernel
theorem dX5_group_30 : decode cX5_group 30 = .ok (.iconst 1, 1) := by decide +kernel
theorem dX5_group_31 : decode cX5_group 31 = .ok (.iand, 1) := by decide +kernel
theorem dX5_group_32 : decode cX5_group 32 = .ok (.ifCond .ne 29, 3) := by decide +kernel
theorem dX5_group_35 : decode cX5_group 35 = .ok (.aload_n 0, 1) := by decide +kernel
theorem dX5_group_36 : decode cX5_group 36 = .ok (.iconst 1, 1) := by decide +kernel
theorem dX5_group_37 : decode cX5_group 37 = .ok (.iload 4, 2) := by decide +kernel
theorem dX5_group_39 : decode cX5_group 39 = .ok (.ishl, 1) := by decide +kernel
theorem dX5_group_40 : decode cX5_group 40 = .ok (.invokevirtual 168, 3) := by decide +kernel
theorem dX5_group_43 : decode cX5_group 43 = .ok (.istore 5, 2) := by decide +kernel
theorem dX5_group_45 : decode cX5_group 45 = .ok (.iload_n 3, 1) := by decide +kernel
theorem dX5_group_46 : decode cX5_group 46 = .ok (.iload_n 1, 1) := by decide +kernel
theorem dX5_group_47 : decode cX5_group 47 = .ok (.if_icmp .ne 6, 3) := by decide +kernel
theorem dX5_group_50 : decode cX5_group 50 = .ok (.iload 5, 2) := by decide +kernel
theorem dX5_group_52 : decode cX5_group 52 = .ok (.ireturn, 1) := by decide +kernel
theorem dX5_group_53 : decode cX5_group 53 = .ok (.iload_n 2, 1) := by decide +kernel
theorem dX5_group_54 : decode cX5_group 54 = .ok (.iload 5, 2) := by decide +kernel
theorem dX5_group_56 : decode cX5_group 56 = .ok (.ior, 1) := by decide +kernel
theorem dX5_group_57 : decode cX5_group 57 = .ok (.istore_n 2, 1) := by decide +kernel
theorem dX5_group_58 : decode cX5_group 58 = .ok (.iinc 3 1, 3) := by decide +kernel
theorem dX5_group_61 : decode cX5_group 61 = .ok (.iinc 4 1, 3) := by decide +kernel
theorem dX5_group_64 : decode cX5_group 64 = .ok (.goto (-49), 3) := by decide +kernel
theorem dX5_group_67 : decode cX5_group 67 = .ok (.iload_n 1, 1) := by decide +kernel
theorem dX5_group_68 : decode cX5_group 68 = .ok (.iconst (-1), 1) := by decide +kernel
theorem dX5_group_69 : decode cX5_group 69 = .ok (.if_icmp .ne 7, 3) := by decide +kernel
theorem dX5_group_72 : decode cX5_group 72 = .ok (.iload_n 3, 1) := by decide +kernel
theorem dX5_group_73 : decode cX5_group 73 = .ok (.goto 5, 3) := by decide +kernel
theorem dX5_group_76 : decode cX5_group 76 = .ok (.ldc 149, 2) := by decide +kernel
theorem dX5_group_78 : decode cX5_group 78 = .ok (.ireturn, 1) := by decide +kernel
theorem dX5_shareBits_0 : decode cX5_shareBits 0 = .ok (.iload_n 0, 1) := by decide +kernel
theorem dX5_shareBits_1 : decode cX5_shareBits 1 = .ok (.i2l, 1) := by decide +kernel
theorem dX5_shareBits_2 : decode cX5_shareBits 2 = .ok (.lstore_n 2, 1) := by decide +kernel
theorem dX5_shareBits_3 : decode cX5_shareBits 3 = .ok (.iload_n 1, 1) := by decide +kernel
theorem dX5_shareBits_4 : decode cX5_shareBits 4 = .ok (.i2l, 1) := by decide +kernel
theorem dX5_shareBits_5 : decode cX5_shareBits 5 = .ok (.lstore 4, 2) := by decide +kernel
theorem dX5_shareBits_7 : decode cX5_shareBits 7 = .ok (.bipush 127, 2) := by decide +kernel
theorem dX5_shareBits_9 : decode cX5_shareBits 9 = .ok (.istore 6, 2) := by decide +kernel
theorem dX5_shareBits_11 : decode cX5_shareBits 11 = .ok (.lload_n 2, 1) := by decide +kernel
theorem dX5_shareBits_12 : decode cX5_shareBits 12 = .ok (.ldc2_w 161, 3) := by decide +kernel
theorem dX5_shareBits_15 : decode cX5_shareBits 15 = .ok (.lload 4, 2) := by decide +kernel
theorem dX5_shareBits_17 : decode cX5_shareBits 17 = .ok (.lmul, 1) := by decide +kernel
theorem dX5_shareBits_18 : decode cX5_shareBits 18 = .ok (.lcmp, 1) := by decide +kernel
theorem dX5_shareBits_19 : decode cX5_shareBits 19 = .ok (.ifCond .lt 17, 3) := by decide +kernel
theorem dX5_shareBits_22 : decode cX5_shareBits 22 = .ok (.lload 4, 2) := by decide +kernel
theorem dX5_shareBits_24 : decode cX5_shareBits 24 = .ok (.ldc2_w 161, 3) := by decide +kernel
theorem dX5_shareBits_27 : decode cX5_shareBits 27 = .ok (.lmul, 1) := by decide +kernel
theorem dX5_shareBits_28 : decode cX5_shareBits 28 = .ok (.lstore 4, 2) := by decide +kernel
theorem dX5_shareBits_30 : decode cX5_shareBits 30 = .ok (.iinc 6 1, 3) := by decide +kernel
theorem dX5_shareBits_33 : decode cX5_shareBits 33 = .ok (.goto (-22), 3) := by decide +kernel
theorem dX5_shareBits_36 : decode cX5_shareBits 36 = .ok (.lload_n 2, 1) := by decide +kernel
theorem dX5_shareBits_37 : decode cX5_shareBits 37 = .ok (.lload 4, 2) := by decide +kernel
theorem dX5_shareBits_39 : decode cX5_shareBits 39 = .ok (.lcmp, 1) := by decide +kernel
theorem dX5_shareBits_40 : decode cX5_shareBits 40 = .ok (.ifCond .ge 15, 3) := by decide +kernel
theorem dX5_shareBits_43 : decode cX5_shareBits 43 = .ok (.lload_n 2, 1) := by decide +kernel
theorem dX5_shareBits_44 : decode cX5_shareBits 44 = .ok (.ldc2_w 161, 3) := by decide +kernel
theorem dX5_shareBits_47 : decode cX5_shareBits 47 = .ok (.lmul, 1) := by decide +kernel
theorem dX5_shareBits_48 : decode cX5_shareBits 48 = .ok (.lstore_n 2, 1) := by decide +kernel
theorem dX5_shareBits_49 : decode cX5_shareBits 49 = .ok (.iinc 6 (-1), 3) := by decide +kernel
theorem dX5_shareBits_52 : decode cX5_shareBits 52 = .ok (.goto (-16), 3) := by decide +kernel
theorem dX5_shareBits_55 : decode cX5_shareBits 55 = .ok (.lload_n 2, 1) := by decide +kernel
theorem dX5_shareBits_56 : decode cX5_shareBits 56 = .ok (.ldc2_w 171, 3) := by decide +kernel
theorem dX5_shareBits_59 : decode cX5_shareBits 59 = .ok (.lmul, 1) := by decide +kernel
theorem dX5_shareBits_60 : decode cX5_shareBits 60 = .ok (.lload 4, 2) := by decide +kernel
theorem dX5_shareBits_62 : decode cX5_shareBits 62 = .ok (.ldiv, 1) := by decide +kernel
theorem dX5_shareBits_63 : decode cX5_shareBits 63 = .ok (.lstore 7, 2) := by decide +kernel
theorem dX5_shareBits_65 : decode cX5_shareBits 65 = .ok (.lload_n 2, 1) := by decide +kernel
theorem dX5_shareBits_66 : decode cX5_shareBits 66 = .ok (.ldc2_w 171, 3) := by decide +kernel
theorem dX5_shareBits_69 : decode cX5_shareBits 69 = .ok (.lmul, 1) := by decide +kernel
theorem dX5_shareBits_70 : decode cX5_shareBits 70 = .ok (.lload 4, 2) := by decide +kernel
theorem dX5_shareBits_72 : decode cX5_shareBits 72 = .ok (.lrem, 1) := by decide +kernel
theorem dX5_shareBits_73 : decode cX5_shareBits 73 = .ok (.lstore 9, 2) := by decide +kernel
theorem dX5_shareBits_75 : decode cX5_shareBits 75 = .ok (.ldc2_w 161, 3) := by decide +kernel
theorem dX5_shareBits_78 : decode cX5_shareBits 78 = .ok (.lload 9, 2) := by decide +kernel
theorem dX5_shareBits_80 : decode cX5_shareBits 80 = .ok (.lmul, 1) := by decide +kernel
theorem dX5_shareBits_81 : decode cX5_shareBits 81 = .ok (.lload 4, 2) := by decide +kernel
theorem dX5_shareBits_83 : decode cX5_shareBits 83 = .ok (.lcmp, 1) := by decide +kernel
theorem dX5_shareBits_84 : decode cX5_shareBits 84 = .ok (.ifCond .gt 26, 3) := by decide +kernel
theorem dX5_shareBits_87 : decode cX5_shareBits 87 = .ok (.ldc2_w 161, 3) := by decide +kernel
theorem dX5_shareBits_90 : decode cX5_shareBits 90 = .ok (.lload 9, 2) := by decide +kernel
theorem dX5_shareBits_92 : decode cX5_shareBits 92 = .ok (.lmul, 1) := by decide +kernel
theorem dX5_shareBits_93 : decode cX5_shareBits 93 = .ok (.lload 4, 2) := by decide +kernel
theorem dX5_shareBits_95 : decode cX5_shareBits 95 = .ok (.lcmp, 1) := by decide +kernel
theorem dX5_shareBits_96 : decode cX5_shareBits 96 = .ok (.ifCond .ne 18, 3) := by decide +kernel
theorem dX5_shareBits_99 : decode cX5_shareBits 99 = .ok (.lload 7, 2) := by decide +kernel
theorem dX5_shareBits_101 : decode cX5_shareBits 101 = .ok (.ldc2_w 161, 3) := by decide +kernel
theorem dX5_shareBits_104 : decode cX5_shareBits 104 = .ok (.lrem, 1) := by decide +kernel
theorem dX5_shareBits_105 : decode cX5_shareBits 105 = .ok (.lconst 1, 1) := by decide +kernel
theorem dX5_shareBits_106 : decode cX5_shareBits 106 = .ok (.lcmp, 1) := by decide +kernel
theorem dX5_shareBits_107 : decode cX5_shareBits 107 = .ok (.ifCond .ne 7, 3) := by decide +kernel
theorem dX5_shareBits_110 : decode cX5_shareBits 110 = .ok (.iconst 1, 1) := by decide +kernel
theorem dX5_shareBits_111 : decode cX5_shareBits 111 = .ok (.goto 4, 3) := by decide +kernel
theorem dX5_shareBits_114 : decode cX5_shareBits 114 = .ok (.iconst 0, 1) := by decide +kernel
theorem dX5_shareBits_115 : decode cX5_shareBits 115 = .ok (.istore 11, 2) := by decide +kernel
theorem dX5_shareBits_117 : decode cX5_shareBits 117 = .ok (.lload 7, 2) := by decide +kernel
theorem dX5_shareBits_119 : decode cX5_shareBits 119 = .ok (.iload 11, 2) := by decide +kernel
theorem dX5_shareBits_121 : decode cX5_shareBits 121 = .ok (.ifCond .eq 7, 3) := by decide +kernel
theorem dX5_shareBits_124 : decode cX5_shareBits 124 = .ok (.lconst 1, 1) := by decide +kernel
theorem dX5_shareBits_125 : decode cX5_shareBits 125 = .ok (.goto 4, 3) := by decide +kernel
theorem dX5_shareBits_128 : decode cX5_shareBits 128 = .ok (.lconst 0, 1) := by decide +kernel
theorem dX5_shareBits_129 : decode cX5_shareBits 129 = .ok (.ladd, 1) := by decide +kernel
theorem dX5_shareBits_130 : decode cX5_shareBits 130 = .ok (.lstore 7, 2) := by decide +kernel
theorem dX5_shareBits_132 : decode cX5_shareBits 132 = .ok (.lload 7, 2) := by decide +kernel
theorem dX5_shareBits_134 : decode cX5_shareBits 134 = .ok (.ldc2_w 173, 3) := by decide +kernel
theorem dX5_shareBits_137 : decode cX5_shareBits 137 = .ok (.lcmp, 1) := by decide +kernel
theorem dX5_shareBits_138 : decode cX5_shareBits 138 = .ok (.ifCond .ne 11, 3) := by decide +kernel
theorem dX5_shareBits_141 : decode cX5_shareBits 141 = .ok (.ldc2_w 171, 3) := by decide +kernel
theorem dX5_shareBits_144 : decode cX5_shareBits 144 = .ok (.lstore 7, 2) := by decide +kernel
theorem dX5_shareBits_146 : decode cX5_shareBits 146 = .ok (.iinc 6 1, 3) := by decide +kernel
theorem dX5_shareBits_149 : decode cX5_shareBits 149 = .ok (.iload 6, 2) := by decide +kernel
theorem dX5_shareBits_151 : decode cX5_shareBits 151 = .ok (.i2l, 1) := by decide +kernel
theorem dX5_shareBits_152 : decode cX5_shareBits 152 = .ok (.ldc2_w 171, 3) := by decide +kernel
theorem dX5_shareBits_155 : decode cX5_shareBits 155 = .ok (.lmul, 1) := by decide +kernel
theorem dX5_shareBits_156 : decode cX5_shareBits 156 = .ok (.lload 7, 2) := by decide +kernel
theorem dX5_shareBits_158 : decode cX5_shareBits 158 = .ok (.ladd, 1) := by decide +kernel
theorem dX5_shareBits_159 : decode cX5_shareBits 159 = .ok (.ldc2_w 171, 3) := by decide +kernel
theorem dX5_shareBits_162 : decode cX5_shareBits 162 = .ok (.lsub, 1) := by decide +kernel
theorem dX5_shareBits_163 : decode cX5_shareBits 163 = .ok (.l2i, 1) := by decide +kernel
theorem dX5_shareBits_164 : decode cX5_shareBits 164 = .ok (.ireturn, 1) := by decide +kernel
set_option maxRecDepth 20000 in
theorem ggX5_density_X5_areas : GoodIn wsX5_density wsX5_areas := goodIn_r _ [6, 1, 7, 8, 9, 5, 10, 11, 12, 13, 14, 15, 16, 17, 18, 19, 20, 21, 22, 29, 30, 31, 32, 33, 34, 35, 36, 37, 38] (by decide +kernel) (by decide +kernel)
set_option maxRecDepth 20000 in
theorem gX5_density_X5_areas : GoodIn wsX5_density (wsV RX5 175 RX5 yX5_areas wsX5_areas) := goodIn_app (goodIn_of _ (by decide +kernel)) ggX5_density_X5_areas
set_option maxRecDepth 20000 in
theorem ggX5_density_X5_shareBits : GoodIn wsX5_density wsX5_shareBits := goodIn_r _ [25, 26, 27, 28] (by decide +kernel) (by decide +kernel)
set_option maxRecDepth 20000 in
theorem gX5_density_X5_shareBits : GoodIn wsX5_density (va_wsS RX5 179 yX5_shareBits wsX5_shareBits) := goodIn_app (goodIn_of _ (by decide +kernel)) ggX5_density_X5_shareBits
theorem dX5_density_0 : decode cX5_density 0 = .ok (.aload_n 0, 1) := by decide +kernel
theorem dX5_density_1 : decode cX5_density 1 = .ok (.invokevirtual 175, 3) := by decide +kernel
theorem dX5_density_4 : decode cX5_density 4 = .ok (.istore_n 1, 1) := by decide +kernel
theorem dX5_density_5 : decode cX5_density 5 = .ok (.iload_n 1, 1) := by decide +kernel
theorem dX5_density_6 : decode cX5_density 6 = .ok (.ifCond .ne 7, 3) := by decide +kernel
theorem dX5_density_9 : decode cX5_density 9 = .ok (.iconst 0, 1) := by decide +kernel
theorem dX5_density_10 : decode cX5_density 10 = .ok (.goto 22, 3) := by decide +kernel
theorem dX5_density_13 : decode cX5_density 13 = .ok (.iload_n 1, 1) := by decide +kernel
theorem dX5_density_14 : decode cX5_density 14 = .ok (.iconst 2, 1) := by decide +kernel
theorem dX5_density_15 : decode cX5_density 15 = .ok (.aload_n 0, 1) := by decide +kernel
theorem dX5_density_16 : decode cX5_density 16 = .ok (.getfield 7, 3) := by decide +kernel
theorem dX5_density_19 : decode cX5_density 19 = .ok (.iconst 0, 1) := by decide +kernel
theorem dX5_density_20 : decode cX5_density 20 = .ok (.iaload, 1) := by decide +kernel
theorem dX5_density_21 : decode cX5_density 21 = .ok (.imul, 1) := by decide +kernel
theorem dX5_density_22 : decode cX5_density 22 = .ok (.aload_n 0, 1) := by decide +kernel
theorem dX5_density_23 : decode cX5_density 23 = .ok (.getfield 7, 3) := by decide +kernel
theorem dX5_density_26 : decode cX5_density 26 = .ok (.iconst 1, 1) := by decide +kernel
theorem dX5_density_27 : decode cX5_density 27 = .ok (.iaload, 1) := by decide +kernel
theorem dX5_density_28 : decode cX5_density 28 = .ok (.imul, 1) := by decide +kernel
theorem dX5_density_29 : decode cX5_density 29 = .ok (.invokestatic 179, 3) := by decide +kernel
theorem dX5_density_32 : decode cX5_density 32 = .ok (.ireturn, 1) := by decide +kernel
set_option maxRecDepth 20000 in
theorem ggX5_keystone_X5_isDirection : GoodIn wsX5_keystone wsX5_isDirection := goodIn_r _ [7, 8, 9, 10, 6, 11] (by decide +kernel) (by decide +kernel)
set_option maxRecDepth 20000 in
theorem gX5_keystone_X5_isDirection : GoodIn wsX5_keystone (va_wsS RX5 140 yX5_isDirection wsX5_isDirection) := goodIn_app (goodIn_of _ (by decide +kernel)) ggX5_keystone_X5_isDirection
set_option maxRecDepth 20000 in
theorem ggX5_keystone_X5_in : GoodIn wsX5_keystone wsX5_in := goodIn_r _ [11] (by decide +kernel) (by decide +kernel)
set_option maxRecDepth 20000 in
theorem gX5_keystone_X5_in : GoodIn wsX5_keystone (va_wsS RX5 26 yX5_in wsX5_in) := goodIn_app (goodIn_of _ (by decide +kernel)) ggX5_keystone_X5_in
set_option maxRecDepth 20000 in
theorem ggX5_keystone_X5_keep : GoodIn wsX5_keystone wsX5_keep := goodIn_r _ [15, 16, 2, 111, 112, 113, 114, 115, 116, 117, 118, 119, 120] (by decide +kernel) (by decide +kernel)
set_option maxRecDepth 20000 in
theorem gX5_keystone_X5_keep : GoodIn wsX5_keystone (wsV RX5 122 RX5 yX5_keep wsX5_keep) := goodIn_app (goodIn_of _ (by decide +kernel)) ggX5_keystone_X5_keep
set_option maxRecDepth 20000 in
theorem ggX5_keystone_X5_takesOut : GoodIn wsX5_keystone wsX5_takesOut := goodIn_r _ [20, 2, 21, 22, 23, 6, 24, 111, 112, 113, 114, 115, 116, 117, 118, 119, 120] (by decide +kernel) (by decide +kernel)
set_option maxRecDepth 20000 in
theorem gX5_keystone_X5_takesOut : GoodIn wsX5_keystone (wsV RX5 136 RX5 yX5_takesOut wsX5_takesOut) := goodIn_app (goodIn_of _ (by decide +kernel)) ggX5_keystone_X5_takesOut
set_option maxRecDepth 20000 in
theorem ggX5_keystone_X5_settles : GoodIn wsX5_keystone wsX5_settles := goodIn_r _ [28, 2, 29, 30, 31, 6, 32, 33, 34, 35, 36, 37, 38, 39, 40, 41, 42, 43, 44, 45, 46, 47, 48, 49, 50, 51, 52, 53, 54, 55, 56, 57, 58, 59, 60, 61, 62, 63, 64, 65, 66, 67, 68, 69, 70, 71, 72, 73, 74, 75, 76, 77, 78, 79, 80, 81, 82, 83, 84, 85, 86, 87, 88, 89, 90, 91, 92, 93, 94, 95, 96, 97, 98, 99, 100, 101, 102, 103, 104, 105, 106, 111, 112, 113, 114, 115, 116, 117, 118, 119, 120] (by decide +kernel) (by decide +kernel)
set_option maxRecDepth 20000 in
theorem gX5_keystone_X5_settles : GoodIn wsX5_keystone (wsV RX5 146 RX5 yX5_settles wsX5_settles) := goodIn_app (goodIn_of _ (by decide +kernel)) ggX5_keystone_X5_settles
set_option maxRecDepth 20000 in
theorem ggX5_keystone_X5_giveBack : GoodIn wsX5_keystone wsX5_giveBack := goodIn_r _ [110, 2, 16, 111, 112, 113, 114, 115, 116, 117, 118, 119, 120] (by decide +kernel) (by decide +kernel)
set_option maxRecDepth 20000 in
theorem gX5_keystone_X5_giveBack : GoodIn wsX5_keystone (wsV RX5 143 RX5 yX5_giveBack wsX5_giveBack) := goodIn_app (goodIn_of _ (by decide +kernel)) ggX5_keystone_X5_giveBack
theorem dX5_keystone_0 : decode cX5_keystone 0 = .ok (.iload_n 1, 1) := by decide +kernel
theorem dX5_keystone_1 : decode cX5_keystone 1 = .ok (.invokestatic 140, 3) := by decide +kernel
theorem dX5_keystone_4 : decode cX5_keystone 4 = .ok (.ifCond .eq 13, 3) := by decide +kernel
theorem dX5_keystone_7 : decode cX5_keystone 7 = .ok (.iload_n 2, 1) := by decide +kernel
theorem dX5_keystone_8 : decode cX5_keystone 8 = .ok (.i2l, 1) := by decide +kernel
theorem dX5_keystone_9 : decode cX5_keystone 9 = .ok (.lconst 0, 1) := by decide +kernel
theorem dX5_keystone_10 : decode cX5_keystone 10 = .ok (.lconst 1, 1) := by decide +kernel
theorem dX5_keystone_11 : decode cX5_keystone 11 = .ok (.invokestatic 26, 3) := by decide +kernel
theorem dX5_keystone_14 : decode cX5_keystone 14 = .ok (.ifCond .ne 6, 3) := by decide +kernel
theorem dX5_keystone_17 : decode cX5_keystone 17 = .ok (.ldc 120, 2) := by decide +kernel
theorem dX5_keystone_19 : decode cX5_keystone 19 = .ok (.ireturn, 1) := by decide +kernel
theorem dX5_keystone_20 : decode cX5_keystone 20 = .ok (.iconst (-1), 1) := by decide +kernel
theorem dX5_keystone_21 : decode cX5_keystone 21 = .ok (.istore_n 3, 1) := by decide +kernel
theorem dX5_keystone_22 : decode cX5_keystone 22 = .ok (.iconst (-1), 1) := by decide +kernel
theorem dX5_keystone_23 : decode cX5_keystone 23 = .ok (.istore 4, 2) := by decide +kernel
theorem dX5_keystone_25 : decode cX5_keystone 25 = .ok (.aload_n 0, 1) := by decide +kernel
theorem dX5_keystone_26 : decode cX5_keystone 26 = .ok (.invokevirtual 122, 3) := by decide +kernel
theorem dX5_keystone_29 : decode cX5_keystone 29 = .ok (.aload_n 0, 1) := by decide +kernel
theorem dX5_keystone_30 : decode cX5_keystone 30 = .ok (.getfield 7, 3) := by decide +kernel
theorem dX5_keystone_33 : decode cX5_keystone 33 = .ok (.iconst 2, 1) := by decide +kernel
theorem dX5_keystone_34 : decode cX5_keystone 34 = .ok (.iaload, 1) := by decide +kernel
theorem dX5_keystone_35 : decode cX5_keystone 35 = .ok (.istore 5, 2) := by decide +kernel
theorem dX5_keystone_37 : decode cX5_keystone 37 = .ok (.iconst 0, 1) := by decide +kernel
theorem dX5_keystone_38 : decode cX5_keystone 38 = .ok (.istore 6, 2) := by decide +kernel
theorem dX5_keystone_40 : decode cX5_keystone 40 = .ok (.iload 6, 2) := by decide +kernel
theorem dX5_keystone_42 : decode cX5_keystone 42 = .ok (.iload 5, 2) := by decide +kernel
theorem dX5_keystone_44 : decode cX5_keystone 44 = .ok (.if_icmp .ge 56, 3) := by decide +kernel
theorem dX5_keystone_47 : decode cX5_keystone 47 = .ok (.aload_n 0, 1) := by decide +kernel
theorem dX5_keystone_48 : decode cX5_keystone 48 = .ok (.iload 6, 2) := by decide +kernel
theorem dX5_keystone_50 : decode cX5_keystone 50 = .ok (.invokevirtual 136, 3) := by decide +kernel
theorem dX5_keystone_53 : decode cX5_keystone 53 = .ok (.aload_n 0, 1) := by decide +kernel
theorem dX5_keystone_54 : decode cX5_keystone 54 = .ok (.iload_n 1, 1) := by decide +kernel
theorem dX5_keystone_55 : decode cX5_keystone 55 = .ok (.invokevirtual 146, 3) := by decide +kernel
theorem dX5_keystone_58 : decode cX5_keystone 58 = .ok (.istore 7, 2) := by decide +kernel
theorem dX5_keystone_60 : decode cX5_keystone 60 = .ok (.aload_n 0, 1) := by decide +kernel
theorem dX5_keystone_61 : decode cX5_keystone 61 = .ok (.invokevirtual 143, 3) := by decide +kernel
theorem dX5_keystone_64 : decode cX5_keystone 64 = .ok (.iload 7, 2) := by decide +kernel
theorem dX5_keystone_66 : decode cX5_keystone 66 = .ok (.iload 4, 2) := by decide +kernel
theorem dX5_keystone_68 : decode cX5_keystone 68 = .ok (.if_icmp .le 8, 3) := by decide +kernel
theorem dX5_keystone_71 : decode cX5_keystone 71 = .ok (.iload 6, 2) := by decide +kernel
theorem dX5_keystone_73 : decode cX5_keystone 73 = .ok (.goto 4, 3) := by decide +kernel
theorem dX5_keystone_76 : decode cX5_keystone 76 = .ok (.iload_n 3, 1) := by decide +kernel
theorem dX5_keystone_77 : decode cX5_keystone 77 = .ok (.istore_n 3, 1) := by decide +kernel
theorem dX5_keystone_78 : decode cX5_keystone 78 = .ok (.iload 7, 2) := by decide +kernel
theorem dX5_keystone_80 : decode cX5_keystone 80 = .ok (.iload 4, 2) := by decide +kernel
theorem dX5_keystone_82 : decode cX5_keystone 82 = .ok (.if_icmp .le 8, 3) := by decide +kernel
theorem dX5_keystone_85 : decode cX5_keystone 85 = .ok (.iload 7, 2) := by decide +kernel
theorem dX5_keystone_87 : decode cX5_keystone 87 = .ok (.goto 5, 3) := by decide +kernel
theorem dX5_keystone_90 : decode cX5_keystone 90 = .ok (.iload 4, 2) := by decide +kernel
theorem dX5_keystone_92 : decode cX5_keystone 92 = .ok (.istore 4, 2) := by decide +kernel
theorem dX5_keystone_94 : decode cX5_keystone 94 = .ok (.iinc 6 1, 3) := by decide +kernel
theorem dX5_keystone_97 : decode cX5_keystone 97 = .ok (.goto (-57), 3) := by decide +kernel
theorem dX5_keystone_100 : decode cX5_keystone 100 = .ok (.iload_n 3, 1) := by decide +kernel
theorem dX5_keystone_101 : decode cX5_keystone 101 = .ok (.iconst (-1), 1) := by decide +kernel
theorem dX5_keystone_102 : decode cX5_keystone 102 = .ok (.if_icmp .ne 8, 3) := by decide +kernel
theorem dX5_keystone_105 : decode cX5_keystone 105 = .ok (.ldc 149, 2) := by decide +kernel
theorem dX5_keystone_107 : decode cX5_keystone 107 = .ok (.goto 13, 3) := by decide +kernel
theorem dX5_keystone_110 : decode cX5_keystone 110 = .ok (.iload_n 2, 1) := by decide +kernel
theorem dX5_keystone_111 : decode cX5_keystone 111 = .ok (.ifCond .ne 7, 3) := by decide +kernel
theorem dX5_keystone_114 : decode cX5_keystone 114 = .ok (.iload_n 3, 1) := by decide +kernel
theorem dX5_keystone_115 : decode cX5_keystone 115 = .ok (.goto 5, 3) := by decide +kernel
theorem dX5_keystone_118 : decode cX5_keystone 118 = .ok (.iload 4, 2) := by decide +kernel
theorem dX5_keystone_120 : decode cX5_keystone 120 = .ok (.ireturn, 1) := by decide +kernel
set_option maxRecDepth 20000 in
theorem ggX5_cornersOfAll_X5_corners : GoodIn wsX5_cornersOfAll wsX5_corners := goodIn_r _ [6, 1, 7, 8, 9, 10, 11, 12, 13, 14, 15, 16] (by decide +kernel) (by decide +kernel)
set_option maxRecDepth 20000 in
theorem gX5_cornersOfAll_X5_corners : GoodIn wsX5_cornersOfAll (wsV RX5 30 RX5 yX5_corners wsX5_corners) := goodIn_app (goodIn_of _ (by decide +kernel)) ggX5_cornersOfAll_X5_corners
theorem dX5_cornersOfAll_0 : decode cX5_cornersOfAll 0 = .ok (.iconst 0, 1) := by decide +kernel
theorem dX5_cornersOfAll_1 : decode cX5_cornersOfAll 1 = .ok (.istore_n 1, 1) := by decide +kernel
theorem dX5_cornersOfAll_2 : decode cX5_cornersOfAll 2 = .ok (.iconst 0, 1) := by decide +kernel
theorem dX5_cornersOfAll_3 : decode cX5_cornersOfAll 3 = .ok (.istore_n 2, 1) := by decide +kernel
theorem dX5_cornersOfAll_4 : decode cX5_cornersOfAll 4 = .ok (.iload_n 2, 1) := by decide +kernel
theorem dX5_cornersOfAll_5 : decode cX5_cornersOfAll 5 = .ok (.aload_n 0, 1) := by decide +kernel
theorem dX5_cornersOfAll_6 : decode cX5_cornersOfAll 6 = .ok (.getfield 7, 3) := by decide +kernel
theorem dX5_cornersOfAll_9 : decode cX5_cornersOfAll 9 = .ok (.iconst 2, 1) := by decide +kernel
theorem dX5_cornersOfAll_10 : decode cX5_cornersOfAll 10 = .ok (.iaload, 1) := by decide +kernel
theorem dX5_cornersOfAll_11 : decode cX5_cornersOfAll 11 = .ok (.if_icmp .ge 17, 3) := by decide +kernel
theorem dX5_cornersOfAll_14 : decode cX5_cornersOfAll 14 = .ok (.iload_n 1, 1) := by decide +kernel
theorem dX5_cornersOfAll_15 : decode cX5_cornersOfAll 15 = .ok (.aload_n 0, 1) := by decide +kernel
theorem dX5_cornersOfAll_16 : decode cX5_cornersOfAll 16 = .ok (.iload_n 2, 1) := by decide +kernel
theorem dX5_cornersOfAll_17 : decode cX5_cornersOfAll 17 = .ok (.invokevirtual 30, 3) := by decide +kernel
theorem dX5_cornersOfAll_20 : decode cX5_cornersOfAll 20 = .ok (.iadd, 1) := by decide +kernel
theorem dX5_cornersOfAll_21 : decode cX5_cornersOfAll 21 = .ok (.istore_n 1, 1) := by decide +kernel
theorem dX5_cornersOfAll_22 : decode cX5_cornersOfAll 22 = .ok (.iinc 2 1, 3) := by decide +kernel
theorem dX5_cornersOfAll_25 : decode cX5_cornersOfAll 25 = .ok (.goto (-21), 3) := by decide +kernel
theorem dX5_cornersOfAll_28 : decode cX5_cornersOfAll 28 = .ok (.iload_n 1, 1) := by decide +kernel
theorem dX5_cornersOfAll_29 : decode cX5_cornersOfAll 29 = .ok (.ireturn, 1) := by decide +kernel
set_option maxRecDepth 20000 in
theorem ggX5_pairs_X5_touched : GoodIn wsX5_pairs wsX5_touched := goodIn_r _ [6, 1, 7, 8, 9, 5, 10, 11, 12, 13, 14, 15, 16, 17, 18, 19, 20, 21, 22, 23, 24, 25, 26, 27, 28, 29, 30, 31, 32, 33, 34, 35, 36, 37, 38, 39, 40, 41, 42, 43, 44, 45, 46, 47, 48] (by decide +kernel) (by decide +kernel)
set_option maxRecDepth 20000 in
theorem gX5_pairs_X5_touched : GoodIn wsX5_pairs (wsV RX5 152 RX5 yX5_touched wsX5_touched) := goodIn_app (goodIn_of _ (by decide +kernel)) ggX5_pairs_X5_touched
theorem dX5_pairs_0 : decode cX5_pairs 0 = .ok (.iconst 0, 1) := by decide +kernel
theorem dX5_pairs_1 : decode cX5_pairs 1 = .ok (.istore_n 1, 1) := by decide +kernel
theorem dX5_pairs_2 : decode cX5_pairs 2 = .ok (.iconst 0, 1) := by decide +kernel
theorem dX5_pairs_3 : decode cX5_pairs 3 = .ok (.istore_n 2, 1) := by decide +kernel
theorem dX5_pairs_4 : decode cX5_pairs 4 = .ok (.iload_n 2, 1) := by decide +kernel
theorem dX5_pairs_5 : decode cX5_pairs 5 = .ok (.aload_n 0, 1) := by decide +kernel
theorem dX5_pairs_6 : decode cX5_pairs 6 = .ok (.getfield 7, 3) := by decide +kernel
theorem dX5_pairs_9 : decode cX5_pairs 9 = .ok (.iconst 2, 1) := by decide +kernel
theorem dX5_pairs_10 : decode cX5_pairs 10 = .ok (.iaload, 1) := by decide +kernel
theorem dX5_pairs_11 : decode cX5_pairs 11 = .ok (.if_icmp .ge 32, 3) := by decide +kernel
theorem dX5_pairs_14 : decode cX5_pairs 14 = .ok (.aload_n 0, 1) := by decide +kernel
theorem dX5_pairs_15 : decode cX5_pairs 15 = .ok (.iload_n 2, 1) := by decide +kernel
theorem dX5_pairs_16 : decode cX5_pairs 16 = .ok (.invokevirtual 152, 3) := by decide +kernel
theorem dX5_pairs_19 : decode cX5_pairs 19 = .ok (.istore_n 3, 1) := by decide +kernel
theorem dX5_pairs_20 : decode cX5_pairs 20 = .ok (.iload_n 3, 1) := by decide +kernel
theorem dX5_pairs_21 : decode cX5_pairs 21 = .ok (.ifCond .le 16, 3) := by decide +kernel
theorem dX5_pairs_24 : decode cX5_pairs 24 = .ok (.iload_n 1, 1) := by decide +kernel
theorem dX5_pairs_25 : decode cX5_pairs 25 = .ok (.iload_n 3, 1) := by decide +kernel
theorem dX5_pairs_26 : decode cX5_pairs 26 = .ok (.iconst 1, 1) := by decide +kernel
theorem dX5_pairs_27 : decode cX5_pairs 27 = .ok (.iand, 1) := by decide +kernel
theorem dX5_pairs_28 : decode cX5_pairs 28 = .ok (.iadd, 1) := by decide +kernel
theorem dX5_pairs_29 : decode cX5_pairs 29 = .ok (.istore_n 1, 1) := by decide +kernel
theorem dX5_pairs_30 : decode cX5_pairs 30 = .ok (.iload_n 3, 1) := by decide +kernel
theorem dX5_pairs_31 : decode cX5_pairs 31 = .ok (.iconst 1, 1) := by decide +kernel
theorem dX5_pairs_32 : decode cX5_pairs 32 = .ok (.ishr, 1) := by decide +kernel
theorem dX5_pairs_33 : decode cX5_pairs 33 = .ok (.istore_n 3, 1) := by decide +kernel
theorem dX5_pairs_34 : decode cX5_pairs 34 = .ok (.goto (-14), 3) := by decide +kernel
theorem dX5_pairs_37 : decode cX5_pairs 37 = .ok (.iinc 2 1, 3) := by decide +kernel
theorem dX5_pairs_40 : decode cX5_pairs 40 = .ok (.goto (-36), 3) := by decide +kernel
theorem dX5_pairs_43 : decode cX5_pairs 43 = .ok (.iload_n 1, 1) := by decide +kernel
theorem dX5_pairs_44 : decode cX5_pairs 44 = .ok (.iconst 2, 1) := by decide +kernel
theorem dX5_pairs_45 : decode cX5_pairs 45 = .ok (.idiv, 1) := by decide +kernel
theorem dX5_pairs_46 : decode cX5_pairs 46 = .ok (.ireturn, 1) := by decide +kernel
set_option maxRecDepth 20000 in
theorem ggX5_count_X5_areas : GoodIn wsX5_count wsX5_areas := goodIn_r _ [9, 1, 10, 11, 12, 8, 13, 14, 15, 16, 17, 18, 19, 20, 21, 22, 23, 24, 25, 58, 59, 60, 61, 62, 63, 64, 65, 66, 67] (by decide +kernel) (by decide +kernel)
set_option maxRecDepth 20000 in
theorem gX5_count_X5_areas : GoodIn wsX5_count (wsV RX5 175 RX5 yX5_areas wsX5_areas) := goodIn_app (goodIn_of _ (by decide +kernel)) ggX5_count_X5_areas
set_option maxRecDepth 20000 in
theorem ggX5_count_X5_cornersOfAll : GoodIn wsX5_count wsX5_cornersOfAll := goodIn_r _ [29, 1, 14, 15, 16, 8, 17, 58, 59, 60, 61, 62, 63, 64, 65, 66, 67] (by decide +kernel) (by decide +kernel)
set_option maxRecDepth 20000 in
theorem gX5_count_X5_cornersOfAll : GoodIn wsX5_count (wsV RX5 182 RX5 yX5_cornersOfAll wsX5_cornersOfAll) := goodIn_app (goodIn_of _ (by decide +kernel)) ggX5_count_X5_cornersOfAll
set_option maxRecDepth 20000 in
theorem ggX5_count_X5_pairs : GoodIn wsX5_count wsX5_pairs := goodIn_r _ [33, 1, 34, 35, 36, 8, 37, 38, 39, 40, 41, 42, 43, 44, 45, 46, 47, 48, 49, 14, 15, 16, 17, 50, 51, 52, 53, 54, 55, 56, 57, 18, 19, 20, 21, 22, 23, 24, 25, 58, 59, 60, 61, 62, 63, 64, 65, 66, 67] (by decide +kernel) (by decide +kernel)
set_option maxRecDepth 20000 in
theorem gX5_count_X5_pairs : GoodIn wsX5_count (wsV RX5 185 RX5 yX5_pairs wsX5_pairs) := goodIn_app (goodIn_of _ (by decide +kernel)) ggX5_count_X5_pairs
theorem dX5_count_0 : decode cX5_count 0 = .ok (.iload_n 1, 1) := by decide +kernel
theorem dX5_count_1 : decode cX5_count 1 = .ok (.tableswitch 93 0 7 #[47, 54, 61, 68, 73, 78, 83, 88], 47) := by decide +kernel
theorem dX5_count_48 : decode cX5_count 48 = .ok (.aload_n 0, 1) := by decide +kernel
theorem dX5_count_49 : decode cX5_count 49 = .ok (.getfield 7, 3) := by decide +kernel
theorem dX5_count_52 : decode cX5_count 52 = .ok (.iconst 2, 1) := by decide +kernel
theorem dX5_count_53 : decode cX5_count 53 = .ok (.iaload, 1) := by decide +kernel
theorem dX5_count_54 : decode cX5_count 54 = .ok (.ireturn, 1) := by decide +kernel
theorem dX5_count_55 : decode cX5_count 55 = .ok (.aload_n 0, 1) := by decide +kernel
theorem dX5_count_56 : decode cX5_count 56 = .ok (.getfield 7, 3) := by decide +kernel
theorem dX5_count_59 : decode cX5_count 59 = .ok (.iconst 0, 1) := by decide +kernel
theorem dX5_count_60 : decode cX5_count 60 = .ok (.iaload, 1) := by decide +kernel
theorem dX5_count_61 : decode cX5_count 61 = .ok (.ireturn, 1) := by decide +kernel
theorem dX5_count_62 : decode cX5_count 62 = .ok (.aload_n 0, 1) := by decide +kernel
theorem dX5_count_63 : decode cX5_count 63 = .ok (.getfield 7, 3) := by decide +kernel
theorem dX5_count_66 : decode cX5_count 66 = .ok (.iconst 1, 1) := by decide +kernel
theorem dX5_count_67 : decode cX5_count 67 = .ok (.iaload, 1) := by decide +kernel
theorem dX5_count_68 : decode cX5_count 68 = .ok (.ireturn, 1) := by decide +kernel
theorem dX5_count_69 : decode cX5_count 69 = .ok (.aload_n 0, 1) := by decide +kernel
theorem dX5_count_70 : decode cX5_count 70 = .ok (.invokevirtual 175, 3) := by decide +kernel
theorem dX5_count_73 : decode cX5_count 73 = .ok (.ireturn, 1) := by decide +kernel
theorem dX5_count_74 : decode cX5_count 74 = .ok (.aload_n 0, 1) := by decide +kernel
theorem dX5_count_75 : decode cX5_count 75 = .ok (.invokevirtual 182, 3) := by decide +kernel
theorem dX5_count_78 : decode cX5_count 78 = .ok (.ireturn, 1) := by decide +kernel
theorem dX5_count_79 : decode cX5_count 79 = .ok (.aload_n 0, 1) := by decide +kernel
theorem dX5_count_80 : decode cX5_count 80 = .ok (.invokevirtual 185, 3) := by decide +kernel
theorem dX5_count_83 : decode cX5_count 83 = .ok (.ireturn, 1) := by decide +kernel
theorem dX5_count_84 : decode cX5_count 84 = .ok (.aload_n 0, 1) := by decide +kernel
theorem dX5_count_85 : decode cX5_count 85 = .ok (.getfield 22, 3) := by decide +kernel
theorem dX5_count_88 : decode cX5_count 88 = .ok (.ireturn, 1) := by decide +kernel
theorem dX5_count_89 : decode cX5_count 89 = .ok (.aload_n 0, 1) := by decide +kernel
theorem dX5_count_90 : decode cX5_count 90 = .ok (.getfield 188, 3) := by decide +kernel
theorem dX5_count_93 : decode cX5_count 93 = .ok (.ireturn, 1) := by decide +kernel
theorem dX5_count_94 : decode cX5_count 94 = .ok (.ldc 120, 2) := by decide +kernel
theorem dX5_count_96 : decode cX5_count 96 = .ok (.ireturn, 1) := by decide +kernel
theorem dX5_undo_0 : decode cX5_undo 0 = .ok (.aload_n 0, 1) := by decide +kernel
theorem dX5_undo_1 : decode cX5_undo 1 = .ok (.getfield 22, 3) := by decide +kernel
theorem dX5_undo_4 : decode cX5_undo 4 = .ok (.ifCond .ne 6, 3) := by decide +kernel
theorem dX5_undo_7 : decode cX5_undo 7 = .ok (.ldc 121, 2) := by decide +kernel
theorem dX5_undo_9 : decode cX5_undo 9 = .ok (.ireturn, 1) := by decide +kernel
theorem dX5_undo_10 : decode cX5_undo 10 = .ok (.aload_n 0, 1) := by decide +kernel
theorem dX5_undo_11 : decode cX5_undo 11 = .ok (.dup, 1) := by decide +kernel
theorem dX5_undo_12 : decode cX5_undo 12 = .ok (.getfield 22, 3) := by decide +kernel
theorem dX5_undo_15 : decode cX5_undo 15 = .ok (.iconst 1, 1) := by decide +kernel
theorem dX5_undo_16 : decode cX5_undo 16 = .ok (.isub, 1) := by decide +kernel
theorem dX5_undo_17 : decode cX5_undo 17 = .ok (.putfield 22, 3) := by decide +kernel
theorem dX5_undo_20 : decode cX5_undo 20 = .ok (.iconst 0, 1) := by decide +kernel
theorem dX5_undo_21 : decode cX5_undo 21 = .ok (.istore_n 1, 1) := by decide +kernel
theorem dX5_undo_22 : decode cX5_undo 22 = .ok (.iload_n 1, 1) := by decide +kernel
theorem dX5_undo_23 : decode cX5_undo 23 = .ok (.bipush 120, 2) := by decide +kernel
theorem dX5_undo_25 : decode cX5_undo 25 = .ok (.if_icmp .ge 29, 3) := by decide +kernel
theorem dX5_undo_28 : decode cX5_undo 28 = .ok (.aload_n 0, 1) := by decide +kernel
theorem dX5_undo_29 : decode cX5_undo 29 = .ok (.getfield 7, 3) := by decide +kernel
theorem dX5_undo_32 : decode cX5_undo 32 = .ok (.iload_n 1, 1) := by decide +kernel
theorem dX5_undo_33 : decode cX5_undo 33 = .ok (.aload_n 0, 1) := by decide +kernel
theorem dX5_undo_34 : decode cX5_undo 34 = .ok (.getfield 13, 3) := by decide +kernel
theorem dX5_undo_37 : decode cX5_undo 37 = .ok (.bipush 120, 2) := by decide +kernel
theorem dX5_undo_39 : decode cX5_undo 39 = .ok (.aload_n 0, 1) := by decide +kernel
theorem dX5_undo_40 : decode cX5_undo 40 = .ok (.getfield 22, 3) := by decide +kernel
theorem dX5_undo_43 : decode cX5_undo 43 = .ok (.imul, 1) := by decide +kernel
theorem dX5_undo_44 : decode cX5_undo 44 = .ok (.iload_n 1, 1) := by decide +kernel
theorem dX5_undo_45 : decode cX5_undo 45 = .ok (.iadd, 1) := by decide +kernel
theorem dX5_undo_46 : decode cX5_undo 46 = .ok (.iaload, 1) := by decide +kernel
theorem dX5_undo_47 : decode cX5_undo 47 = .ok (.iastore, 1) := by decide +kernel
theorem dX5_undo_48 : decode cX5_undo 48 = .ok (.iinc 1 1, 3) := by decide +kernel
theorem dX5_undo_51 : decode cX5_undo 51 = .ok (.goto (-29), 3) := by decide +kernel
theorem dX5_undo_54 : decode cX5_undo 54 = .ok (.aload_n 0, 1) := by decide +kernel
theorem dX5_undo_55 : decode cX5_undo 55 = .ok (.getfield 22, 3) := by decide +kernel
theorem dX5_undo_58 : decode cX5_undo 58 = .ok (.ireturn, 1) := by decide +kernel
set_option maxRecDepth 20000 in
theorem ggX5_type_X5_in : GoodIn wsX5_type wsX5_in := goodIn_r _ [10] (by decide +kernel) (by decide +kernel)
set_option maxRecDepth 20000 in
theorem gX5_type_X5_in : GoodIn wsX5_type (va_wsS RX5 26 yX5_in wsX5_in) := goodIn_app (goodIn_of _ (by decide +kernel)) ggX5_type_X5_in
theorem dX5_type_0 : decode cX5_type 0 = .ok (.iload_n 1, 1) := by decide +kernel
theorem dX5_type_1 : decode cX5_type 1 = .ok (.i2l, 1) := by decide +kernel
theorem dX5_type_2 : decode cX5_type 2 = .ok (.ldc2_w 191, 3) := by decide +kernel
theorem dX5_type_5 : decode cX5_type 5 = .ok (.ldc2_w 193, 3) := by decide +kernel
theorem dX5_type_8 : decode cX5_type 8 = .ok (.invokestatic 26, 3) := by decide +kernel
theorem dX5_type_11 : decode cX5_type 11 = .ok (.ifCond .ne 6, 3) := by decide +kernel
theorem dX5_type_14 : decode cX5_type 14 = .ok (.ldc 120, 2) := by decide +kernel
theorem dX5_type_16 : decode cX5_type 16 = .ok (.ireturn, 1) := by decide +kernel
theorem dX5_type_17 : decode cX5_type 17 = .ok (.aload_n 0, 1) := by decide +kernel
theorem dX5_type_18 : decode cX5_type 18 = .ok (.getfield 188, 3) := by decide +kernel
theorem dX5_type_21 : decode cX5_type 21 = .ok (.bipush 60, 2) := by decide +kernel
theorem dX5_type_23 : decode cX5_type 23 = .ok (.if_icmp .ne 6, 3) := by decide +kernel
theorem dX5_type_26 : decode cX5_type 26 = .ok (.ldc 132, 2) := by decide +kernel
theorem dX5_type_28 : decode cX5_type 28 = .ok (.ireturn, 1) := by decide +kernel
theorem dX5_type_29 : decode cX5_type 29 = .ok (.aload_n 0, 1) := by decide +kernel
theorem dX5_type_30 : decode cX5_type 30 = .ok (.getfield 19, 3) := by decide +kernel
theorem dX5_type_33 : decode cX5_type 33 = .ok (.aload_n 0, 1) := by decide +kernel
theorem dX5_type_34 : decode cX5_type 34 = .ok (.getfield 188, 3) := by decide +kernel
theorem dX5_type_37 : decode cX5_type 37 = .ok (.iload_n 1, 1) := by decide +kernel
theorem dX5_type_38 : decode cX5_type 38 = .ok (.iastore, 1) := by decide +kernel
theorem dX5_type_39 : decode cX5_type 39 = .ok (.aload_n 0, 1) := by decide +kernel
theorem dX5_type_40 : decode cX5_type 40 = .ok (.dup, 1) := by decide +kernel
theorem dX5_type_41 : decode cX5_type 41 = .ok (.getfield 188, 3) := by decide +kernel
theorem dX5_type_44 : decode cX5_type 44 = .ok (.iconst 1, 1) := by decide +kernel
theorem dX5_type_45 : decode cX5_type 45 = .ok (.iadd, 1) := by decide +kernel
theorem dX5_type_46 : decode cX5_type 46 = .ok (.putfield 188, 3) := by decide +kernel
theorem dX5_type_49 : decode cX5_type 49 = .ok (.aload_n 0, 1) := by decide +kernel
theorem dX5_type_50 : decode cX5_type 50 = .ok (.getfield 188, 3) := by decide +kernel
theorem dX5_type_53 : decode cX5_type 53 = .ok (.ireturn, 1) := by decide +kernel
theorem dX5_clearText_0 : decode cX5_clearText 0 = .ok (.aload_n 0, 1) := by decide +kernel
theorem dX5_clearText_1 : decode cX5_clearText 1 = .ok (.getfield 188, 3) := by decide +kernel
theorem dX5_clearText_4 : decode cX5_clearText 4 = .ok (.istore_n 1, 1) := by decide +kernel
theorem dX5_clearText_5 : decode cX5_clearText 5 = .ok (.aload_n 0, 1) := by decide +kernel
theorem dX5_clearText_6 : decode cX5_clearText 6 = .ok (.iconst 0, 1) := by decide +kernel
theorem dX5_clearText_7 : decode cX5_clearText 7 = .ok (.putfield 188, 3) := by decide +kernel
theorem dX5_clearText_10 : decode cX5_clearText 10 = .ok (.iload_n 1, 1) := by decide +kernel
theorem dX5_clearText_11 : decode cX5_clearText 11 = .ok (.ireturn, 1) := by decide +kernel
theorem dX5_takes_0 : decode cX5_takes 0 = .ok (.aload_n 0, 1) := by decide +kernel
theorem dX5_takes_1 : decode cX5_takes 1 = .ok (.getfield 195, 3) := by decide +kernel
theorem dX5_takes_4 : decode cX5_takes 4 = .ok (.aload_n 0, 1) := by decide +kernel
theorem dX5_takes_5 : decode cX5_takes 5 = .ok (.getfield 188, 3) := by decide +kernel
theorem dX5_takes_8 : decode cX5_takes 8 = .ok (.if_icmp .ge 20, 3) := by decide +kernel
theorem dX5_takes_11 : decode cX5_takes 11 = .ok (.aload_n 0, 1) := by decide +kernel
theorem dX5_takes_12 : decode cX5_takes 12 = .ok (.getfield 19, 3) := by decide +kernel
theorem dX5_takes_15 : decode cX5_takes 15 = .ok (.aload_n 0, 1) := by decide +kernel
theorem dX5_takes_16 : decode cX5_takes 16 = .ok (.getfield 195, 3) := by decide +kernel
theorem dX5_takes_19 : decode cX5_takes 19 = .ok (.iaload, 1) := by decide +kernel
theorem dX5_takes_20 : decode cX5_takes 20 = .ok (.iload_n 1, 1) := by decide +kernel
theorem dX5_takes_21 : decode cX5_takes 21 = .ok (.if_icmp .ne 7, 3) := by decide +kernel
theorem dX5_takes_24 : decode cX5_takes 24 = .ok (.iconst 1, 1) := by decide +kernel
theorem dX5_takes_25 : decode cX5_takes 25 = .ok (.goto 4, 3) := by decide +kernel
theorem dX5_takes_28 : decode cX5_takes 28 = .ok (.iconst 0, 1) := by decide +kernel
theorem dX5_takes_29 : decode cX5_takes 29 = .ok (.istore_n 2, 1) := by decide +kernel
theorem dX5_takes_30 : decode cX5_takes 30 = .ok (.aload_n 0, 1) := by decide +kernel
theorem dX5_takes_31 : decode cX5_takes 31 = .ok (.dup, 1) := by decide +kernel
theorem dX5_takes_32 : decode cX5_takes 32 = .ok (.getfield 195, 3) := by decide +kernel
theorem dX5_takes_35 : decode cX5_takes 35 = .ok (.iload_n 2, 1) := by decide +kernel
theorem dX5_takes_36 : decode cX5_takes 36 = .ok (.ifCond .eq 7, 3) := by decide +kernel
theorem dX5_takes_39 : decode cX5_takes 39 = .ok (.iconst 1, 1) := by decide +kernel
theorem dX5_takes_40 : decode cX5_takes 40 = .ok (.goto 4, 3) := by decide +kernel
theorem dX5_takes_43 : decode cX5_takes 43 = .ok (.iconst 0, 1) := by decide +kernel
theorem dX5_takes_44 : decode cX5_takes 44 = .ok (.iadd, 1) := by decide +kernel
theorem dX5_takes_45 : decode cX5_takes 45 = .ok (.putfield 195, 3) := by decide +kernel
theorem dX5_takes_48 : decode cX5_takes 48 = .ok (.iload_n 2, 1) := by decide +kernel
theorem dX5_takes_49 : decode cX5_takes 49 = .ok (.ireturn, 1) := by decide +kernel
set_option maxRecDepth 20000 in
theorem ggX5_takesNumber_X5_in : GoodIn wsX5_takesNumber wsX5_in := goodIn_r _ [10] (by decide +kernel) (by decide +kernel)
set_option maxRecDepth 20000 in
theorem gX5_takesNumber_X5_in : GoodIn wsX5_takesNumber (va_wsS RX5 26 yX5_in wsX5_in) := goodIn_app (goodIn_of _ (by decide +kernel)) ggX5_takesNumber_X5_in
theorem dX5_takesNumber_0 : decode cX5_takesNumber 0 = .ok (.aload_n 0, 1) := by decide +kernel
theorem dX5_takesNumber_1 : decode cX5_takesNumber 1 = .ok (.getfield 195, 3) := by decide +kernel
theorem dX5_takesNumber_4 : decode cX5_takesNumber 4 = .ok (.istore_n 2, 1) := by decide +kernel
theorem dX5_takesNumber_5 : decode cX5_takesNumber 5 = .ok (.aload_n 0, 1) := by decide +kernel
theorem dX5_takesNumber_6 : decode cX5_takesNumber 6 = .ok (.getfield 7, 3) := by decide +kernel
theorem dX5_takesNumber_9 : decode cX5_takesNumber 9 = .ok (.iload_n 1, 1) := by decide +kernel
theorem dX5_takesNumber_10 : decode cX5_takesNumber 10 = .ok (.iconst 0, 1) := by decide +kernel
theorem dX5_takesNumber_11 : decode cX5_takesNumber 11 = .ok (.iastore, 1) := by decide +kernel
theorem dX5_takesNumber_12 : decode cX5_takesNumber 12 = .ok (.aload_n 0, 1) := by decide +kernel
theorem dX5_takesNumber_13 : decode cX5_takesNumber 13 = .ok (.getfield 195, 3) := by decide +kernel
theorem dX5_takesNumber_16 : decode cX5_takesNumber 16 = .ok (.aload_n 0, 1) := by decide +kernel
theorem dX5_takesNumber_17 : decode cX5_takesNumber 17 = .ok (.getfield 188, 3) := by decide +kernel
theorem dX5_takesNumber_20 : decode cX5_takesNumber 20 = .ok (.if_icmp .ge 76, 3) := by decide +kernel
theorem dX5_takesNumber_23 : decode cX5_takesNumber 23 = .ok (.aload_n 0, 1) := by decide +kernel
theorem dX5_takesNumber_24 : decode cX5_takesNumber 24 = .ok (.getfield 195, 3) := by decide +kernel
theorem dX5_takesNumber_27 : decode cX5_takesNumber 27 = .ok (.iload_n 2, 1) := by decide +kernel
theorem dX5_takesNumber_28 : decode cX5_takesNumber 28 = .ok (.iconst 2, 1) := by decide +kernel
theorem dX5_takesNumber_29 : decode cX5_takesNumber 29 = .ok (.iadd, 1) := by decide +kernel
theorem dX5_takesNumber_30 : decode cX5_takesNumber 30 = .ok (.if_icmp .ge 66, 3) := by decide +kernel
theorem dX5_takesNumber_33 : decode cX5_takesNumber 33 = .ok (.aload_n 0, 1) := by decide +kernel
theorem dX5_takesNumber_34 : decode cX5_takesNumber 34 = .ok (.getfield 19, 3) := by decide +kernel
theorem dX5_takesNumber_37 : decode cX5_takesNumber 37 = .ok (.aload_n 0, 1) := by decide +kernel
theorem dX5_takesNumber_38 : decode cX5_takesNumber 38 = .ok (.getfield 195, 3) := by decide +kernel
theorem dX5_takesNumber_41 : decode cX5_takesNumber 41 = .ok (.iaload, 1) := by decide +kernel
theorem dX5_takesNumber_42 : decode cX5_takesNumber 42 = .ok (.i2l, 1) := by decide +kernel
theorem dX5_takesNumber_43 : decode cX5_takesNumber 43 = .ok (.ldc2_w 198, 3) := by decide +kernel
theorem dX5_takesNumber_46 : decode cX5_takesNumber 46 = .ok (.ldc2_w 200, 3) := by decide +kernel
theorem dX5_takesNumber_49 : decode cX5_takesNumber 49 = .ok (.invokestatic 26, 3) := by decide +kernel
theorem dX5_takesNumber_52 : decode cX5_takesNumber 52 = .ok (.ifCond .eq 44, 3) := by decide +kernel
theorem dX5_takesNumber_55 : decode cX5_takesNumber 55 = .ok (.aload_n 0, 1) := by decide +kernel
theorem dX5_takesNumber_56 : decode cX5_takesNumber 56 = .ok (.getfield 7, 3) := by decide +kernel
theorem dX5_takesNumber_59 : decode cX5_takesNumber 59 = .ok (.iload_n 1, 1) := by decide +kernel
theorem dX5_takesNumber_60 : decode cX5_takesNumber 60 = .ok (.bipush 10, 2) := by decide +kernel
theorem dX5_takesNumber_62 : decode cX5_takesNumber 62 = .ok (.aload_n 0, 1) := by decide +kernel
theorem dX5_takesNumber_63 : decode cX5_takesNumber 63 = .ok (.getfield 7, 3) := by decide +kernel
theorem dX5_takesNumber_66 : decode cX5_takesNumber 66 = .ok (.iload_n 1, 1) := by decide +kernel
theorem dX5_takesNumber_67 : decode cX5_takesNumber 67 = .ok (.iaload, 1) := by decide +kernel
theorem dX5_takesNumber_68 : decode cX5_takesNumber 68 = .ok (.imul, 1) := by decide +kernel
theorem dX5_takesNumber_69 : decode cX5_takesNumber 69 = .ok (.aload_n 0, 1) := by decide +kernel
theorem dX5_takesNumber_70 : decode cX5_takesNumber 70 = .ok (.getfield 19, 3) := by decide +kernel
theorem dX5_takesNumber_73 : decode cX5_takesNumber 73 = .ok (.aload_n 0, 1) := by decide +kernel
theorem dX5_takesNumber_74 : decode cX5_takesNumber 74 = .ok (.getfield 195, 3) := by decide +kernel
theorem dX5_takesNumber_77 : decode cX5_takesNumber 77 = .ok (.iaload, 1) := by decide +kernel
theorem dX5_takesNumber_78 : decode cX5_takesNumber 78 = .ok (.iadd, 1) := by decide +kernel
theorem dX5_takesNumber_79 : decode cX5_takesNumber 79 = .ok (.bipush 48, 2) := by decide +kernel
theorem dX5_takesNumber_81 : decode cX5_takesNumber 81 = .ok (.isub, 1) := by decide +kernel
theorem dX5_takesNumber_82 : decode cX5_takesNumber 82 = .ok (.iastore, 1) := by decide +kernel
theorem dX5_takesNumber_83 : decode cX5_takesNumber 83 = .ok (.aload_n 0, 1) := by decide +kernel
theorem dX5_takesNumber_84 : decode cX5_takesNumber 84 = .ok (.dup, 1) := by decide +kernel
theorem dX5_takesNumber_85 : decode cX5_takesNumber 85 = .ok (.getfield 195, 3) := by decide +kernel
theorem dX5_takesNumber_88 : decode cX5_takesNumber 88 = .ok (.iconst 1, 1) := by decide +kernel
theorem dX5_takesNumber_89 : decode cX5_takesNumber 89 = .ok (.iadd, 1) := by decide +kernel
theorem dX5_takesNumber_90 : decode cX5_takesNumber 90 = .ok (.putfield 195, 3) := by decide +kernel
theorem dX5_takesNumber_93 : decode cX5_takesNumber 93 = .ok (.goto (-81), 3) := by decide +kernel
theorem dX5_takesNumber_96 : decode cX5_takesNumber 96 = .ok (.aload_n 0, 1) := by decide +kernel
theorem dX5_takesNumber_97 : decode cX5_takesNumber 97 = .ok (.getfield 195, 3) := by decide +kernel
end
section
theorem dX5_takesNumber_100 : decode cX5_takesNumber 100 = .ok (.iload_n 2, 1) := by decide +kernel
theorem dX5_takesNumber_101 : decode cX5_takesNumber 101 = .ok (.if_icmp .le 7, 3) := by decide +kernel
theorem dX5_takesNumber_104 : decode cX5_takesNumber 104 = .ok (.iconst 1, 1) := by decide +kernel
theorem dX5_takesNumber_105 : decode cX5_takesNumber 105 = .ok (.goto 4, 3) := by decide +kernel
theorem dX5_takesNumber_108 : decode cX5_takesNumber 108 = .ok (.iconst 0, 1) := by decide +kernel
theorem dX5_takesNumber_109 : decode cX5_takesNumber 109 = .ok (.ireturn, 1) := by decide +kernel
set_option maxRecDepth 20000 in
theorem ggX5_reads_X5_takesNumber : GoodIn wsX5_reads wsX5_takesNumber := goodIn_r _ [8, 1, 2, 3, 9, 10, 11, 12, 13, 7, 14, 19, 20, 21, 22, 23, 24, 25, 26, 27, 28] (by decide +kernel) (by decide +kernel)
set_option maxRecDepth 20000 in
theorem gX5_reads_X5_takesNumber : GoodIn wsX5_reads (wsV RX5 202 RX5 yX5_takesNumber wsX5_takesNumber) := goodIn_app (goodIn_of _ (by decide +kernel)) ggX5_reads_X5_takesNumber
set_option maxRecDepth 20000 in
theorem ggX5_reads_X5_takes : GoodIn wsX5_reads wsX5_takes := goodIn_r _ [18, 1, 3, 9, 19, 20, 21, 22, 23, 24, 25, 26, 27, 28] (by decide +kernel) (by decide +kernel)
set_option maxRecDepth 20000 in
theorem gX5_reads_X5_takes : GoodIn wsX5_reads (wsV RX5 205 RX5 yX5_takes wsX5_takes) := goodIn_app (goodIn_of _ (by decide +kernel)) ggX5_reads_X5_takes
theorem dX5_reads_0 : decode cX5_reads 0 = .ok (.aload_n 0, 1) := by decide +kernel
theorem dX5_reads_1 : decode cX5_reads 1 = .ok (.iconst 0, 1) := by decide +kernel
theorem dX5_reads_2 : decode cX5_reads 2 = .ok (.putfield 195, 3) := by decide +kernel
theorem dX5_reads_5 : decode cX5_reads 5 = .ok (.iconst 0, 1) := by decide +kernel
theorem dX5_reads_6 : decode cX5_reads 6 = .ok (.istore_n 1, 1) := by decide +kernel
theorem dX5_reads_7 : decode cX5_reads 7 = .ok (.iconst 1, 1) := by decide +kernel
theorem dX5_reads_8 : decode cX5_reads 8 = .ok (.istore_n 2, 1) := by decide +kernel
theorem dX5_reads_9 : decode cX5_reads 9 = .ok (.iload_n 2, 1) := by decide +kernel
theorem dX5_reads_10 : decode cX5_reads 10 = .ok (.ifCond .eq 63, 3) := by decide +kernel
theorem dX5_reads_13 : decode cX5_reads 13 = .ok (.aload_n 0, 1) := by decide +kernel
theorem dX5_reads_14 : decode cX5_reads 14 = .ok (.bipush 60, 2) := by decide +kernel
theorem dX5_reads_16 : decode cX5_reads 16 = .ok (.iload_n 1, 1) := by decide +kernel
theorem dX5_reads_17 : decode cX5_reads 17 = .ok (.iadd, 1) := by decide +kernel
theorem dX5_reads_18 : decode cX5_reads 18 = .ok (.invokevirtual 202, 3) := by decide +kernel
theorem dX5_reads_21 : decode cX5_reads 21 = .ok (.ifCond .eq 23, 3) := by decide +kernel
theorem dX5_reads_24 : decode cX5_reads 24 = .ok (.aload_n 0, 1) := by decide +kernel
theorem dX5_reads_25 : decode cX5_reads 25 = .ok (.bipush 44, 2) := by decide +kernel
theorem dX5_reads_27 : decode cX5_reads 27 = .ok (.invokevirtual 205, 3) := by decide +kernel
theorem dX5_reads_30 : decode cX5_reads 30 = .ok (.ifCond .eq 14, 3) := by decide +kernel
theorem dX5_reads_33 : decode cX5_reads 33 = .ok (.aload_n 0, 1) := by decide +kernel
theorem dX5_reads_34 : decode cX5_reads 34 = .ok (.bipush 114, 2) := by decide +kernel
theorem dX5_reads_36 : decode cX5_reads 36 = .ok (.iload_n 1, 1) := by decide +kernel
theorem dX5_reads_37 : decode cX5_reads 37 = .ok (.iadd, 1) := by decide +kernel
theorem dX5_reads_38 : decode cX5_reads 38 = .ok (.invokevirtual 202, 3) := by decide +kernel
theorem dX5_reads_41 : decode cX5_reads 41 = .ok (.ifCond .ne 5, 3) := by decide +kernel
theorem dX5_reads_44 : decode cX5_reads 44 = .ok (.iconst 0, 1) := by decide +kernel
theorem dX5_reads_45 : decode cX5_reads 45 = .ok (.ireturn, 1) := by decide +kernel
theorem dX5_reads_46 : decode cX5_reads 46 = .ok (.iinc 1 1, 3) := by decide +kernel
theorem dX5_reads_49 : decode cX5_reads 49 = .ok (.iload_n 1, 1) := by decide +kernel
theorem dX5_reads_50 : decode cX5_reads 50 = .ok (.bipush 6, 2) := by decide +kernel
theorem dX5_reads_52 : decode cX5_reads 52 = .ok (.if_icmp .ge 16, 3) := by decide +kernel
theorem dX5_reads_55 : decode cX5_reads 55 = .ok (.aload_n 0, 1) := by decide +kernel
theorem dX5_reads_56 : decode cX5_reads 56 = .ok (.bipush 59, 2) := by decide +kernel
theorem dX5_reads_58 : decode cX5_reads 58 = .ok (.invokevirtual 205, 3) := by decide +kernel
theorem dX5_reads_61 : decode cX5_reads 61 = .ok (.ifCond .eq 7, 3) := by decide +kernel
theorem dX5_reads_64 : decode cX5_reads 64 = .ok (.iconst 1, 1) := by decide +kernel
theorem dX5_reads_65 : decode cX5_reads 65 = .ok (.goto 4, 3) := by decide +kernel
theorem dX5_reads_68 : decode cX5_reads 68 = .ok (.iconst 0, 1) := by decide +kernel
theorem dX5_reads_69 : decode cX5_reads 69 = .ok (.istore_n 2, 1) := by decide +kernel
theorem dX5_reads_70 : decode cX5_reads 70 = .ok (.goto (-61), 3) := by decide +kernel
theorem dX5_reads_73 : decode cX5_reads 73 = .ok (.aload_n 0, 1) := by decide +kernel
theorem dX5_reads_74 : decode cX5_reads 74 = .ok (.getfield 7, 3) := by decide +kernel
theorem dX5_reads_77 : decode cX5_reads 77 = .ok (.bipush 11, 2) := by decide +kernel
theorem dX5_reads_79 : decode cX5_reads 79 = .ok (.iload_n 1, 1) := by decide +kernel
theorem dX5_reads_80 : decode cX5_reads 80 = .ok (.iastore, 1) := by decide +kernel
theorem dX5_reads_81 : decode cX5_reads 81 = .ok (.aload_n 0, 1) := by decide +kernel
theorem dX5_reads_82 : decode cX5_reads 82 = .ok (.getfield 195, 3) := by decide +kernel
theorem dX5_reads_85 : decode cX5_reads 85 = .ok (.aload_n 0, 1) := by decide +kernel
theorem dX5_reads_86 : decode cX5_reads 86 = .ok (.getfield 188, 3) := by decide +kernel
theorem dX5_reads_89 : decode cX5_reads 89 = .ok (.if_icmp .ne 12, 3) := by decide +kernel
theorem dX5_reads_92 : decode cX5_reads 92 = .ok (.iload_n 1, 1) := by decide +kernel
theorem dX5_reads_93 : decode cX5_reads 93 = .ok (.iconst 2, 1) := by decide +kernel
theorem dX5_reads_94 : decode cX5_reads 94 = .ok (.if_icmp .le 7, 3) := by decide +kernel
theorem dX5_reads_97 : decode cX5_reads 97 = .ok (.iconst 1, 1) := by decide +kernel
theorem dX5_reads_98 : decode cX5_reads 98 = .ok (.goto 4, 3) := by decide +kernel
theorem dX5_reads_101 : decode cX5_reads 101 = .ok (.iconst 0, 1) := by decide +kernel
theorem dX5_reads_102 : decode cX5_reads 102 = .ok (.ireturn, 1) := by decide +kernel
set_option maxRecDepth 20000 in
theorem ggX5_cornerOutside_X5_corners : GoodIn wsX5_cornerOutside wsX5_corners := goodIn_r _ [6, 1, 15, 16, 17, 18, 19, 20, 21, 22, 23, 24] (by decide +kernel) (by decide +kernel)
set_option maxRecDepth 20000 in
theorem gX5_cornerOutside_X5_corners : GoodIn wsX5_cornerOutside (wsV RX5 30 RX5 yX5_corners wsX5_corners) := goodIn_app (goodIn_of _ (by decide +kernel)) ggX5_cornerOutside_X5_corners
set_option maxRecDepth 20000 in
theorem ggX5_cornerOutside_X5_x : GoodIn wsX5_cornerOutside wsX5_x := goodIn_r _ [10, 1, 2, 3, 4, 5, 6, 15, 16, 17, 18, 19, 20, 21, 22, 23, 24] (by decide +kernel) (by decide +kernel)
set_option maxRecDepth 20000 in
theorem gX5_cornerOutside_X5_x : GoodIn wsX5_cornerOutside (wsV RX5 34 RX5 yX5_x wsX5_x) := goodIn_app (goodIn_of _ (by decide +kernel)) ggX5_cornerOutside_X5_x
set_option maxRecDepth 20000 in
theorem ggX5_cornerOutside_X5_y : GoodIn wsX5_cornerOutside wsX5_y := goodIn_r _ [14, 1, 2, 3, 4, 5, 6, 15, 16, 17, 18, 19, 20, 21, 22, 23, 24] (by decide +kernel) (by decide +kernel)
set_option maxRecDepth 20000 in
theorem gX5_cornerOutside_X5_y : GoodIn wsX5_cornerOutside (wsV RX5 38 RX5 yX5_y wsX5_y) := goodIn_app (goodIn_of _ (by decide +kernel)) ggX5_cornerOutside_X5_y
theorem dX5_cornerOutside_0 : decode cX5_cornerOutside 0 = .ok (.iconst 0, 1) := by decide +kernel
theorem dX5_cornerOutside_1 : decode cX5_cornerOutside 1 = .ok (.istore_n 1, 1) := by decide +kernel
theorem dX5_cornerOutside_2 : decode cX5_cornerOutside 2 = .ok (.iload_n 1, 1) := by decide +kernel
theorem dX5_cornerOutside_3 : decode cX5_cornerOutside 3 = .ok (.aload_n 0, 1) := by decide +kernel
theorem dX5_cornerOutside_4 : decode cX5_cornerOutside 4 = .ok (.bipush 8, 2) := by decide +kernel
theorem dX5_cornerOutside_6 : decode cX5_cornerOutside 6 = .ok (.invokevirtual 30, 3) := by decide +kernel
theorem dX5_cornerOutside_9 : decode cX5_cornerOutside 9 = .ok (.if_icmp .ge 43, 3) := by decide +kernel
theorem dX5_cornerOutside_12 : decode cX5_cornerOutside 12 = .ok (.aload_n 0, 1) := by decide +kernel
theorem dX5_cornerOutside_13 : decode cX5_cornerOutside 13 = .ok (.bipush 8, 2) := by decide +kernel
theorem dX5_cornerOutside_15 : decode cX5_cornerOutside 15 = .ok (.iload_n 1, 1) := by decide +kernel
theorem dX5_cornerOutside_16 : decode cX5_cornerOutside 16 = .ok (.invokevirtual 34, 3) := by decide +kernel
theorem dX5_cornerOutside_19 : decode cX5_cornerOutside 19 = .ok (.aload_n 0, 1) := by decide +kernel
theorem dX5_cornerOutside_20 : decode cX5_cornerOutside 20 = .ok (.getfield 7, 3) := by decide +kernel
theorem dX5_cornerOutside_23 : decode cX5_cornerOutside 23 = .ok (.iconst 0, 1) := by decide +kernel
theorem dX5_cornerOutside_24 : decode cX5_cornerOutside 24 = .ok (.iaload, 1) := by decide +kernel
theorem dX5_cornerOutside_25 : decode cX5_cornerOutside 25 = .ok (.if_icmp .gt 19, 3) := by decide +kernel
theorem dX5_cornerOutside_28 : decode cX5_cornerOutside 28 = .ok (.aload_n 0, 1) := by decide +kernel
theorem dX5_cornerOutside_29 : decode cX5_cornerOutside 29 = .ok (.bipush 8, 2) := by decide +kernel
theorem dX5_cornerOutside_31 : decode cX5_cornerOutside 31 = .ok (.iload_n 1, 1) := by decide +kernel
theorem dX5_cornerOutside_32 : decode cX5_cornerOutside 32 = .ok (.invokevirtual 38, 3) := by decide +kernel
theorem dX5_cornerOutside_35 : decode cX5_cornerOutside 35 = .ok (.aload_n 0, 1) := by decide +kernel
theorem dX5_cornerOutside_36 : decode cX5_cornerOutside 36 = .ok (.getfield 7, 3) := by decide +kernel
theorem dX5_cornerOutside_39 : decode cX5_cornerOutside 39 = .ok (.iconst 1, 1) := by decide +kernel
theorem dX5_cornerOutside_40 : decode cX5_cornerOutside 40 = .ok (.iaload, 1) := by decide +kernel
theorem dX5_cornerOutside_41 : decode cX5_cornerOutside 41 = .ok (.if_icmp .le 5, 3) := by decide +kernel
theorem dX5_cornerOutside_44 : decode cX5_cornerOutside 44 = .ok (.iload_n 1, 1) := by decide +kernel
theorem dX5_cornerOutside_45 : decode cX5_cornerOutside 45 = .ok (.ireturn, 1) := by decide +kernel
theorem dX5_cornerOutside_46 : decode cX5_cornerOutside 46 = .ok (.iinc 1 1, 3) := by decide +kernel
theorem dX5_cornerOutside_49 : decode cX5_cornerOutside 49 = .ok (.goto (-47), 3) := by decide +kernel
theorem dX5_cornerOutside_52 : decode cX5_cornerOutside 52 = .ok (.iconst (-1), 1) := by decide +kernel
theorem dX5_cornerOutside_53 : decode cX5_cornerOutside 53 = .ok (.ireturn, 1) := by decide +kernel
set_option maxRecDepth 20000 in
theorem ggX5_goesUp_X5_y : GoodIn wsX5_goesUp wsX5_y := goodIn_r _ [5, 6, 7, 8, 9, 4, 10, 15, 16, 17, 18, 19, 20, 21, 22, 23, 24] (by decide +kernel) (by decide +kernel)
set_option maxRecDepth 20000 in
theorem gX5_goesUp_X5_y : GoodIn wsX5_goesUp (wsV RX5 38 RX5 yX5_y wsX5_y) := goodIn_app (goodIn_of _ (by decide +kernel)) ggX5_goesUp_X5_y
set_option maxRecDepth 20000 in
theorem ggX5_goesUp_X5_x : GoodIn wsX5_goesUp wsX5_x := goodIn_r _ [14, 6, 7, 8, 9, 4, 10, 15, 16, 17, 18, 19, 20, 21, 22, 23, 24] (by decide +kernel) (by decide +kernel)
set_option maxRecDepth 20000 in
theorem gX5_goesUp_X5_x : GoodIn wsX5_goesUp (wsV RX5 34 RX5 yX5_x wsX5_x) := goodIn_app (goodIn_of _ (by decide +kernel)) ggX5_goesUp_X5_x
theorem dX5_goesUp_0 : decode cX5_goesUp 0 = .ok (.aload_n 0, 1) := by decide +kernel
theorem dX5_goesUp_1 : decode cX5_goesUp 1 = .ok (.bipush 8, 2) := by decide +kernel
theorem dX5_goesUp_3 : decode cX5_goesUp 3 = .ok (.iload_n 1, 1) := by decide +kernel
theorem dX5_goesUp_4 : decode cX5_goesUp 4 = .ok (.iconst 1, 1) := by decide +kernel
theorem dX5_goesUp_5 : decode cX5_goesUp 5 = .ok (.iadd, 1) := by decide +kernel
theorem dX5_goesUp_6 : decode cX5_goesUp 6 = .ok (.invokevirtual 38, 3) := by decide +kernel
theorem dX5_goesUp_9 : decode cX5_goesUp 9 = .ok (.aload_n 0, 1) := by decide +kernel
theorem dX5_goesUp_10 : decode cX5_goesUp 10 = .ok (.bipush 8, 2) := by decide +kernel
theorem dX5_goesUp_12 : decode cX5_goesUp 12 = .ok (.iload_n 1, 1) := by decide +kernel
theorem dX5_goesUp_13 : decode cX5_goesUp 13 = .ok (.invokevirtual 38, 3) := by decide +kernel
theorem dX5_goesUp_16 : decode cX5_goesUp 16 = .ok (.isub, 1) := by decide +kernel
theorem dX5_goesUp_17 : decode cX5_goesUp 17 = .ok (.istore_n 2, 1) := by decide +kernel
theorem dX5_goesUp_18 : decode cX5_goesUp 18 = .ok (.iload_n 2, 1) := by decide +kernel
theorem dX5_goesUp_19 : decode cX5_goesUp 19 = .ok (.ifCond .gt 26, 3) := by decide +kernel
theorem dX5_goesUp_22 : decode cX5_goesUp 22 = .ok (.iload_n 2, 1) := by decide +kernel
theorem dX5_goesUp_23 : decode cX5_goesUp 23 = .ok (.ifCond .ne 26, 3) := by decide +kernel
theorem dX5_goesUp_26 : decode cX5_goesUp 26 = .ok (.aload_n 0, 1) := by decide +kernel
theorem dX5_goesUp_27 : decode cX5_goesUp 27 = .ok (.bipush 8, 2) := by decide +kernel
theorem dX5_goesUp_29 : decode cX5_goesUp 29 = .ok (.iload_n 1, 1) := by decide +kernel
theorem dX5_goesUp_30 : decode cX5_goesUp 30 = .ok (.iconst 1, 1) := by decide +kernel
theorem dX5_goesUp_31 : decode cX5_goesUp 31 = .ok (.iadd, 1) := by decide +kernel
theorem dX5_goesUp_32 : decode cX5_goesUp 32 = .ok (.invokevirtual 34, 3) := by decide +kernel
theorem dX5_goesUp_35 : decode cX5_goesUp 35 = .ok (.aload_n 0, 1) := by decide +kernel
theorem dX5_goesUp_36 : decode cX5_goesUp 36 = .ok (.bipush 8, 2) := by decide +kernel
theorem dX5_goesUp_38 : decode cX5_goesUp 38 = .ok (.iload_n 1, 1) := by decide +kernel
theorem dX5_goesUp_39 : decode cX5_goesUp 39 = .ok (.invokevirtual 34, 3) := by decide +kernel
theorem dX5_goesUp_42 : decode cX5_goesUp 42 = .ok (.if_icmp .le 7, 3) := by decide +kernel
theorem dX5_goesUp_45 : decode cX5_goesUp 45 = .ok (.iconst 1, 1) := by decide +kernel
theorem dX5_goesUp_46 : decode cX5_goesUp 46 = .ok (.goto 4, 3) := by decide +kernel
theorem dX5_goesUp_49 : decode cX5_goesUp 49 = .ok (.iconst 0, 1) := by decide +kernel
theorem dX5_goesUp_50 : decode cX5_goesUp 50 = .ok (.ireturn, 1) := by decide +kernel
set_option maxRecDepth 20000 in
theorem ggX5_badCorner_X5_corners : GoodIn wsX5_badCorner wsX5_corners := goodIn_r _ [5, 6, 23, 24, 25, 26, 27, 28, 29, 30, 31, 32] (by decide +kernel) (by decide +kernel)
set_option maxRecDepth 20000 in
theorem gX5_badCorner_X5_corners : GoodIn wsX5_badCorner (wsV RX5 30 RX5 yX5_corners wsX5_corners) := goodIn_app (goodIn_of _ (by decide +kernel)) ggX5_badCorner_X5_corners
set_option maxRecDepth 20000 in
theorem ggX5_badCorner_X5_side : GoodIn wsX5_badCorner wsX5_side := goodIn_r _ [10, 11, 12, 13, 4, 14, 6, 1, 2, 3, 5, 15, 16, 17, 18, 23, 24, 25, 26, 27, 28, 29, 30, 31, 32] (by decide +kernel) (by decide +kernel)
set_option maxRecDepth 20000 in
theorem gX5_badCorner_X5_side : GoodIn wsX5_badCorner (wsV RX5 41 RX5 yX5_side wsX5_side) := goodIn_app (goodIn_of _ (by decide +kernel)) ggX5_badCorner_X5_side
set_option maxRecDepth 20000 in
theorem ggX5_badCorner_X5_goesUp : GoodIn wsX5_badCorner wsX5_goesUp := goodIn_r _ [22, 15, 16, 17, 4, 18, 6, 1, 2, 3, 5, 11, 12, 13, 14, 23, 24, 25, 26, 27, 28, 29, 30, 31, 32] (by decide +kernel) (by decide +kernel)
set_option maxRecDepth 20000 in
theorem gX5_badCorner_X5_goesUp : GoodIn wsX5_badCorner (wsV RX5 208 RX5 yX5_goesUp wsX5_goesUp) := goodIn_app (goodIn_of _ (by decide +kernel)) ggX5_badCorner_X5_goesUp
theorem dX5_badCorner_0 : decode cX5_badCorner 0 = .ok (.aload_n 0, 1) := by decide +kernel
theorem dX5_badCorner_1 : decode cX5_badCorner 1 = .ok (.bipush 8, 2) := by decide +kernel
theorem dX5_badCorner_3 : decode cX5_badCorner 3 = .ok (.invokevirtual 30, 3) := by decide +kernel
theorem dX5_badCorner_6 : decode cX5_badCorner 6 = .ok (.istore_n 1, 1) := by decide +kernel
theorem dX5_badCorner_7 : decode cX5_badCorner 7 = .ok (.iconst 0, 1) := by decide +kernel
theorem dX5_badCorner_8 : decode cX5_badCorner 8 = .ok (.istore_n 2, 1) := by decide +kernel
theorem dX5_badCorner_9 : decode cX5_badCorner 9 = .ok (.iconst 0, 1) := by decide +kernel
theorem dX5_badCorner_10 : decode cX5_badCorner 10 = .ok (.istore_n 3, 1) := by decide +kernel
theorem dX5_badCorner_11 : decode cX5_badCorner 11 = .ok (.iload_n 3, 1) := by decide +kernel
theorem dX5_badCorner_12 : decode cX5_badCorner 12 = .ok (.iload_n 1, 1) := by decide +kernel
theorem dX5_badCorner_13 : decode cX5_badCorner 13 = .ok (.if_icmp .ge 58, 3) := by decide +kernel
theorem dX5_badCorner_16 : decode cX5_badCorner 16 = .ok (.aload_n 0, 1) := by decide +kernel
theorem dX5_badCorner_17 : decode cX5_badCorner 17 = .ok (.bipush 8, 2) := by decide +kernel
theorem dX5_badCorner_19 : decode cX5_badCorner 19 = .ok (.iload_n 3, 1) := by decide +kernel
theorem dX5_badCorner_20 : decode cX5_badCorner 20 = .ok (.iload_n 1, 1) := by decide +kernel
theorem dX5_badCorner_21 : decode cX5_badCorner 21 = .ok (.iadd, 1) := by decide +kernel
theorem dX5_badCorner_22 : decode cX5_badCorner 22 = .ok (.iconst 1, 1) := by decide +kernel
theorem dX5_badCorner_23 : decode cX5_badCorner 23 = .ok (.isub, 1) := by decide +kernel
theorem dX5_badCorner_24 : decode cX5_badCorner 24 = .ok (.bipush 8, 2) := by decide +kernel
theorem dX5_badCorner_26 : decode cX5_badCorner 26 = .ok (.iload_n 3, 1) := by decide +kernel
theorem dX5_badCorner_27 : decode cX5_badCorner 27 = .ok (.iconst 1, 1) := by decide +kernel
theorem dX5_badCorner_28 : decode cX5_badCorner 28 = .ok (.iadd, 1) := by decide +kernel
theorem dX5_badCorner_29 : decode cX5_badCorner 29 = .ok (.invokevirtual 41, 3) := by decide +kernel
theorem dX5_badCorner_32 : decode cX5_badCorner 32 = .ok (.ifCond .gt 5, 3) := by decide +kernel
theorem dX5_badCorner_35 : decode cX5_badCorner 35 = .ok (.iload_n 3, 1) := by decide +kernel
theorem dX5_badCorner_36 : decode cX5_badCorner 36 = .ok (.ireturn, 1) := by decide +kernel
theorem dX5_badCorner_37 : decode cX5_badCorner 37 = .ok (.iload_n 2, 1) := by decide +kernel
theorem dX5_badCorner_38 : decode cX5_badCorner 38 = .ok (.aload_n 0, 1) := by decide +kernel
theorem dX5_badCorner_39 : decode cX5_badCorner 39 = .ok (.iload_n 3, 1) := by decide +kernel
theorem dX5_badCorner_40 : decode cX5_badCorner 40 = .ok (.invokevirtual 208, 3) := by decide +kernel
theorem dX5_badCorner_43 : decode cX5_badCorner 43 = .ok (.ifCond .eq 19, 3) := by decide +kernel
theorem dX5_badCorner_46 : decode cX5_badCorner 46 = .ok (.aload_n 0, 1) := by decide +kernel
theorem dX5_badCorner_47 : decode cX5_badCorner 47 = .ok (.iload_n 3, 1) := by decide +kernel
theorem dX5_badCorner_48 : decode cX5_badCorner 48 = .ok (.iload_n 1, 1) := by decide +kernel
theorem dX5_badCorner_49 : decode cX5_badCorner 49 = .ok (.iadd, 1) := by decide +kernel
theorem dX5_badCorner_50 : decode cX5_badCorner 50 = .ok (.iconst 1, 1) := by decide +kernel
theorem dX5_badCorner_51 : decode cX5_badCorner 51 = .ok (.isub, 1) := by decide +kernel
theorem dX5_badCorner_52 : decode cX5_badCorner 52 = .ok (.invokevirtual 208, 3) := by decide +kernel
theorem dX5_badCorner_55 : decode cX5_badCorner 55 = .ok (.ifCond .ne 7, 3) := by decide +kernel
theorem dX5_badCorner_58 : decode cX5_badCorner 58 = .ok (.iconst 1, 1) := by decide +kernel
theorem dX5_badCorner_59 : decode cX5_badCorner 59 = .ok (.goto 4, 3) := by decide +kernel
theorem dX5_badCorner_62 : decode cX5_badCorner 62 = .ok (.iconst 0, 1) := by decide +kernel
theorem dX5_badCorner_63 : decode cX5_badCorner 63 = .ok (.iadd, 1) := by decide +kernel
theorem dX5_badCorner_64 : decode cX5_badCorner 64 = .ok (.istore_n 2, 1) := by decide +kernel
theorem dX5_badCorner_65 : decode cX5_badCorner 65 = .ok (.iinc 3 1, 3) := by decide +kernel
theorem dX5_badCorner_68 : decode cX5_badCorner 68 = .ok (.goto (-57), 3) := by decide +kernel
theorem dX5_badCorner_71 : decode cX5_badCorner 71 = .ok (.iload_n 2, 1) := by decide +kernel
theorem dX5_badCorner_72 : decode cX5_badCorner 72 = .ok (.iconst 1, 1) := by decide +kernel
theorem dX5_badCorner_73 : decode cX5_badCorner 73 = .ok (.if_icmp .le 7, 3) := by decide +kernel
theorem dX5_badCorner_76 : decode cX5_badCorner 76 = .ok (.iload_n 1, 1) := by decide +kernel
theorem dX5_badCorner_77 : decode cX5_badCorner 77 = .ok (.goto 4, 3) := by decide +kernel
theorem dX5_badCorner_80 : decode cX5_badCorner 80 = .ok (.iconst (-1), 1) := by decide +kernel
theorem dX5_badCorner_81 : decode cX5_badCorner 81 = .ok (.ireturn, 1) := by decide +kernel
theorem dX5_notes_0 : decode cX5_notes 0 = .ok (.aload_n 0, 1) := by decide +kernel
theorem dX5_notes_1 : decode cX5_notes 1 = .ok (.iload_n 1, 1) := by decide +kernel
theorem dX5_notes_2 : decode cX5_notes 2 = .ok (.putfield 211, 3) := by decide +kernel
theorem dX5_notes_5 : decode cX5_notes 5 = .ok (.aload_n 0, 1) := by decide +kernel
theorem dX5_notes_6 : decode cX5_notes 6 = .ok (.iload_n 2, 1) := by decide +kernel
theorem dX5_notes_7 : decode cX5_notes 7 = .ok (.putfield 214, 3) := by decide +kernel
theorem dX5_notes_10 : decode cX5_notes 10 = .ok (.aload_n 0, 1) := by decide +kernel
theorem dX5_notes_11 : decode cX5_notes 11 = .ok (.iload_n 3, 1) := by decide +kernel
theorem dX5_notes_12 : decode cX5_notes 12 = .ok (.putfield 217, 3) := by decide +kernel
theorem dX5_notes_15 : decode cX5_notes 15 = .ok (.iconst 1, 1) := by decide +kernel
theorem dX5_notes_16 : decode cX5_notes 16 = .ok (.ireturn, 1) := by decide +kernel
set_option maxRecDepth 20000 in
theorem ggX5_hasFault_X5_reads : GoodIn wsX5_hasFault wsX5_reads := goodIn_r _ [6, 1, 7, 8, 9, 10, 11, 5, 12, 13, 14, 15, 16, 17, 18, 19, 20, 21, 22, 74, 75, 76, 77, 78, 79, 80, 81, 82, 83] (by decide +kernel) (by decide +kernel)
set_option maxRecDepth 20000 in
theorem gX5_hasFault_X5_reads : GoodIn wsX5_hasFault (wsV RX5 220 RX5 yX5_reads wsX5_reads) := goodIn_app (goodIn_of _ (by decide +kernel)) ggX5_hasFault_X5_reads
set_option maxRecDepth 20000 in
theorem ggX5_hasFault_X5_notes : GoodIn wsX5_hasFault wsX5_notes := goodIn_r _ [26, 27, 28, 29, 74, 75, 76, 77, 78, 79, 80, 81, 82, 83] (by decide +kernel) (by decide +kernel)
set_option maxRecDepth 20000 in
theorem gX5_hasFault_X5_notes : GoodIn wsX5_hasFault (wsV RX5 223 RX5 yX5_notes wsX5_notes) := goodIn_app (goodIn_of _ (by decide +kernel)) ggX5_hasFault_X5_notes
set_option maxRecDepth 20000 in
theorem ggX5_hasFault_X5_cornerOutside : GoodIn wsX5_hasFault wsX5_cornerOutside := goodIn_r _ [33, 7, 34, 35, 36, 5, 37, 38, 39, 40, 41, 42, 43, 44, 45, 74, 75, 76, 77, 78, 79, 80, 81, 82, 83] (by decide +kernel) (by decide +kernel)
set_option maxRecDepth 20000 in
theorem gX5_hasFault_X5_cornerOutside : GoodIn wsX5_hasFault (wsV RX5 226 RX5 yX5_cornerOutside wsX5_cornerOutside) := goodIn_app (goodIn_of _ (by decide +kernel)) ggX5_hasFault_X5_cornerOutside
set_option maxRecDepth 20000 in
theorem ggX5_hasFault_X5_badCorner : GoodIn wsX5_hasFault wsX5_badCorner := goodIn_r _ [49, 34, 35, 36, 5, 37, 7, 50, 51, 52, 53, 38, 39, 40, 41, 42, 43, 44, 45, 54, 55, 56, 57, 74, 75, 76, 77, 78, 79, 80, 81, 82, 83] (by decide +kernel) (by decide +kernel)
set_option maxRecDepth 20000 in
theorem gX5_hasFault_X5_badCorner : GoodIn wsX5_hasFault (wsV RX5 229 RX5 yX5_badCorner wsX5_badCorner) := goodIn_app (goodIn_of _ (by decide +kernel)) ggX5_hasFault_X5_badCorner
set_option maxRecDepth 20000 in
theorem ggX5_hasFault_X5_overlapped : GoodIn wsX5_hasFault wsX5_overlapped := goodIn_r _ [61, 7, 62, 63, 64, 5, 65, 66, 67, 68, 69, 34, 35, 36, 37, 70, 71, 72, 73, 50, 51, 52, 53, 38, 39, 40, 41, 42, 43, 44, 45, 74, 75, 76, 77, 78, 79, 80, 81, 82, 83] (by decide +kernel) (by decide +kernel)
set_option maxRecDepth 20000 in
theorem gX5_hasFault_X5_overlapped : GoodIn wsX5_hasFault (wsV RX5 78 RX5 yX5_overlapped wsX5_overlapped) := goodIn_app (goodIn_of _ (by decide +kernel)) ggX5_hasFault_X5_overlapped
theorem dX5_hasFault_0 : decode cX5_hasFault 0 = .ok (.aload_n 0, 1) := by decide +kernel
theorem dX5_hasFault_1 : decode cX5_hasFault 1 = .ok (.invokevirtual 220, 3) := by decide +kernel
theorem dX5_hasFault_4 : decode cX5_hasFault 4 = .ok (.ifCond .ne 14, 3) := by decide +kernel
theorem dX5_hasFault_7 : decode cX5_hasFault 7 = .ok (.aload_n 0, 1) := by decide +kernel
theorem dX5_hasFault_8 : decode cX5_hasFault 8 = .ok (.aload_n 0, 1) := by decide +kernel
theorem dX5_hasFault_9 : decode cX5_hasFault 9 = .ok (.getfield 195, 3) := by decide +kernel
theorem dX5_hasFault_12 : decode cX5_hasFault 12 = .ok (.iconst 1, 1) := by decide +kernel
theorem dX5_hasFault_13 : decode cX5_hasFault 13 = .ok (.iconst 0, 1) := by decide +kernel
theorem dX5_hasFault_14 : decode cX5_hasFault 14 = .ok (.invokevirtual 223, 3) := by decide +kernel
theorem dX5_hasFault_17 : decode cX5_hasFault 17 = .ok (.ireturn, 1) := by decide +kernel
theorem dX5_hasFault_18 : decode cX5_hasFault 18 = .ok (.aload_n 0, 1) := by decide +kernel
theorem dX5_hasFault_19 : decode cX5_hasFault 19 = .ok (.invokevirtual 226, 3) := by decide +kernel
theorem dX5_hasFault_22 : decode cX5_hasFault 22 = .ok (.istore_n 1, 1) := by decide +kernel
theorem dX5_hasFault_23 : decode cX5_hasFault 23 = .ok (.iload_n 1, 1) := by decide +kernel
theorem dX5_hasFault_24 : decode cX5_hasFault 24 = .ok (.iconst (-1), 1) := by decide +kernel
theorem dX5_hasFault_25 : decode cX5_hasFault 25 = .ok (.if_icmp .eq 11, 3) := by decide +kernel
theorem dX5_hasFault_28 : decode cX5_hasFault 28 = .ok (.aload_n 0, 1) := by decide +kernel
theorem dX5_hasFault_29 : decode cX5_hasFault 29 = .ok (.iconst 0, 1) := by decide +kernel
theorem dX5_hasFault_30 : decode cX5_hasFault 30 = .ok (.iconst 2, 1) := by decide +kernel
theorem dX5_hasFault_31 : decode cX5_hasFault 31 = .ok (.iload_n 1, 1) := by decide +kernel
theorem dX5_hasFault_32 : decode cX5_hasFault 32 = .ok (.invokevirtual 223, 3) := by decide +kernel
theorem dX5_hasFault_35 : decode cX5_hasFault 35 = .ok (.ireturn, 1) := by decide +kernel
theorem dX5_hasFault_36 : decode cX5_hasFault 36 = .ok (.aload_n 0, 1) := by decide +kernel
theorem dX5_hasFault_37 : decode cX5_hasFault 37 = .ok (.invokevirtual 229, 3) := by decide +kernel
theorem dX5_hasFault_40 : decode cX5_hasFault 40 = .ok (.istore_n 2, 1) := by decide +kernel
theorem dX5_hasFault_41 : decode cX5_hasFault 41 = .ok (.iload_n 2, 1) := by decide +kernel
theorem dX5_hasFault_42 : decode cX5_hasFault 42 = .ok (.iconst (-1), 1) := by decide +kernel
theorem dX5_hasFault_43 : decode cX5_hasFault 43 = .ok (.if_icmp .eq 11, 3) := by decide +kernel
theorem dX5_hasFault_46 : decode cX5_hasFault 46 = .ok (.aload_n 0, 1) := by decide +kernel
theorem dX5_hasFault_47 : decode cX5_hasFault 47 = .ok (.iconst 0, 1) := by decide +kernel
theorem dX5_hasFault_48 : decode cX5_hasFault 48 = .ok (.iconst 3, 1) := by decide +kernel
theorem dX5_hasFault_49 : decode cX5_hasFault 49 = .ok (.iload_n 2, 1) := by decide +kernel
theorem dX5_hasFault_50 : decode cX5_hasFault 50 = .ok (.invokevirtual 223, 3) := by decide +kernel
theorem dX5_hasFault_53 : decode cX5_hasFault 53 = .ok (.ireturn, 1) := by decide +kernel
theorem dX5_hasFault_54 : decode cX5_hasFault 54 = .ok (.aload_n 0, 1) := by decide +kernel
theorem dX5_hasFault_55 : decode cX5_hasFault 55 = .ok (.bipush 8, 2) := by decide +kernel
theorem dX5_hasFault_57 : decode cX5_hasFault 57 = .ok (.invokevirtual 78, 3) := by decide +kernel
theorem dX5_hasFault_60 : decode cX5_hasFault 60 = .ok (.istore_n 3, 1) := by decide +kernel
theorem dX5_hasFault_61 : decode cX5_hasFault 61 = .ok (.iconst 0, 1) := by decide +kernel
theorem dX5_hasFault_62 : decode cX5_hasFault 62 = .ok (.istore 4, 2) := by decide +kernel
theorem dX5_hasFault_64 : decode cX5_hasFault 64 = .ok (.iload_n 3, 1) := by decide +kernel
theorem dX5_hasFault_65 : decode cX5_hasFault 65 = .ok (.ifCond .eq 18, 3) := by decide +kernel
theorem dX5_hasFault_68 : decode cX5_hasFault 68 = .ok (.iload_n 3, 1) := by decide +kernel
theorem dX5_hasFault_69 : decode cX5_hasFault 69 = .ok (.iload 4, 2) := by decide +kernel
theorem dX5_hasFault_71 : decode cX5_hasFault 71 = .ok (.ishr, 1) := by decide +kernel
theorem dX5_hasFault_72 : decode cX5_hasFault 72 = .ok (.iconst 1, 1) := by decide +kernel
theorem dX5_hasFault_73 : decode cX5_hasFault 73 = .ok (.iand, 1) := by decide +kernel
theorem dX5_hasFault_74 : decode cX5_hasFault 74 = .ok (.ifCond .ne 9, 3) := by decide +kernel
theorem dX5_hasFault_77 : decode cX5_hasFault 77 = .ok (.iinc 4 1, 3) := by decide +kernel
theorem dX5_hasFault_80 : decode cX5_hasFault 80 = .ok (.goto (-16), 3) := by decide +kernel
theorem dX5_hasFault_83 : decode cX5_hasFault 83 = .ok (.iload_n 3, 1) := by decide +kernel
theorem dX5_hasFault_84 : decode cX5_hasFault 84 = .ok (.ifCond .eq 18, 3) := by decide +kernel
theorem dX5_hasFault_87 : decode cX5_hasFault 87 = .ok (.aload_n 0, 1) := by decide +kernel
theorem dX5_hasFault_88 : decode cX5_hasFault 88 = .ok (.iconst 0, 1) := by decide +kernel
theorem dX5_hasFault_89 : decode cX5_hasFault 89 = .ok (.iconst 4, 1) := by decide +kernel
theorem dX5_hasFault_90 : decode cX5_hasFault 90 = .ok (.iload 4, 2) := by decide +kernel
theorem dX5_hasFault_92 : decode cX5_hasFault 92 = .ok (.invokevirtual 223, 3) := by decide +kernel
theorem dX5_hasFault_95 : decode cX5_hasFault 95 = .ok (.ifCond .eq 7, 3) := by decide +kernel
theorem dX5_hasFault_98 : decode cX5_hasFault 98 = .ok (.iconst 1, 1) := by decide +kernel
theorem dX5_hasFault_99 : decode cX5_hasFault 99 = .ok (.goto 4, 3) := by decide +kernel
theorem dX5_hasFault_102 : decode cX5_hasFault 102 = .ok (.iconst 0, 1) := by decide +kernel
theorem dX5_hasFault_103 : decode cX5_hasFault 103 = .ok (.ireturn, 1) := by decide +kernel
set_option maxRecDepth 20000 in
theorem ggX5_fault_X5_in : GoodIn wsX5_fault wsX5_in := goodIn_r _ [10] (by decide +kernel) (by decide +kernel)
set_option maxRecDepth 20000 in
theorem gX5_fault_X5_in : GoodIn wsX5_fault (va_wsS RX5 26 yX5_in wsX5_in) := goodIn_app (goodIn_of _ (by decide +kernel)) ggX5_fault_X5_in
set_option maxRecDepth 20000 in
theorem ggX5_fault_X5_hasFault : GoodIn wsX5_fault wsX5_hasFault := goodIn_r _ [14, 15, 16, 17, 18, 9, 19, 20, 21, 22, 23, 24, 25, 26, 27, 28, 7, 8, 10, 29, 30, 31, 32, 33, 34, 35, 36, 4, 5, 6, 37, 38, 39, 40, 41, 42, 43, 44, 45, 46, 47, 48, 49, 50, 51, 52, 53, 54, 55, 56, 57, 58, 59, 60, 61, 62, 63, 64, 65, 66, 67, 68, 69, 70, 71, 72, 73, 74, 75, 76, 77, 78, 79, 80, 81, 82, 83, 84, 85, 86, 87, 88, 89, 90] (by decide +kernel) (by decide +kernel)
set_option maxRecDepth 20000 in
theorem gX5_fault_X5_hasFault : GoodIn wsX5_fault (wsV RX5 128 RX5 yX5_hasFault wsX5_hasFault) := goodIn_app (goodIn_of _ (by decide +kernel)) ggX5_fault_X5_hasFault
theorem dX5_fault_0 : decode cX5_fault 0 = .ok (.iload_n 1, 1) := by decide +kernel
theorem dX5_fault_1 : decode cX5_fault 1 = .ok (.i2l, 1) := by decide +kernel
theorem dX5_fault_2 : decode cX5_fault 2 = .ok (.lconst 0, 1) := by decide +kernel
theorem dX5_fault_3 : decode cX5_fault 3 = .ok (.ldc2_w 161, 3) := by decide +kernel
theorem dX5_fault_6 : decode cX5_fault 6 = .ok (.invokestatic 26, 3) := by decide +kernel
theorem dX5_fault_9 : decode cX5_fault 9 = .ok (.ifCond .ne 6, 3) := by decide +kernel
theorem dX5_fault_12 : decode cX5_fault 12 = .ok (.ldc 120, 2) := by decide +kernel
theorem dX5_fault_14 : decode cX5_fault 14 = .ok (.ireturn, 1) := by decide +kernel
theorem dX5_fault_15 : decode cX5_fault 15 = .ok (.aload_n 0, 1) := by decide +kernel
theorem dX5_fault_16 : decode cX5_fault 16 = .ok (.invokevirtual 128, 3) := by decide +kernel
theorem dX5_fault_19 : decode cX5_fault 19 = .ok (.ifCond .ne 6, 3) := by decide +kernel
theorem dX5_fault_22 : decode cX5_fault 22 = .ok (.ldc 149, 2) := by decide +kernel
theorem dX5_fault_24 : decode cX5_fault 24 = .ok (.ireturn, 1) := by decide +kernel
theorem dX5_fault_25 : decode cX5_fault 25 = .ok (.iload_n 1, 1) := by decide +kernel
theorem dX5_fault_26 : decode cX5_fault 26 = .ok (.ifCond .ne 10, 3) := by decide +kernel
theorem dX5_fault_29 : decode cX5_fault 29 = .ok (.aload_n 0, 1) := by decide +kernel
theorem dX5_fault_30 : decode cX5_fault 30 = .ok (.getfield 211, 3) := by decide +kernel
theorem dX5_fault_33 : decode cX5_fault 33 = .ok (.goto 19, 3) := by decide +kernel
theorem dX5_fault_36 : decode cX5_fault 36 = .ok (.iload_n 1, 1) := by decide +kernel
theorem dX5_fault_37 : decode cX5_fault 37 = .ok (.iconst 1, 1) := by decide +kernel
theorem dX5_fault_38 : decode cX5_fault 38 = .ok (.if_icmp .ne 10, 3) := by decide +kernel
theorem dX5_fault_41 : decode cX5_fault 41 = .ok (.aload_n 0, 1) := by decide +kernel
theorem dX5_fault_42 : decode cX5_fault 42 = .ok (.getfield 214, 3) := by decide +kernel
theorem dX5_fault_45 : decode cX5_fault 45 = .ok (.goto 7, 3) := by decide +kernel
theorem dX5_fault_48 : decode cX5_fault 48 = .ok (.aload_n 0, 1) := by decide +kernel
theorem dX5_fault_49 : decode cX5_fault 49 = .ok (.getfield 217, 3) := by decide +kernel
theorem dX5_fault_52 : decode cX5_fault 52 = .ok (.ireturn, 1) := by decide +kernel
theorem dJ6_bitCount_0f7a4_0 : decode cJ6_bitCount_0f7a4 0 = .ok (.iload_n 0, 1) := by decide +kernel
theorem dJ6_bitCount_0f7a4_1 : decode cJ6_bitCount_0f7a4 1 = .ok (.iload_n 0, 1) := by decide +kernel
theorem dJ6_bitCount_0f7a4_2 : decode cJ6_bitCount_0f7a4 2 = .ok (.iconst 1, 1) := by decide +kernel
theorem dJ6_bitCount_0f7a4_3 : decode cJ6_bitCount_0f7a4 3 = .ok (.iushr, 1) := by decide +kernel
theorem dJ6_bitCount_0f7a4_4 : decode cJ6_bitCount_0f7a4 4 = .ok (.ldc_w 265, 3) := by decide +kernel
theorem dJ6_bitCount_0f7a4_7 : decode cJ6_bitCount_0f7a4 7 = .ok (.iand, 1) := by decide +kernel
theorem dJ6_bitCount_0f7a4_8 : decode cJ6_bitCount_0f7a4 8 = .ok (.isub, 1) := by decide +kernel
theorem dJ6_bitCount_0f7a4_9 : decode cJ6_bitCount_0f7a4 9 = .ok (.istore_n 0, 1) := by decide +kernel
theorem dJ6_bitCount_0f7a4_10 : decode cJ6_bitCount_0f7a4 10 = .ok (.iload_n 0, 1) := by decide +kernel
theorem dJ6_bitCount_0f7a4_11 : decode cJ6_bitCount_0f7a4 11 = .ok (.ldc_w 266, 3) := by decide +kernel
theorem dJ6_bitCount_0f7a4_14 : decode cJ6_bitCount_0f7a4 14 = .ok (.iand, 1) := by decide +kernel
theorem dJ6_bitCount_0f7a4_15 : decode cJ6_bitCount_0f7a4 15 = .ok (.iload_n 0, 1) := by decide +kernel
theorem dJ6_bitCount_0f7a4_16 : decode cJ6_bitCount_0f7a4 16 = .ok (.iconst 2, 1) := by decide +kernel
theorem dJ6_bitCount_0f7a4_17 : decode cJ6_bitCount_0f7a4 17 = .ok (.iushr, 1) := by decide +kernel
theorem dJ6_bitCount_0f7a4_18 : decode cJ6_bitCount_0f7a4 18 = .ok (.ldc_w 266, 3) := by decide +kernel
theorem dJ6_bitCount_0f7a4_21 : decode cJ6_bitCount_0f7a4 21 = .ok (.iand, 1) := by decide +kernel
theorem dJ6_bitCount_0f7a4_22 : decode cJ6_bitCount_0f7a4 22 = .ok (.iadd, 1) := by decide +kernel
theorem dJ6_bitCount_0f7a4_23 : decode cJ6_bitCount_0f7a4 23 = .ok (.istore_n 0, 1) := by decide +kernel
theorem dJ6_bitCount_0f7a4_24 : decode cJ6_bitCount_0f7a4 24 = .ok (.iload_n 0, 1) := by decide +kernel
theorem dJ6_bitCount_0f7a4_25 : decode cJ6_bitCount_0f7a4 25 = .ok (.iload_n 0, 1) := by decide +kernel
theorem dJ6_bitCount_0f7a4_26 : decode cJ6_bitCount_0f7a4 26 = .ok (.iconst 4, 1) := by decide +kernel
theorem dJ6_bitCount_0f7a4_27 : decode cJ6_bitCount_0f7a4 27 = .ok (.iushr, 1) := by decide +kernel
theorem dJ6_bitCount_0f7a4_28 : decode cJ6_bitCount_0f7a4 28 = .ok (.iadd, 1) := by decide +kernel
theorem dJ6_bitCount_0f7a4_29 : decode cJ6_bitCount_0f7a4 29 = .ok (.ldc_w 267, 3) := by decide +kernel
theorem dJ6_bitCount_0f7a4_32 : decode cJ6_bitCount_0f7a4 32 = .ok (.iand, 1) := by decide +kernel
theorem dJ6_bitCount_0f7a4_33 : decode cJ6_bitCount_0f7a4 33 = .ok (.istore_n 0, 1) := by decide +kernel
theorem dJ6_bitCount_0f7a4_34 : decode cJ6_bitCount_0f7a4 34 = .ok (.iload_n 0, 1) := by decide +kernel
theorem dJ6_bitCount_0f7a4_35 : decode cJ6_bitCount_0f7a4 35 = .ok (.iload_n 0, 1) := by decide +kernel
theorem dJ6_bitCount_0f7a4_36 : decode cJ6_bitCount_0f7a4 36 = .ok (.bipush 8, 2) := by decide +kernel
theorem dJ6_bitCount_0f7a4_38 : decode cJ6_bitCount_0f7a4 38 = .ok (.iushr, 1) := by decide +kernel
theorem dJ6_bitCount_0f7a4_39 : decode cJ6_bitCount_0f7a4 39 = .ok (.iadd, 1) := by decide +kernel
theorem dJ6_bitCount_0f7a4_40 : decode cJ6_bitCount_0f7a4 40 = .ok (.istore_n 0, 1) := by decide +kernel
theorem dJ6_bitCount_0f7a4_41 : decode cJ6_bitCount_0f7a4 41 = .ok (.iload_n 0, 1) := by decide +kernel
theorem dJ6_bitCount_0f7a4_42 : decode cJ6_bitCount_0f7a4 42 = .ok (.iload_n 0, 1) := by decide +kernel
theorem dJ6_bitCount_0f7a4_43 : decode cJ6_bitCount_0f7a4 43 = .ok (.bipush 16, 2) := by decide +kernel
theorem dJ6_bitCount_0f7a4_45 : decode cJ6_bitCount_0f7a4 45 = .ok (.iushr, 1) := by decide +kernel
theorem dJ6_bitCount_0f7a4_46 : decode cJ6_bitCount_0f7a4 46 = .ok (.iadd, 1) := by decide +kernel
theorem dJ6_bitCount_0f7a4_47 : decode cJ6_bitCount_0f7a4 47 = .ok (.istore_n 0, 1) := by decide +kernel
theorem dJ6_bitCount_0f7a4_48 : decode cJ6_bitCount_0f7a4 48 = .ok (.iload_n 0, 1) := by decide +kernel
theorem dJ6_bitCount_0f7a4_49 : decode cJ6_bitCount_0f7a4 49 = .ok (.bipush 63, 2) := by decide +kernel
theorem dJ6_bitCount_0f7a4_51 : decode cJ6_bitCount_0f7a4 51 = .ok (.iand, 1) := by decide +kernel
theorem dJ6_bitCount_0f7a4_52 : decode cJ6_bitCount_0f7a4 52 = .ok (.ireturn, 1) := by decide +kernel
theorem dJ9_max_7cf53_0 : decode cJ9_max_7cf53 0 = .ok (.iload_n 0, 1) := by decide +kernel
theorem dJ9_max_7cf53_1 : decode cJ9_max_7cf53 1 = .ok (.iload_n 1, 1) := by decide +kernel
theorem dJ9_max_7cf53_2 : decode cJ9_max_7cf53 2 = .ok (.if_icmp .lt 7, 3) := by decide +kernel
theorem dJ9_max_7cf53_5 : decode cJ9_max_7cf53 5 = .ok (.iload_n 0, 1) := by decide +kernel
theorem dJ9_max_7cf53_6 : decode cJ9_max_7cf53 6 = .ok (.goto 4, 3) := by decide +kernel
theorem dJ9_max_7cf53_9 : decode cJ9_max_7cf53 9 = .ok (.iload_n 1, 1) := by decide +kernel
theorem dJ9_max_7cf53_10 : decode cJ9_max_7cf53 10 = .ok (.ireturn, 1) := by decide +kernel
theorem dJ9_min_7cf53_0 : decode cJ9_min_7cf53 0 = .ok (.iload_n 0, 1) := by decide +kernel
theorem dJ9_min_7cf53_1 : decode cJ9_min_7cf53 1 = .ok (.iload_n 1, 1) := by decide +kernel
theorem dJ9_min_7cf53_2 : decode cJ9_min_7cf53 2 = .ok (.if_icmp .gt 7, 3) := by decide +kernel
theorem dJ9_min_7cf53_5 : decode cJ9_min_7cf53 5 = .ok (.iload_n 0, 1) := by decide +kernel
theorem dJ9_min_7cf53_6 : decode cJ9_min_7cf53 6 = .ok (.goto 4, 3) := by decide +kernel
theorem dJ9_min_7cf53_9 : decode cJ9_min_7cf53 9 = .ok (.iload_n 1, 1) := by decide +kernel
theorem dJ9_min_7cf53_10 : decode cJ9_min_7cf53 10 = .ok (.ireturn, 1) := by decide +kernel
set_option maxRecDepth 20000 in
theorem ggL_law_X4_init : GoodIn wsL_law wsX4_init := goodIn_r _ [8, 9, 10, 11, 12, 13, 14, 15, 16, 17, 18, 19, 20, 21, 22, 23, 24, 25, 26, 27, 28, 29, 30, 31, 32, 33, 34, 35, 36, 37, 38, 39, 40, 41, 42, 43, 44, 45, 46, 47, 48, 49, 50, 51, 52, 53, 54, 55, 56, 57, 58, 59, 60, 61, 62, 63, 64, 65, 66, 67, 68, 69, 756, 757, 758, 759, 760, 761, 742, 743, 744, 745, 762, 763, 764, 765, 766, 767, 768, 769, 770, 771, 772, 773, 774, 775] (by decide +kernel) (by decide +kernel)
set_option maxRecDepth 20000 in
theorem gL_law_X4_init : GoodIn wsL_law (wsX4_init) := ggL_law_X4_init
set_option maxRecDepth 20000 in
theorem ggL_law_X5_init : GoodIn wsL_law wsX5_init := goodIn_r _ [72, 73, 10, 11, 42, 74, 75, 76, 77, 746, 747, 748, 749, 750, 751, 752, 753, 754, 755] (by decide +kernel) (by decide +kernel)
set_option maxRecDepth 20000 in
theorem gL_law_X5_init : GoodIn wsL_law (wsX5_init) := ggL_law_X5_init
set_option maxRecDepth 20000 in
theorem ggL_law_X4_box : GoodIn wsL_law wsX4_box := goodIn_r _ [81, 82, 15, 83, 20, 84, 85, 86, 87, 2, 88, 89, 90, 91, 14, 92, 35, 93, 94, 95, 96, 30, 33, 97, 98, 99, 32, 100, 101, 102, 103, 104, 45, 105, 106, 107, 108, 109, 110, 111, 112, 43, 113, 114, 115, 116, 117, 118, 119, 120, 121, 122, 123, 124, 125, 126, 127, 44, 128, 129, 130, 131, 132, 133, 134, 19, 135, 54, 53, 136, 137, 138, 139, 51, 52, 140, 141, 142, 143, 36, 37, 144, 145, 146, 147, 148, 149, 150, 151, 742, 743, 744, 745, 756, 757, 758, 759, 760, 761, 773, 774, 775, 762, 763, 764, 765] (by decide +kernel) (by decide +kernel)
set_option maxRecDepth 20000 in
theorem gL_law_X4_box : GoodIn wsL_law (wsV RL 13 RX4 yX4_box wsX4_box) := goodIn_app (goodIn_of _ (by decide +kernel)) ggL_law_X4_box
set_option maxRecDepth 20000 in
theorem ggL_law_X5_box : GoodIn wsL_law wsX5_box := goodIn_r _ [155, 156, 157, 158, 74, 159, 160, 161, 5, 162, 163, 164, 165, 166, 167, 168, 169, 170, 171, 172, 173, 174, 175, 176, 177, 178, 179, 180, 181, 182, 76, 183, 184, 185, 186, 187, 75, 746, 747, 748, 749, 750, 751, 752, 753, 754, 755] (by decide +kernel) (by decide +kernel)
set_option maxRecDepth 20000 in
theorem gL_law_X5_box : GoodIn wsL_law (wsV RL 17 RX5 yX5_box wsX5_box) := goodIn_app (goodIn_of _ (by decide +kernel)) ggL_law_X5_box
set_option maxRecDepth 20000 in
theorem ggL_law_X4_put : GoodIn wsL_law wsX4_put := goodIn_r _ [191, 24, 15, 192, 83, 193, 194, 20, 195, 196, 197, 198, 23, 199, 64, 63, 200, 201, 202, 203, 204, 205, 66, 67, 68, 206, 207, 208, 209, 210, 65, 211, 212, 213, 214, 215, 216, 217, 218, 61, 219, 220, 221, 222, 223, 224, 225, 226, 227, 228, 229, 32, 230, 45, 148, 149, 150, 151, 43, 44, 231, 232, 233, 234, 109, 110, 111, 112, 124, 125, 126, 127, 235, 236, 237, 238, 239, 240, 241, 242, 243, 2, 244, 245, 246, 247, 248, 249, 250, 251, 252, 253, 254, 255, 14, 256, 35, 93, 94, 95, 96, 30, 33, 257, 258, 259, 260, 105, 106, 107, 108, 261, 262, 263, 264, 265, 117, 118, 119, 266, 267, 132, 133, 134, 19, 135, 54, 53, 136, 137, 138, 139, 51, 52, 140, 141, 142, 143, 36, 37, 144, 145, 146, 147, 268, 269, 270, 271, 742, 743, 744, 745, 766, 767, 768, 769, 770, 771, 772, 756, 757, 758, 759, 760, 761, 773, 774, 775, 762, 763, 764, 765] (by decide +kernel) (by decide +kernel)
set_option maxRecDepth 20000 in
theorem gL_law_X4_put : GoodIn wsL_law (wsV RL 18 RX4 yX4_put wsX4_put) := goodIn_app (goodIn_of _ (by decide +kernel)) ggL_law_X4_put
set_option maxRecDepth 20000 in
theorem ggL_law_X5_put : GoodIn wsL_law wsX5_put := goodIn_r _ [275, 159, 74, 276, 277, 278, 279, 5, 280, 281, 282, 283, 284, 285, 286, 287, 288, 289, 290, 77, 291, 292, 160, 161, 162, 293, 294, 295, 296, 297, 298, 299, 300, 301, 302, 303, 304, 305, 306, 307, 171, 172, 173, 174, 308, 309, 310, 311, 312, 313, 314, 315, 316, 317, 318, 319, 320, 321, 322, 323, 324, 325, 326, 327, 328, 329, 330, 331, 332, 333, 334, 335, 336, 337, 338, 339, 340, 341, 342, 343, 179, 180, 181, 182, 76, 344, 345, 346, 347, 183, 184, 185, 186, 187, 75, 746, 747, 748, 749, 750, 751, 752, 753, 754, 755] (by decide +kernel) (by decide +kernel)
set_option maxRecDepth 20000 in
theorem gL_law_X5_put : GoodIn wsL_law (wsV RL 22 RX5 yX5_put wsX5_put) := goodIn_app (goodIn_of _ (by decide +kernel)) ggL_law_X5_put
set_option maxRecDepth 20000 in
theorem ggL_law_X4_remove : GoodIn wsL_law wsX4_remove := goodIn_r _ [351, 15, 82, 20, 193, 352, 353, 354, 14, 355, 35, 132, 133, 134, 19, 135, 54, 53, 136, 137, 138, 139, 51, 52, 140, 141, 142, 143, 36, 37, 93, 94, 95, 96, 30, 33, 144, 145, 146, 32, 147, 45, 109, 110, 111, 112, 43, 124, 125, 126, 127, 44, 148, 149, 150, 151, 356, 357, 358, 359, 742, 743, 744, 745, 756, 757, 758, 759, 760, 761, 762, 763, 764, 765, 773, 774, 775] (by decide +kernel) (by decide +kernel)
set_option maxRecDepth 20000 in
theorem gL_law_X4_remove : GoodIn wsL_law (wsV RL 23 RX4 yX4_remove wsX4_remove) := goodIn_app (goodIn_of _ (by decide +kernel)) ggL_law_X4_remove
set_option maxRecDepth 20000 in
theorem ggL_law_X5_remove : GoodIn wsL_law wsX5_remove := goodIn_r _ [363, 158, 74, 364, 365, 366, 5, 367, 160, 161, 162, 179, 180, 181, 182, 76, 368, 369, 370, 371, 344, 345, 346, 347, 183, 184, 185, 186, 187, 75, 746, 747, 748, 749, 750, 751, 752, 753, 754, 755] (by decide +kernel) (by decide +kernel)
set_option maxRecDepth 20000 in
theorem gL_law_X5_remove : GoodIn wsL_law (wsV RL 27 RX5 yX5_remove wsX5_remove) := goodIn_app (goodIn_of _ (by decide +kernel)) ggL_law_X5_remove
set_option maxRecDepth 20000 in
theorem ggL_law_X4_empty : GoodIn wsL_law wsX4_empty := goodIn_r _ [375, 20, 15, 193, 132, 133, 134, 19, 135, 54, 53, 136, 137, 138, 139, 51, 52, 140, 141, 142, 14, 143, 35, 36, 37, 93, 94, 95, 96, 30, 33, 144, 145, 146, 32, 147, 45, 109, 110, 111, 112, 43, 124, 125, 126, 127, 44, 148, 149, 150, 151, 742, 743, 744, 745, 756, 757, 758, 759, 760, 761, 762, 763, 764, 765, 773, 774, 775] (by decide +kernel) (by decide +kernel)
set_option maxRecDepth 20000 in
theorem gL_law_X4_empty : GoodIn wsL_law (wsV RL 28 RX4 yX4_empty wsX4_empty) := goodIn_app (goodIn_of _ (by decide +kernel)) ggL_law_X4_empty
set_option maxRecDepth 20000 in
theorem ggL_law_X5_empty : GoodIn wsL_law wsX5_empty := goodIn_r _ [379, 74, 179, 180, 181, 5, 182, 76, 183, 184, 185, 186, 187, 75, 746, 747, 748, 749, 750, 751, 752, 753, 754, 755] (by decide +kernel) (by decide +kernel)
set_option maxRecDepth 20000 in
theorem gL_law_X5_empty : GoodIn wsL_law (wsV RL 31 RX5 yX5_empty wsX5_empty) := goodIn_app (goodIn_of _ (by decide +kernel)) ggL_law_X5_empty
set_option maxRecDepth 20000 in
theorem ggL_law_X4_slide : GoodIn wsL_law wsX4_slide := goodIn_r _ [383, 15, 82, 83, 20, 352, 353, 354, 14, 355, 35, 384, 385, 2, 386, 387, 388, 389, 390, 34, 36, 37, 93, 94, 95, 96, 30, 33, 144, 145, 146, 32, 147, 45, 109, 110, 111, 112, 43, 124, 125, 126, 127, 44, 148, 149, 150, 151, 391, 392, 393, 394, 395, 396, 397, 398, 399, 400, 97, 98, 99, 100, 101, 102, 103, 104, 105, 106, 107, 108, 113, 114, 115, 116, 117, 118, 119, 120, 121, 122, 123, 128, 129, 130, 131, 401, 254, 255, 256, 257, 258, 259, 260, 261, 262, 263, 264, 265, 239, 240, 241, 242, 243, 244, 132, 133, 134, 19, 135, 54, 53, 136, 137, 138, 139, 51, 52, 140, 141, 142, 143, 402, 403, 404, 405, 742, 743, 744, 745, 756, 757, 758, 759, 760, 761, 773, 774, 775, 762, 763, 764, 765] (by decide +kernel) (by decide +kernel)
set_option maxRecDepth 20000 in
theorem gL_law_X4_slide : GoodIn wsL_law (wsV RL 32 RX4 yX4_slide wsX4_slide) := goodIn_app (goodIn_of _ (by decide +kernel)) ggL_law_X4_slide
set_option maxRecDepth 20000 in
theorem ggL_law_X5_slide : GoodIn wsL_law wsX5_slide := goodIn_r _ [409, 157, 158, 159, 364, 365, 366, 5, 367, 74, 160, 161, 162, 410, 411, 412, 413, 179, 180, 181, 182, 76, 414, 415, 416, 417, 418, 419, 420, 421, 422, 423, 424, 425, 426, 427, 428, 429, 430, 431, 171, 172, 173, 174, 432, 433, 434, 435, 436, 437, 438, 439, 440, 441, 442, 443, 167, 168, 169, 170, 163, 164, 165, 166, 444, 445, 446, 447, 175, 176, 177, 178, 328, 329, 330, 331, 332, 333, 334, 335, 336, 337, 338, 339, 340, 341, 342, 343, 320, 321, 322, 323, 308, 309, 310, 311, 312, 313, 314, 315, 183, 184, 185, 186, 187, 75, 746, 747, 748, 749, 750, 751, 752, 753, 754, 755] (by decide +kernel) (by decide +kernel)
set_option maxRecDepth 20000 in
theorem gL_law_X5_slide : GoodIn wsL_law (wsV RL 36 RX5 yX5_slide wsX5_slide) := goodIn_app (goodIn_of _ (by decide +kernel)) ggL_law_X5_slide
set_option maxRecDepth 20000 in
theorem ggL_law_X4_turn : GoodIn wsL_law wsX4_turn := goodIn_r _ [451, 15, 82, 83, 20, 352, 353, 354, 14, 355, 35, 452, 453, 454, 455, 34, 36, 37, 93, 94, 95, 96, 30, 33, 144, 145, 146, 32, 147, 45, 109, 110, 111, 112, 43, 124, 125, 126, 127, 44, 148, 149, 150, 151, 456, 457, 458, 459, 101, 102, 103, 104, 105, 106, 107, 108, 120, 121, 122, 123, 128, 129, 130, 131, 117, 118, 119, 97, 98, 99, 100, 113, 114, 115, 116, 401, 254, 255, 256, 257, 258, 259, 260, 261, 262, 263, 264, 265, 239, 240, 241, 242, 243, 2, 244, 132, 133, 134, 19, 135, 54, 53, 136, 137, 138, 139, 51, 52, 140, 141, 142, 143, 460, 461, 462, 463, 742, 743, 744, 745, 756, 757, 758, 759, 760, 761, 773, 774, 775, 762, 763, 764, 765] (by decide +kernel) (by decide +kernel)
set_option maxRecDepth 20000 in
theorem gL_law_X4_turn : GoodIn wsL_law (wsV RL 37 RX4 yX4_turn wsX4_turn) := goodIn_app (goodIn_of _ (by decide +kernel)) ggL_law_X4_turn
set_option maxRecDepth 20000 in
theorem ggL_law_X5_turn : GoodIn wsL_law wsX5_turn := goodIn_r _ [467, 158, 74, 159, 364, 365, 366, 5, 367, 160, 161, 162, 179, 180, 181, 182, 76, 440, 441, 442, 443, 167, 168, 169, 170, 171, 172, 173, 174, 444, 445, 446, 447, 175, 176, 177, 178, 432, 433, 434, 435, 436, 437, 438, 439, 163, 164, 165, 166, 328, 329, 330, 331, 332, 333, 334, 335, 336, 337, 338, 339, 340, 341, 342, 343, 320, 321, 322, 323, 308, 309, 310, 311, 312, 313, 314, 315, 468, 469, 470, 471, 183, 184, 185, 186, 187, 75, 746, 747, 748, 749, 750, 751, 752, 753, 754, 755] (by decide +kernel) (by decide +kernel)
set_option maxRecDepth 20000 in
theorem gL_law_X5_turn : GoodIn wsL_law (wsV RL 40 RX5 yX5_turn wsX5_turn) := goodIn_app (goodIn_of _ (by decide +kernel)) ggL_law_X5_turn
set_option maxRecDepth 20000 in
theorem ggL_law_X4_settle : GoodIn wsL_law wsX4_settle := goodIn_r _ [475, 82, 20, 15, 384, 385, 2, 386, 132, 133, 134, 19, 135, 54, 53, 136, 137, 138, 139, 51, 52, 140, 141, 142, 14, 143, 35, 36, 37, 93, 94, 95, 96, 30, 33, 144, 145, 146, 32, 147, 45, 109, 110, 111, 112, 43, 124, 125, 126, 127, 44, 148, 149, 150, 151, 476, 477, 478, 479, 480, 388, 389, 390, 34, 391, 392, 393, 394, 395, 396, 397, 398, 399, 400, 97, 98, 99, 100, 101, 102, 103, 104, 105, 106, 107, 108, 113, 114, 115, 116, 117, 118, 119, 120, 121, 122, 123, 128, 129, 130, 131, 401, 254, 255, 256, 257, 258, 259, 260, 261, 262, 263, 264, 265, 239, 240, 241, 242, 243, 244, 481, 403, 404, 405, 742, 743, 744, 745, 762, 763, 764, 765, 756, 757, 758, 759, 760, 761, 773, 774, 775] (by decide +kernel) (by decide +kernel)
set_option maxRecDepth 20000 in
theorem gL_law_X4_settle : GoodIn wsL_law (wsV RL 41 RX4 yX4_settle wsX4_settle) := goodIn_app (goodIn_of _ (by decide +kernel)) ggL_law_X4_settle
set_option maxRecDepth 20000 in
theorem ggL_law_X5_settle : GoodIn wsL_law wsX5_settle := goodIn_r _ [485, 158, 410, 411, 5, 412, 413, 160, 161, 162, 179, 180, 181, 182, 76, 74, 486, 487, 488, 489, 414, 415, 416, 417, 418, 419, 420, 421, 422, 423, 424, 425, 426, 427, 428, 429, 430, 431, 171, 172, 173, 174, 432, 433, 434, 435, 436, 437, 438, 439, 440, 441, 442, 443, 167, 168, 169, 170, 163, 164, 165, 166, 444, 445, 446, 447, 175, 176, 177, 178, 328, 329, 330, 331, 332, 333, 334, 335, 336, 337, 338, 339, 340, 341, 342, 343, 320, 321, 322, 323, 308, 309, 310, 311, 312, 313, 314, 315, 183, 184, 185, 186, 187, 75, 746, 747, 748, 749, 750, 751, 752, 753, 754, 755] (by decide +kernel) (by decide +kernel)
set_option maxRecDepth 20000 in
theorem gL_law_X5_settle : GoodIn wsL_law (wsV RL 44 RX5 yX5_settle wsX5_settle) := goodIn_app (goodIn_of _ (by decide +kernel)) ggL_law_X5_settle
set_option maxRecDepth 20000 in
theorem ggL_law_X4_bodyOf : GoodIn wsL_law wsX4_bodyOf := goodIn_r _ [493, 15, 82, 494, 84, 85, 352, 353, 354, 14, 355, 35, 460, 94, 95, 96, 30, 33, 495, 496, 497, 32, 498, 45, 239, 240, 241, 242, 109, 110, 111, 112, 43, 124, 125, 126, 127, 44, 463, 102, 103, 104, 105, 106, 107, 108, 462, 114, 115, 116, 117, 118, 119, 499, 121, 122, 123, 500, 129, 130, 131, 501, 502, 503, 504, 101, 113, 120, 128, 505, 506, 507, 508, 509, 93, 257, 258, 259, 260, 261, 262, 263, 264, 265, 243, 2, 244, 510, 511, 512, 513, 480, 388, 389, 390, 34, 36, 37, 144, 145, 146, 147, 148, 149, 150, 151, 391, 392, 393, 394, 395, 396, 397, 398, 399, 400, 97, 98, 99, 100, 401, 254, 255, 256, 514, 515, 516, 517, 518, 519, 520, 521, 522, 523, 742, 743, 744, 745, 773, 774, 775, 756, 757, 758, 759, 760, 761] (by decide +kernel) (by decide +kernel)
set_option maxRecDepth 20000 in
theorem gL_law_X4_bodyOf : GoodIn wsL_law (wsV RL 45 RX4 yX4_bodyOf wsX4_bodyOf) := goodIn_app (goodIn_of _ (by decide +kernel)) ggL_law_X4_bodyOf
set_option maxRecDepth 20000 in
theorem ggL_law_X5_bodyOf : GoodIn wsL_law wsX5_bodyOf := goodIn_r _ [527, 528, 158, 364, 365, 366, 5, 367, 74, 160, 161, 162, 171, 172, 173, 174, 529, 530, 531, 532, 308, 309, 310, 311, 312, 313, 314, 315, 440, 441, 442, 443, 167, 168, 169, 170, 163, 164, 165, 166, 444, 445, 446, 447, 175, 176, 177, 178, 436, 437, 438, 439, 533, 534, 535, 536, 537, 538, 539, 540, 332, 333, 334, 335, 336, 337, 338, 339, 340, 341, 342, 343, 320, 321, 322, 323, 541, 542, 543, 544, 545, 546, 547, 548, 418, 419, 420, 421, 422, 423, 424, 425, 426, 427, 428, 429, 430, 431, 432, 433, 434, 435, 328, 329, 330, 331, 549, 550, 551, 552, 553, 554, 555, 556, 557, 746, 747, 748, 749, 750, 751, 752, 753, 754, 755] (by decide +kernel) (by decide +kernel)
set_option maxRecDepth 20000 in
theorem gL_law_X5_bodyOf : GoodIn wsL_law (wsV RL 48 RX5 yX5_bodyOf wsX5_bodyOf) := goodIn_app (goodIn_of _ (by decide +kernel)) ggL_law_X5_bodyOf
set_option maxRecDepth 20000 in
theorem ggL_law_X4_parts : GoodIn wsL_law wsX4_parts := goodIn_r _ [561, 15, 82, 352, 353, 354, 14, 355, 35, 460, 94, 95, 96, 30, 33, 562, 563, 564, 32, 565, 45, 261, 262, 263, 264, 265, 117, 118, 107, 119, 239, 240, 241, 242, 109, 110, 111, 112, 43, 124, 125, 126, 127, 44, 243, 2, 244, 566, 567, 568, 569, 570, 742, 743, 744, 745, 756, 757, 758, 759, 760, 761, 773, 774, 775] (by decide +kernel) (by decide +kernel)
set_option maxRecDepth 20000 in
theorem gL_law_X4_parts : GoodIn wsL_law (wsV RL 49 RX4 yX4_parts wsX4_parts) := goodIn_app (goodIn_of _ (by decide +kernel)) ggL_law_X4_parts
set_option maxRecDepth 20000 in
theorem ggL_law_X5_parts : GoodIn wsL_law wsX5_parts := goodIn_r _ [574, 575, 158, 364, 365, 366, 5, 367, 74, 160, 161, 162, 336, 337, 338, 339, 171, 172, 173, 174, 340, 341, 342, 343, 320, 321, 322, 323, 308, 309, 310, 311, 312, 313, 314, 315, 746, 747, 748, 749, 750, 751, 752, 753, 754, 755] (by decide +kernel) (by decide +kernel)
set_option maxRecDepth 20000 in
theorem gL_law_X5_parts : GoodIn wsL_law (wsV RL 52 RX5 yX5_parts wsX5_parts) := goodIn_app (goodIn_of _ (by decide +kernel)) ggL_law_X5_parts
set_option maxRecDepth 20000 in
theorem ggL_law_X4_way : GoodIn wsL_law wsX4_way := goodIn_r _ [579, 15, 82, 84, 85, 352, 353, 354, 14, 355, 35, 384, 385, 2, 386, 387, 388, 389, 390, 34, 36, 37, 93, 94, 95, 96, 30, 33, 144, 145, 146, 32, 147, 45, 109, 110, 111, 112, 43, 124, 125, 126, 127, 44, 148, 149, 150, 151, 391, 392, 393, 394, 395, 396, 397, 398, 399, 400, 97, 98, 99, 100, 101, 102, 103, 104, 105, 106, 107, 108, 113, 114, 115, 116, 117, 118, 119, 120, 121, 122, 123, 128, 129, 130, 131, 401, 254, 255, 256, 257, 258, 259, 260, 261, 262, 263, 264, 265, 239, 240, 241, 242, 243, 244, 580, 581, 582, 583, 584, 585, 742, 743, 744, 745, 756, 757, 758, 759, 760, 761, 773, 774, 775] (by decide +kernel) (by decide +kernel)
set_option maxRecDepth 20000 in
theorem gL_law_X4_way : GoodIn wsL_law (wsV RL 53 RX4 yX4_way wsX4_way) := goodIn_app (goodIn_of _ (by decide +kernel)) ggL_law_X4_way
set_option maxRecDepth 20000 in
theorem ggL_law_X5_way : GoodIn wsL_law wsX5_way := goodIn_r _ [589, 575, 158, 364, 365, 366, 5, 367, 74, 160, 161, 162, 410, 411, 412, 413, 179, 180, 181, 182, 76, 414, 415, 416, 417, 418, 419, 420, 421, 422, 423, 424, 425, 426, 427, 428, 429, 430, 431, 171, 172, 173, 174, 432, 433, 434, 435, 436, 437, 438, 439, 440, 441, 442, 443, 167, 168, 169, 170, 163, 164, 165, 166, 444, 445, 446, 447, 175, 176, 177, 178, 328, 329, 330, 331, 332, 333, 334, 335, 336, 337, 338, 339, 340, 341, 342, 343, 320, 321, 322, 323, 308, 309, 310, 311, 312, 313, 314, 315, 468, 469, 470, 471, 746, 747, 748, 749, 750, 751, 752, 753, 754, 755] (by decide +kernel) (by decide +kernel)
set_option maxRecDepth 20000 in
theorem gL_law_X5_way : GoodIn wsL_law (wsV RL 56 RX5 yX5_way wsX5_way) := goodIn_app (goodIn_of _ (by decide +kernel)) ggL_law_X5_way
set_option maxRecDepth 20000 in
theorem ggL_law_X4_bodies : GoodIn wsL_law wsX4_bodies := goodIn_r _ [593, 15, 82, 514, 515, 516, 14, 517, 35, 480, 388, 389, 390, 34, 36, 37, 93, 94, 95, 96, 30, 33, 144, 145, 146, 32, 147, 45, 109, 110, 111, 112, 43, 124, 125, 126, 127, 44, 148, 149, 150, 151, 391, 2, 392, 393, 394, 395, 396, 397, 398, 399, 400, 97, 98, 99, 100, 101, 102, 103, 104, 105, 106, 107, 108, 113, 114, 115, 116, 117, 118, 119, 120, 121, 122, 123, 128, 129, 130, 131, 401, 254, 255, 256, 257, 258, 259, 260, 261, 262, 263, 264, 265, 239, 240, 241, 242, 243, 244, 594, 595, 596, 597, 598, 506, 507, 508, 509, 599, 600, 601, 602, 603, 502, 503, 504, 604, 605, 606, 607, 266, 267, 742, 743, 744, 745, 756, 757, 758, 759, 760, 761, 773, 774, 775] (by decide +kernel) (by decide +kernel)
set_option maxRecDepth 20000 in
theorem gL_law_X4_bodies : GoodIn wsL_law (wsV RL 57 RX4 yX4_bodies wsX4_bodies) := goodIn_app (goodIn_of _ (by decide +kernel)) ggL_law_X4_bodies
set_option maxRecDepth 20000 in
theorem ggL_law_X5_bodies : GoodIn wsL_law wsX5_bodies := goodIn_r _ [611, 612, 158, 74, 160, 161, 5, 162, 613, 614, 615, 616, 549, 550, 551, 552, 541, 542, 543, 544, 545, 546, 547, 548, 418, 419, 420, 421, 422, 423, 424, 425, 426, 427, 428, 429, 430, 431, 171, 172, 173, 174, 432, 433, 434, 435, 436, 437, 438, 439, 440, 441, 442, 443, 167, 168, 169, 170, 163, 164, 165, 166, 444, 445, 446, 447, 175, 176, 177, 178, 328, 329, 330, 331, 332, 333, 334, 335, 336, 337, 338, 339, 340, 341, 342, 343, 320, 321, 322, 323, 308, 309, 310, 311, 312, 313, 314, 315, 533, 534, 535, 536, 537, 538, 539, 540, 617, 618, 619, 620, 746, 747, 748, 749, 750, 751, 752, 753, 754, 755] (by decide +kernel) (by decide +kernel)
set_option maxRecDepth 20000 in
theorem gL_law_X5_bodies : GoodIn wsL_law (wsV RL 60 RX5 yX5_bodies wsX5_bodies) := goodIn_app (goodIn_of _ (by decide +kernel)) ggL_law_X5_bodies
set_option maxRecDepth 20000 in
theorem ggL_law_X4_group : GoodIn wsL_law wsX4_group := goodIn_r _ [624, 82, 15, 193, 521, 604, 605, 606, 14, 607, 266, 2, 267, 598, 506, 507, 508, 35, 509, 106, 107, 108, 93, 94, 95, 96, 30, 33, 257, 258, 259, 32, 260, 45, 105, 261, 262, 263, 264, 265, 117, 118, 119, 239, 240, 241, 242, 109, 110, 111, 112, 43, 124, 125, 126, 127, 44, 243, 244, 742, 743, 744, 745, 756, 757, 758, 759, 760, 761, 773, 774, 775] (by decide +kernel) (by decide +kernel)
set_option maxRecDepth 20000 in
theorem gL_law_X4_group : GoodIn wsL_law (wsV RL 61 RX4 yX4_group wsX4_group) := goodIn_app (goodIn_of _ (by decide +kernel)) ggL_law_X4_group
set_option maxRecDepth 20000 in
theorem ggL_law_X5_group : GoodIn wsL_law wsX5_group := goodIn_r _ [628, 158, 74, 557, 617, 618, 619, 5, 620, 533, 534, 535, 536, 537, 538, 539, 540, 332, 333, 334, 335, 336, 337, 338, 339, 171, 172, 173, 174, 340, 341, 342, 343, 320, 321, 322, 323, 308, 309, 310, 311, 312, 313, 314, 315, 746, 747, 748, 749, 750, 751, 752, 753, 754, 755] (by decide +kernel) (by decide +kernel)
set_option maxRecDepth 20000 in
theorem gL_law_X5_group : GoodIn wsL_law (wsV RL 64 RX5 yX5_group wsX5_group) := goodIn_app (goodIn_of _ (by decide +kernel)) ggL_law_X5_group
set_option maxRecDepth 20000 in
theorem ggL_law_X4_density : GoodIn wsL_law wsX4_density := goodIn_r _ [632, 15, 84, 85, 633, 634, 635, 14, 636, 35, 93, 94, 95, 96, 30, 33, 637, 496, 497, 32, 498, 45, 239, 240, 241, 242, 109, 110, 111, 112, 43, 124, 125, 126, 127, 44, 638, 639, 2, 640, 641, 742, 743, 744, 745, 756, 757, 758, 759, 760, 761, 773, 774, 775] (by decide +kernel) (by decide +kernel)
set_option maxRecDepth 20000 in
theorem gL_law_X4_density : GoodIn wsL_law (wsV RL 65 RX4 yX4_density wsX4_density) := goodIn_app (goodIn_of _ (by decide +kernel)) ggL_law_X4_density
set_option maxRecDepth 20000 in
theorem ggL_law_X5_density : GoodIn wsL_law wsX5_density := goodIn_r _ [645, 74, 646, 647, 648, 5, 649, 529, 530, 531, 532, 171, 172, 173, 174, 308, 309, 310, 311, 312, 313, 314, 315, 650, 651, 652, 575, 653, 654, 746, 747, 748, 749, 750, 751, 752, 753, 754, 755] (by decide +kernel) (by decide +kernel)
set_option maxRecDepth 20000 in
theorem gL_law_X5_density : GoodIn wsL_law (wsV RL 68 RX5 yX5_density wsX5_density) := goodIn_app (goodIn_of _ (by decide +kernel)) ggL_law_X5_density
set_option maxRecDepth 20000 in
theorem ggL_law_X4_keystone : GoodIn wsL_law wsX4_keystone := goodIn_r _ [658, 82, 521, 15, 193, 16, 384, 385, 2, 386, 659, 141, 142, 14, 143, 35, 36, 37, 93, 94, 95, 96, 30, 33, 144, 145, 146, 32, 147, 45, 109, 110, 111, 112, 43, 124, 125, 126, 127, 44, 148, 149, 150, 151, 356, 357, 358, 359, 476, 477, 478, 479, 480, 388, 389, 390, 34, 391, 392, 393, 394, 395, 396, 397, 398, 399, 400, 97, 98, 99, 100, 101, 102, 103, 104, 105, 106, 107, 108, 113, 114, 115, 116, 117, 118, 119, 120, 121, 122, 123, 128, 129, 130, 131, 401, 254, 255, 256, 257, 258, 259, 260, 261, 262, 263, 264, 265, 239, 240, 241, 242, 243, 244, 481, 403, 404, 405, 742, 743, 744, 745, 756, 757, 758, 759, 760, 761, 773, 774, 775] (by decide +kernel) (by decide +kernel)
set_option maxRecDepth 20000 in
theorem gL_law_X4_keystone : GoodIn wsL_law (wsV RL 69 RX4 yX4_keystone wsX4_keystone) := goodIn_app (goodIn_of _ (by decide +kernel)) ggL_law_X4_keystone
set_option maxRecDepth 20000 in
theorem ggL_law_X5_keystone : GoodIn wsL_law wsX5_keystone := goodIn_r _ [663, 158, 74, 557, 410, 411, 5, 412, 413, 160, 161, 162, 179, 180, 181, 182, 76, 368, 369, 370, 371, 344, 345, 346, 347, 486, 487, 488, 489, 414, 415, 416, 417, 418, 419, 420, 421, 422, 423, 424, 425, 426, 427, 428, 429, 430, 431, 171, 172, 173, 174, 432, 433, 434, 435, 436, 437, 438, 439, 440, 441, 442, 443, 167, 168, 169, 170, 163, 164, 165, 166, 444, 445, 446, 447, 175, 176, 177, 178, 328, 329, 330, 331, 332, 333, 334, 335, 336, 337, 338, 339, 340, 341, 342, 343, 320, 321, 322, 323, 308, 309, 310, 311, 312, 313, 314, 315, 468, 469, 470, 471, 746, 747, 748, 749, 750, 751, 752, 753, 754, 755] (by decide +kernel) (by decide +kernel)
set_option maxRecDepth 20000 in
theorem gL_law_X5_keystone : GoodIn wsL_law (wsV RL 72 RX5 yX5_keystone wsX5_keystone) := goodIn_app (goodIn_of _ (by decide +kernel)) ggL_law_X5_keystone
set_option maxRecDepth 20000 in
theorem ggL_law_X4_count : GoodIn wsL_law wsX4_count := goodIn_r _ [667, 15, 193, 84, 85, 20, 668, 24, 669, 82, 633, 634, 635, 14, 636, 35, 93, 94, 95, 96, 30, 33, 637, 496, 497, 32, 498, 45, 239, 240, 241, 242, 109, 110, 111, 112, 43, 124, 125, 126, 127, 44, 670, 671, 672, 673, 674, 675, 676, 677, 678, 598, 506, 507, 508, 509, 106, 107, 108, 257, 258, 259, 260, 105, 261, 262, 263, 264, 265, 117, 118, 119, 243, 2, 244, 679, 680, 681, 682, 683, 684, 685, 742, 743, 744, 745, 756, 757, 758, 759, 760, 761, 762, 763, 764, 765, 766, 767, 768, 769, 770, 771, 772, 773, 774, 775] (by decide +kernel) (by decide +kernel)
set_option maxRecDepth 20000 in
theorem gL_law_X4_count : GoodIn wsL_law (wsV RL 73 RX4 yX4_count wsX4_count) := goodIn_app (goodIn_of _ (by decide +kernel)) ggL_law_X4_count
set_option maxRecDepth 20000 in
theorem ggL_law_X5_count : GoodIn wsL_law wsX5_count := goodIn_r _ [689, 74, 187, 286, 158, 646, 647, 648, 5, 649, 529, 530, 531, 532, 171, 172, 173, 174, 308, 309, 310, 311, 312, 313, 314, 315, 690, 691, 692, 693, 694, 695, 696, 697, 533, 534, 535, 536, 537, 538, 539, 540, 332, 333, 334, 335, 336, 337, 338, 339, 340, 341, 342, 343, 320, 321, 322, 323, 746, 747, 748, 749, 750, 751, 752, 753, 754, 755] (by decide +kernel) (by decide +kernel)
set_option maxRecDepth 20000 in
theorem gL_law_X5_count : GoodIn wsL_law (wsV RL 76 RX5 yX5_count wsX5_count) := goodIn_app (goodIn_of _ (by decide +kernel)) ggL_law_X5_count
set_option maxRecDepth 20000 in
theorem ggL_law_X4_undo : GoodIn wsL_law wsX4_undo := goodIn_r _ [701, 20, 668, 83, 15, 702, 703, 704, 19, 705, 54, 136, 137, 138, 139, 53, 51, 52, 140, 141, 142, 14, 143, 35, 36, 37, 93, 94, 95, 96, 30, 33, 144, 145, 146, 32, 147, 45, 109, 110, 111, 112, 43, 124, 125, 126, 127, 44, 148, 149, 150, 151, 742, 743, 744, 745, 762, 763, 764, 765, 756, 757, 758, 759, 760, 761, 773, 774, 775] (by decide +kernel) (by decide +kernel)
set_option maxRecDepth 20000 in
theorem gL_law_X4_undo : GoodIn wsL_law (wsV RL 77 RX4 yX4_undo wsX4_undo) := goodIn_app (goodIn_of _ (by decide +kernel)) ggL_law_X4_undo
set_option maxRecDepth 20000 in
theorem ggL_law_X5_undo : GoodIn wsL_law wsX5_undo := goodIn_r _ [709, 187, 159, 74, 75, 746, 747, 748, 749, 750, 751, 752, 753, 754, 755] (by decide +kernel) (by decide +kernel)
set_option maxRecDepth 20000 in
theorem gL_law_X5_undo : GoodIn wsL_law (wsV RL 80 RX5 yX5_undo wsX5_undo) := goodIn_app (goodIn_of _ (by decide +kernel)) ggL_law_X5_undo
set_option maxRecDepth 20000 in
theorem ggL_law_X4_type : GoodIn wsL_law wsX4_type := goodIn_r _ [713, 82, 24, 669, 194, 714, 715, 716, 23, 717, 65, 61, 742, 743, 744, 745, 766, 767, 768, 769, 770, 771, 772] (by decide +kernel) (by decide +kernel)
set_option maxRecDepth 20000 in
theorem gL_law_X4_type : GoodIn wsL_law (wsV RL 81 RX4 yX4_type wsX4_type) := goodIn_app (goodIn_of _ (by decide +kernel)) ggL_law_X4_type
set_option maxRecDepth 20000 in
theorem ggL_law_X5_type : GoodIn wsL_law wsX5_type := goodIn_r _ [721, 722, 723, 158, 286, 276, 77, 160, 161, 5, 162, 746, 747, 748, 749, 750, 751, 752, 753, 754, 755] (by decide +kernel) (by decide +kernel)
set_option maxRecDepth 20000 in
theorem gL_law_X5_type : GoodIn wsL_law (wsV RL 84 RX5 yX5_type wsX5_type) := goodIn_app (goodIn_of _ (by decide +kernel)) ggL_law_X5_type
set_option maxRecDepth 20000 in
theorem ggL_law_X4_clearText : GoodIn wsL_law wsX4_clearText := goodIn_r _ [727, 24, 669, 742, 743, 744, 745, 766, 767, 768, 769, 770, 771, 772] (by decide +kernel) (by decide +kernel)
set_option maxRecDepth 20000 in
theorem gL_law_X4_clearText : GoodIn wsL_law (wsV RL 85 RX4 yX4_clearText wsX4_clearText) := goodIn_app (goodIn_of _ (by decide +kernel)) ggL_law_X4_clearText
set_option maxRecDepth 20000 in
theorem ggL_law_X5_clearText : GoodIn wsL_law wsX5_clearText := goodIn_r _ [731, 286, 746, 747, 748, 749, 750, 751, 752, 753, 754, 755] (by decide +kernel) (by decide +kernel)
set_option maxRecDepth 20000 in
theorem gL_law_X5_clearText : GoodIn wsL_law (wsV RL 88 RX5 yX5_clearText wsX5_clearText) := goodIn_app (goodIn_of _ (by decide +kernel)) ggL_law_X5_clearText
set_option maxRecDepth 20000 in
theorem ggL_law_X4_fault : GoodIn wsL_law wsX4_fault := goodIn_r _ [735, 82, 24, 15, 192, 521, 736, 737, 196, 197, 198, 23, 199, 64, 63, 200, 201, 202, 203, 204, 205, 66, 67, 68, 206, 207, 208, 209, 210, 65, 211, 212, 213, 214, 215, 216, 217, 218, 61, 219, 220, 221, 222, 223, 224, 225, 226, 227, 228, 229, 32, 230, 45, 148, 149, 150, 151, 43, 44, 231, 232, 233, 234, 109, 110, 111, 112, 124, 125, 126, 127, 235, 236, 237, 238, 239, 240, 241, 242, 243, 2, 244, 245, 246, 247, 248, 249, 250, 251, 252, 253, 254, 255, 14, 256, 35, 93, 94, 95, 96, 30, 33, 257, 258, 259, 260, 105, 106, 107, 108, 261, 262, 263, 264, 265, 117, 118, 119, 266, 267, 742, 743, 744, 745, 766, 767, 768, 769, 770, 771, 772, 756, 757, 758, 759, 760, 761, 773, 774, 775] (by decide +kernel) (by decide +kernel)
set_option maxRecDepth 20000 in
theorem gL_law_X4_fault : GoodIn wsL_law (wsV RL 89 RX4 yX4_fault wsX4_fault) := goodIn_app (goodIn_of _ (by decide +kernel)) ggL_law_X4_fault
set_option maxRecDepth 20000 in
theorem ggL_law_X5_fault : GoodIn wsL_law wsX5_fault := goodIn_r _ [741, 575, 158, 557, 301, 302, 303, 160, 161, 5, 162, 277, 278, 279, 280, 281, 282, 283, 284, 285, 74, 286, 287, 288, 289, 290, 77, 291, 292, 293, 294, 295, 296, 297, 298, 299, 300, 304, 305, 306, 307, 171, 172, 173, 174, 308, 309, 310, 311, 312, 313, 314, 315, 316, 317, 318, 319, 320, 321, 322, 323, 324, 325, 326, 327, 328, 329, 330, 331, 332, 333, 334, 335, 336, 337, 338, 339, 340, 341, 342, 343, 746, 747, 748, 749, 750, 751, 752, 753, 754, 755] (by decide +kernel) (by decide +kernel)
set_option maxRecDepth 20000 in
theorem gL_law_X5_fault : GoodIn wsL_law (wsV RL 92 RX5 yX5_fault wsX5_fault) := goodIn_app (goodIn_of _ (by decide +kernel)) ggL_law_X5_fault
theorem dL_law_0 : decode cL_law 0 = .ok (.new 7, 3) := by decide +kernel
theorem dL_law_3 : decode cL_law 3 = .ok (.dup, 1) := by decide +kernel
theorem dL_law_4 : decode cL_law 4 = .ok (.invokespecial 9, 3) := by decide +kernel
theorem dL_law_7 : decode cL_law 7 = .ok (.astore_n 1, 1) := by decide +kernel
theorem dL_law_8 : decode cL_law 8 = .ok (.new 10, 3) := by decide +kernel
theorem dL_law_11 : decode cL_law 11 = .ok (.dup, 1) := by decide +kernel
theorem dL_law_12 : decode cL_law 12 = .ok (.invokespecial 12, 3) := by decide +kernel
theorem dL_law_15 : decode cL_law 15 = .ok (.astore_n 2, 1) := by decide +kernel
theorem dL_law_16 : decode cL_law 16 = .ok (.iconst 0, 1) := by decide +kernel
theorem dL_law_17 : decode cL_law 17 = .ok (.istore_n 3, 1) := by decide +kernel
theorem dL_law_18 : decode cL_law 18 = .ok (.iload_n 3, 1) := by decide +kernel
theorem dL_law_19 : decode cL_law 19 = .ok (.aload_n 0, 1) := by decide +kernel
theorem dL_law_20 : decode cL_law 20 = .ok (.arraylength, 1) := by decide +kernel
theorem dL_law_21 : decode cL_law 21 = .ok (.iconst 4, 1) := by decide +kernel
theorem dL_law_22 : decode cL_law 22 = .ok (.isub, 1) := by decide +kernel
theorem dL_law_23 : decode cL_law 23 = .ok (.if_icmp .gt 584, 3) := by decide +kernel
theorem dL_law_26 : decode cL_law 26 = .ok (.aload_n 0, 1) := by decide +kernel
theorem dL_law_27 : decode cL_law 27 = .ok (.iload_n 3, 1) := by decide +kernel
theorem dL_law_28 : decode cL_law 28 = .ok (.iaload, 1) := by decide +kernel
theorem dL_law_29 : decode cL_law 29 = .ok (.bipush 31, 2) := by decide +kernel
theorem dL_law_31 : decode cL_law 31 = .ok (.iand, 1) := by decide +kernel
theorem dL_law_32 : decode cL_law 32 = .ok (.tableswitch 569 0 18 #[92, 125, 138, 161, 174, 217, 240, 263, 296, 339, 382, 405, 428, 441, 474, 497, 510, 533, 546], 92) := by decide +kernel
theorem dL_law_124 : decode cL_law 124 = .ok (.aload_n 1, 1) := by decide +kernel
theorem dL_law_125 : decode cL_law 125 = .ok (.aload_n 0, 1) := by decide +kernel
theorem dL_law_126 : decode cL_law 126 = .ok (.iload_n 3, 1) := by decide +kernel
theorem dL_law_127 : decode cL_law 127 = .ok (.iconst 1, 1) := by decide +kernel
theorem dL_law_128 : decode cL_law 128 = .ok (.iadd, 1) := by decide +kernel
theorem dL_law_129 : decode cL_law 129 = .ok (.iaload, 1) := by decide +kernel
theorem dL_law_130 : decode cL_law 130 = .ok (.aload_n 0, 1) := by decide +kernel
theorem dL_law_131 : decode cL_law 131 = .ok (.iload_n 3, 1) := by decide +kernel
theorem dL_law_132 : decode cL_law 132 = .ok (.iconst 2, 1) := by decide +kernel
theorem dL_law_133 : decode cL_law 133 = .ok (.iadd, 1) := by decide +kernel
theorem dL_law_134 : decode cL_law 134 = .ok (.iaload, 1) := by decide +kernel
theorem dL_law_135 : decode cL_law 135 = .ok (.invokevirtual 13, 3) := by decide +kernel
theorem dL_law_138 : decode cL_law 138 = .ok (.aload_n 2, 1) := by decide +kernel
theorem dL_law_139 : decode cL_law 139 = .ok (.aload_n 0, 1) := by decide +kernel
theorem dL_law_140 : decode cL_law 140 = .ok (.iload_n 3, 1) := by decide +kernel
theorem dL_law_141 : decode cL_law 141 = .ok (.iconst 1, 1) := by decide +kernel
theorem dL_law_142 : decode cL_law 142 = .ok (.iadd, 1) := by decide +kernel
theorem dL_law_143 : decode cL_law 143 = .ok (.iaload, 1) := by decide +kernel
theorem dL_law_144 : decode cL_law 144 = .ok (.aload_n 0, 1) := by decide +kernel
theorem dL_law_145 : decode cL_law 145 = .ok (.iload_n 3, 1) := by decide +kernel
theorem dL_law_146 : decode cL_law 146 = .ok (.iconst 2, 1) := by decide +kernel
theorem dL_law_147 : decode cL_law 147 = .ok (.iadd, 1) := by decide +kernel
theorem dL_law_148 : decode cL_law 148 = .ok (.iaload, 1) := by decide +kernel
theorem dL_law_149 : decode cL_law 149 = .ok (.invokevirtual 17, 3) := by decide +kernel
theorem dL_law_152 : decode cL_law 152 = .ok (.if_icmp .eq 449, 3) := by decide +kernel
theorem dL_law_155 : decode cL_law 155 = .ok (.iconst 0, 1) := by decide +kernel
theorem dL_law_156 : decode cL_law 156 = .ok (.ireturn, 1) := by decide +kernel
theorem dL_law_157 : decode cL_law 157 = .ok (.aload_n 1, 1) := by decide +kernel
theorem dL_law_158 : decode cL_law 158 = .ok (.invokevirtual 18, 3) := by decide +kernel
theorem dL_law_161 : decode cL_law 161 = .ok (.aload_n 2, 1) := by decide +kernel
theorem dL_law_162 : decode cL_law 162 = .ok (.invokevirtual 22, 3) := by decide +kernel
theorem dL_law_165 : decode cL_law 165 = .ok (.if_icmp .eq 436, 3) := by decide +kernel
theorem dL_law_168 : decode cL_law 168 = .ok (.iconst 0, 1) := by decide +kernel
theorem dL_law_169 : decode cL_law 169 = .ok (.ireturn, 1) := by decide +kernel
theorem dL_law_170 : decode cL_law 170 = .ok (.aload_n 1, 1) := by decide +kernel
theorem dL_law_171 : decode cL_law 171 = .ok (.aload_n 0, 1) := by decide +kernel
theorem dL_law_172 : decode cL_law 172 = .ok (.iload_n 3, 1) := by decide +kernel
theorem dL_law_173 : decode cL_law 173 = .ok (.iconst 1, 1) := by decide +kernel
theorem dL_law_174 : decode cL_law 174 = .ok (.iadd, 1) := by decide +kernel
theorem dL_law_175 : decode cL_law 175 = .ok (.iaload, 1) := by decide +kernel
theorem dL_law_176 : decode cL_law 176 = .ok (.invokevirtual 23, 3) := by decide +kernel
theorem dL_law_179 : decode cL_law 179 = .ok (.aload_n 2, 1) := by decide +kernel
theorem dL_law_180 : decode cL_law 180 = .ok (.aload_n 0, 1) := by decide +kernel
theorem dL_law_181 : decode cL_law 181 = .ok (.iload_n 3, 1) := by decide +kernel
theorem dL_law_182 : decode cL_law 182 = .ok (.iconst 1, 1) := by decide +kernel
theorem dL_law_183 : decode cL_law 183 = .ok (.iadd, 1) := by decide +kernel
theorem dL_law_184 : decode cL_law 184 = .ok (.iaload, 1) := by decide +kernel
theorem dL_law_185 : decode cL_law 185 = .ok (.invokevirtual 27, 3) := by decide +kernel
theorem dL_law_188 : decode cL_law 188 = .ok (.if_icmp .eq 413, 3) := by decide +kernel
theorem dL_law_191 : decode cL_law 191 = .ok (.iconst 0, 1) := by decide +kernel
theorem dL_law_192 : decode cL_law 192 = .ok (.ireturn, 1) := by decide +kernel
theorem dL_law_193 : decode cL_law 193 = .ok (.aload_n 1, 1) := by decide +kernel
theorem dL_law_194 : decode cL_law 194 = .ok (.invokevirtual 28, 3) := by decide +kernel
theorem dL_law_197 : decode cL_law 197 = .ok (.aload_n 2, 1) := by decide +kernel
theorem dL_law_198 : decode cL_law 198 = .ok (.invokevirtual 31, 3) := by decide +kernel
theorem dL_law_201 : decode cL_law 201 = .ok (.if_icmp .eq 400, 3) := by decide +kernel
theorem dL_law_204 : decode cL_law 204 = .ok (.iconst 0, 1) := by decide +kernel
theorem dL_law_205 : decode cL_law 205 = .ok (.ireturn, 1) := by decide +kernel
theorem dL_law_206 : decode cL_law 206 = .ok (.aload_n 1, 1) := by decide +kernel
theorem dL_law_207 : decode cL_law 207 = .ok (.aload_n 0, 1) := by decide +kernel
theorem dL_law_208 : decode cL_law 208 = .ok (.iload_n 3, 1) := by decide +kernel
theorem dL_law_209 : decode cL_law 209 = .ok (.iconst 1, 1) := by decide +kernel
theorem dL_law_210 : decode cL_law 210 = .ok (.iadd, 1) := by decide +kernel
theorem dL_law_211 : decode cL_law 211 = .ok (.iaload, 1) := by decide +kernel
theorem dL_law_212 : decode cL_law 212 = .ok (.aload_n 0, 1) := by decide +kernel
theorem dL_law_213 : decode cL_law 213 = .ok (.iload_n 3, 1) := by decide +kernel
theorem dL_law_214 : decode cL_law 214 = .ok (.iconst 2, 1) := by decide +kernel
theorem dL_law_215 : decode cL_law 215 = .ok (.iadd, 1) := by decide +kernel
theorem dL_law_216 : decode cL_law 216 = .ok (.iaload, 1) := by decide +kernel
theorem dL_law_217 : decode cL_law 217 = .ok (.aload_n 0, 1) := by decide +kernel
theorem dL_law_218 : decode cL_law 218 = .ok (.iload_n 3, 1) := by decide +kernel
theorem dL_law_219 : decode cL_law 219 = .ok (.iconst 3, 1) := by decide +kernel
theorem dL_law_220 : decode cL_law 220 = .ok (.iadd, 1) := by decide +kernel
theorem dL_law_221 : decode cL_law 221 = .ok (.iaload, 1) := by decide +kernel
theorem dL_law_222 : decode cL_law 222 = .ok (.invokevirtual 32, 3) := by decide +kernel
theorem dL_law_225 : decode cL_law 225 = .ok (.aload_n 2, 1) := by decide +kernel
theorem dL_law_226 : decode cL_law 226 = .ok (.aload_n 0, 1) := by decide +kernel
theorem dL_law_227 : decode cL_law 227 = .ok (.iload_n 3, 1) := by decide +kernel
theorem dL_law_228 : decode cL_law 228 = .ok (.iconst 1, 1) := by decide +kernel
theorem dL_law_229 : decode cL_law 229 = .ok (.iadd, 1) := by decide +kernel
theorem dL_law_230 : decode cL_law 230 = .ok (.iaload, 1) := by decide +kernel
theorem dL_law_231 : decode cL_law 231 = .ok (.aload_n 0, 1) := by decide +kernel
theorem dL_law_232 : decode cL_law 232 = .ok (.iload_n 3, 1) := by decide +kernel
theorem dL_law_233 : decode cL_law 233 = .ok (.iconst 2, 1) := by decide +kernel
theorem dL_law_234 : decode cL_law 234 = .ok (.iadd, 1) := by decide +kernel
theorem dL_law_235 : decode cL_law 235 = .ok (.iaload, 1) := by decide +kernel
theorem dL_law_236 : decode cL_law 236 = .ok (.aload_n 0, 1) := by decide +kernel
theorem dL_law_237 : decode cL_law 237 = .ok (.iload_n 3, 1) := by decide +kernel
theorem dL_law_238 : decode cL_law 238 = .ok (.iconst 3, 1) := by decide +kernel
theorem dL_law_239 : decode cL_law 239 = .ok (.iadd, 1) := by decide +kernel
theorem dL_law_240 : decode cL_law 240 = .ok (.iaload, 1) := by decide +kernel
theorem dL_law_241 : decode cL_law 241 = .ok (.invokevirtual 36, 3) := by decide +kernel
theorem dL_law_244 : decode cL_law 244 = .ok (.if_icmp .eq 357, 3) := by decide +kernel
theorem dL_law_247 : decode cL_law 247 = .ok (.iconst 0, 1) := by decide +kernel
theorem dL_law_248 : decode cL_law 248 = .ok (.ireturn, 1) := by decide +kernel
theorem dL_law_249 : decode cL_law 249 = .ok (.aload_n 1, 1) := by decide +kernel
theorem dL_law_250 : decode cL_law 250 = .ok (.aload_n 0, 1) := by decide +kernel
theorem dL_law_251 : decode cL_law 251 = .ok (.iload_n 3, 1) := by decide +kernel
theorem dL_law_252 : decode cL_law 252 = .ok (.iconst 1, 1) := by decide +kernel
theorem dL_law_253 : decode cL_law 253 = .ok (.iadd, 1) := by decide +kernel
theorem dL_law_254 : decode cL_law 254 = .ok (.iaload, 1) := by decide +kernel
theorem dL_law_255 : decode cL_law 255 = .ok (.invokevirtual 37, 3) := by decide +kernel
theorem dL_law_258 : decode cL_law 258 = .ok (.aload_n 2, 1) := by decide +kernel
theorem dL_law_259 : decode cL_law 259 = .ok (.aload_n 0, 1) := by decide +kernel
theorem dL_law_260 : decode cL_law 260 = .ok (.iload_n 3, 1) := by decide +kernel
theorem dL_law_261 : decode cL_law 261 = .ok (.iconst 1, 1) := by decide +kernel
theorem dL_law_262 : decode cL_law 262 = .ok (.iadd, 1) := by decide +kernel
theorem dL_law_263 : decode cL_law 263 = .ok (.iaload, 1) := by decide +kernel
theorem dL_law_264 : decode cL_law 264 = .ok (.invokevirtual 40, 3) := by decide +kernel
theorem dL_law_267 : decode cL_law 267 = .ok (.if_icmp .eq 334, 3) := by decide +kernel
theorem dL_law_270 : decode cL_law 270 = .ok (.iconst 0, 1) := by decide +kernel
theorem dL_law_271 : decode cL_law 271 = .ok (.ireturn, 1) := by decide +kernel
theorem dL_law_272 : decode cL_law 272 = .ok (.aload_n 1, 1) := by decide +kernel
theorem dL_law_273 : decode cL_law 273 = .ok (.aload_n 0, 1) := by decide +kernel
theorem dL_law_274 : decode cL_law 274 = .ok (.iload_n 3, 1) := by decide +kernel
theorem dL_law_275 : decode cL_law 275 = .ok (.iconst 1, 1) := by decide +kernel
end
section
theorem dL_law_276 : decode cL_law 276 = .ok (.iadd, 1) := by decide +kernel
theorem dL_law_277 : decode cL_law 277 = .ok (.iaload, 1) := by decide +kernel
theorem dL_law_278 : decode cL_law 278 = .ok (.invokevirtual 41, 3) := by decide +kernel
theorem dL_law_281 : decode cL_law 281 = .ok (.aload_n 2, 1) := by decide +kernel
theorem dL_law_282 : decode cL_law 282 = .ok (.aload_n 0, 1) := by decide +kernel
theorem dL_law_283 : decode cL_law 283 = .ok (.iload_n 3, 1) := by decide +kernel
theorem dL_law_284 : decode cL_law 284 = .ok (.iconst 1, 1) := by decide +kernel
theorem dL_law_285 : decode cL_law 285 = .ok (.iadd, 1) := by decide +kernel
theorem dL_law_286 : decode cL_law 286 = .ok (.iaload, 1) := by decide +kernel
theorem dL_law_287 : decode cL_law 287 = .ok (.invokevirtual 44, 3) := by decide +kernel
theorem dL_law_290 : decode cL_law 290 = .ok (.if_icmp .eq 311, 3) := by decide +kernel
theorem dL_law_293 : decode cL_law 293 = .ok (.iconst 0, 1) := by decide +kernel
theorem dL_law_294 : decode cL_law 294 = .ok (.ireturn, 1) := by decide +kernel
theorem dL_law_295 : decode cL_law 295 = .ok (.aload_n 1, 1) := by decide +kernel
theorem dL_law_296 : decode cL_law 296 = .ok (.aload_n 0, 1) := by decide +kernel
theorem dL_law_297 : decode cL_law 297 = .ok (.iload_n 3, 1) := by decide +kernel
theorem dL_law_298 : decode cL_law 298 = .ok (.iconst 1, 1) := by decide +kernel
theorem dL_law_299 : decode cL_law 299 = .ok (.iadd, 1) := by decide +kernel
theorem dL_law_300 : decode cL_law 300 = .ok (.iaload, 1) := by decide +kernel
theorem dL_law_301 : decode cL_law 301 = .ok (.aload_n 0, 1) := by decide +kernel
theorem dL_law_302 : decode cL_law 302 = .ok (.iload_n 3, 1) := by decide +kernel
theorem dL_law_303 : decode cL_law 303 = .ok (.iconst 2, 1) := by decide +kernel
theorem dL_law_304 : decode cL_law 304 = .ok (.iadd, 1) := by decide +kernel
theorem dL_law_305 : decode cL_law 305 = .ok (.iaload, 1) := by decide +kernel
theorem dL_law_306 : decode cL_law 306 = .ok (.invokevirtual 45, 3) := by decide +kernel
theorem dL_law_309 : decode cL_law 309 = .ok (.aload_n 2, 1) := by decide +kernel
theorem dL_law_310 : decode cL_law 310 = .ok (.aload_n 0, 1) := by decide +kernel
theorem dL_law_311 : decode cL_law 311 = .ok (.iload_n 3, 1) := by decide +kernel
theorem dL_law_312 : decode cL_law 312 = .ok (.iconst 1, 1) := by decide +kernel
theorem dL_law_313 : decode cL_law 313 = .ok (.iadd, 1) := by decide +kernel
theorem dL_law_314 : decode cL_law 314 = .ok (.iaload, 1) := by decide +kernel
theorem dL_law_315 : decode cL_law 315 = .ok (.aload_n 0, 1) := by decide +kernel
theorem dL_law_316 : decode cL_law 316 = .ok (.iload_n 3, 1) := by decide +kernel
theorem dL_law_317 : decode cL_law 317 = .ok (.iconst 2, 1) := by decide +kernel
theorem dL_law_318 : decode cL_law 318 = .ok (.iadd, 1) := by decide +kernel
theorem dL_law_319 : decode cL_law 319 = .ok (.iaload, 1) := by decide +kernel
theorem dL_law_320 : decode cL_law 320 = .ok (.invokevirtual 48, 3) := by decide +kernel
theorem dL_law_323 : decode cL_law 323 = .ok (.if_icmp .eq 278, 3) := by decide +kernel
theorem dL_law_326 : decode cL_law 326 = .ok (.iconst 0, 1) := by decide +kernel
theorem dL_law_327 : decode cL_law 327 = .ok (.ireturn, 1) := by decide +kernel
theorem dL_law_328 : decode cL_law 328 = .ok (.aload_n 1, 1) := by decide +kernel
theorem dL_law_329 : decode cL_law 329 = .ok (.aload_n 0, 1) := by decide +kernel
theorem dL_law_330 : decode cL_law 330 = .ok (.iload_n 3, 1) := by decide +kernel
theorem dL_law_331 : decode cL_law 331 = .ok (.iconst 1, 1) := by decide +kernel
theorem dL_law_332 : decode cL_law 332 = .ok (.iadd, 1) := by decide +kernel
theorem dL_law_333 : decode cL_law 333 = .ok (.iaload, 1) := by decide +kernel
theorem dL_law_334 : decode cL_law 334 = .ok (.aload_n 0, 1) := by decide +kernel
theorem dL_law_335 : decode cL_law 335 = .ok (.iload_n 3, 1) := by decide +kernel
theorem dL_law_336 : decode cL_law 336 = .ok (.iconst 2, 1) := by decide +kernel
theorem dL_law_337 : decode cL_law 337 = .ok (.iadd, 1) := by decide +kernel
theorem dL_law_338 : decode cL_law 338 = .ok (.iaload, 1) := by decide +kernel
theorem dL_law_339 : decode cL_law 339 = .ok (.aload_n 0, 1) := by decide +kernel
theorem dL_law_340 : decode cL_law 340 = .ok (.iload_n 3, 1) := by decide +kernel
theorem dL_law_341 : decode cL_law 341 = .ok (.iconst 3, 1) := by decide +kernel
theorem dL_law_342 : decode cL_law 342 = .ok (.iadd, 1) := by decide +kernel
theorem dL_law_343 : decode cL_law 343 = .ok (.iaload, 1) := by decide +kernel
theorem dL_law_344 : decode cL_law 344 = .ok (.invokevirtual 49, 3) := by decide +kernel
theorem dL_law_347 : decode cL_law 347 = .ok (.aload_n 2, 1) := by decide +kernel
theorem dL_law_348 : decode cL_law 348 = .ok (.aload_n 0, 1) := by decide +kernel
theorem dL_law_349 : decode cL_law 349 = .ok (.iload_n 3, 1) := by decide +kernel
theorem dL_law_350 : decode cL_law 350 = .ok (.iconst 1, 1) := by decide +kernel
theorem dL_law_351 : decode cL_law 351 = .ok (.iadd, 1) := by decide +kernel
theorem dL_law_352 : decode cL_law 352 = .ok (.iaload, 1) := by decide +kernel
theorem dL_law_353 : decode cL_law 353 = .ok (.aload_n 0, 1) := by decide +kernel
theorem dL_law_354 : decode cL_law 354 = .ok (.iload_n 3, 1) := by decide +kernel
theorem dL_law_355 : decode cL_law 355 = .ok (.iconst 2, 1) := by decide +kernel
theorem dL_law_356 : decode cL_law 356 = .ok (.iadd, 1) := by decide +kernel
theorem dL_law_357 : decode cL_law 357 = .ok (.iaload, 1) := by decide +kernel
theorem dL_law_358 : decode cL_law 358 = .ok (.aload_n 0, 1) := by decide +kernel
theorem dL_law_359 : decode cL_law 359 = .ok (.iload_n 3, 1) := by decide +kernel
theorem dL_law_360 : decode cL_law 360 = .ok (.iconst 3, 1) := by decide +kernel
theorem dL_law_361 : decode cL_law 361 = .ok (.iadd, 1) := by decide +kernel
theorem dL_law_362 : decode cL_law 362 = .ok (.iaload, 1) := by decide +kernel
theorem dL_law_363 : decode cL_law 363 = .ok (.invokevirtual 52, 3) := by decide +kernel
theorem dL_law_366 : decode cL_law 366 = .ok (.if_icmp .eq 235, 3) := by decide +kernel
theorem dL_law_369 : decode cL_law 369 = .ok (.iconst 0, 1) := by decide +kernel
theorem dL_law_370 : decode cL_law 370 = .ok (.ireturn, 1) := by decide +kernel
theorem dL_law_371 : decode cL_law 371 = .ok (.aload_n 1, 1) := by decide +kernel
theorem dL_law_372 : decode cL_law 372 = .ok (.aload_n 0, 1) := by decide +kernel
theorem dL_law_373 : decode cL_law 373 = .ok (.iload_n 3, 1) := by decide +kernel
theorem dL_law_374 : decode cL_law 374 = .ok (.iconst 1, 1) := by decide +kernel
theorem dL_law_375 : decode cL_law 375 = .ok (.iadd, 1) := by decide +kernel
theorem dL_law_376 : decode cL_law 376 = .ok (.iaload, 1) := by decide +kernel
theorem dL_law_377 : decode cL_law 377 = .ok (.aload_n 0, 1) := by decide +kernel
theorem dL_law_378 : decode cL_law 378 = .ok (.iload_n 3, 1) := by decide +kernel
theorem dL_law_379 : decode cL_law 379 = .ok (.iconst 2, 1) := by decide +kernel
theorem dL_law_380 : decode cL_law 380 = .ok (.iadd, 1) := by decide +kernel
theorem dL_law_381 : decode cL_law 381 = .ok (.iaload, 1) := by decide +kernel
theorem dL_law_382 : decode cL_law 382 = .ok (.aload_n 0, 1) := by decide +kernel
theorem dL_law_383 : decode cL_law 383 = .ok (.iload_n 3, 1) := by decide +kernel
theorem dL_law_384 : decode cL_law 384 = .ok (.iconst 3, 1) := by decide +kernel
theorem dL_law_385 : decode cL_law 385 = .ok (.iadd, 1) := by decide +kernel
theorem dL_law_386 : decode cL_law 386 = .ok (.iaload, 1) := by decide +kernel
theorem dL_law_387 : decode cL_law 387 = .ok (.invokevirtual 53, 3) := by decide +kernel
theorem dL_law_390 : decode cL_law 390 = .ok (.aload_n 2, 1) := by decide +kernel
theorem dL_law_391 : decode cL_law 391 = .ok (.aload_n 0, 1) := by decide +kernel
theorem dL_law_392 : decode cL_law 392 = .ok (.iload_n 3, 1) := by decide +kernel
theorem dL_law_393 : decode cL_law 393 = .ok (.iconst 1, 1) := by decide +kernel
theorem dL_law_394 : decode cL_law 394 = .ok (.iadd, 1) := by decide +kernel
theorem dL_law_395 : decode cL_law 395 = .ok (.iaload, 1) := by decide +kernel
theorem dL_law_396 : decode cL_law 396 = .ok (.aload_n 0, 1) := by decide +kernel
theorem dL_law_397 : decode cL_law 397 = .ok (.iload_n 3, 1) := by decide +kernel
theorem dL_law_398 : decode cL_law 398 = .ok (.iconst 2, 1) := by decide +kernel
theorem dL_law_399 : decode cL_law 399 = .ok (.iadd, 1) := by decide +kernel
theorem dL_law_400 : decode cL_law 400 = .ok (.iaload, 1) := by decide +kernel
theorem dL_law_401 : decode cL_law 401 = .ok (.aload_n 0, 1) := by decide +kernel
theorem dL_law_402 : decode cL_law 402 = .ok (.iload_n 3, 1) := by decide +kernel
theorem dL_law_403 : decode cL_law 403 = .ok (.iconst 3, 1) := by decide +kernel
theorem dL_law_404 : decode cL_law 404 = .ok (.iadd, 1) := by decide +kernel
theorem dL_law_405 : decode cL_law 405 = .ok (.iaload, 1) := by decide +kernel
theorem dL_law_406 : decode cL_law 406 = .ok (.invokevirtual 56, 3) := by decide +kernel
theorem dL_law_409 : decode cL_law 409 = .ok (.if_icmp .eq 192, 3) := by decide +kernel
theorem dL_law_412 : decode cL_law 412 = .ok (.iconst 0, 1) := by decide +kernel
theorem dL_law_413 : decode cL_law 413 = .ok (.ireturn, 1) := by decide +kernel
theorem dL_law_414 : decode cL_law 414 = .ok (.aload_n 1, 1) := by decide +kernel
theorem dL_law_415 : decode cL_law 415 = .ok (.aload_n 0, 1) := by decide +kernel
theorem dL_law_416 : decode cL_law 416 = .ok (.iload_n 3, 1) := by decide +kernel
theorem dL_law_417 : decode cL_law 417 = .ok (.iconst 1, 1) := by decide +kernel
theorem dL_law_418 : decode cL_law 418 = .ok (.iadd, 1) := by decide +kernel
theorem dL_law_419 : decode cL_law 419 = .ok (.iaload, 1) := by decide +kernel
theorem dL_law_420 : decode cL_law 420 = .ok (.invokevirtual 57, 3) := by decide +kernel
theorem dL_law_423 : decode cL_law 423 = .ok (.aload_n 2, 1) := by decide +kernel
theorem dL_law_424 : decode cL_law 424 = .ok (.aload_n 0, 1) := by decide +kernel
theorem dL_law_425 : decode cL_law 425 = .ok (.iload_n 3, 1) := by decide +kernel
theorem dL_law_426 : decode cL_law 426 = .ok (.iconst 1, 1) := by decide +kernel
theorem dL_law_427 : decode cL_law 427 = .ok (.iadd, 1) := by decide +kernel
theorem dL_law_428 : decode cL_law 428 = .ok (.iaload, 1) := by decide +kernel
theorem dL_law_429 : decode cL_law 429 = .ok (.invokevirtual 60, 3) := by decide +kernel
theorem dL_law_432 : decode cL_law 432 = .ok (.if_icmp .eq 169, 3) := by decide +kernel
theorem dL_law_435 : decode cL_law 435 = .ok (.iconst 0, 1) := by decide +kernel
theorem dL_law_436 : decode cL_law 436 = .ok (.ireturn, 1) := by decide +kernel
theorem dL_law_437 : decode cL_law 437 = .ok (.aload_n 1, 1) := by decide +kernel
theorem dL_law_438 : decode cL_law 438 = .ok (.aload_n 0, 1) := by decide +kernel
theorem dL_law_439 : decode cL_law 439 = .ok (.iload_n 3, 1) := by decide +kernel
theorem dL_law_440 : decode cL_law 440 = .ok (.iconst 1, 1) := by decide +kernel
theorem dL_law_441 : decode cL_law 441 = .ok (.iadd, 1) := by decide +kernel
theorem dL_law_442 : decode cL_law 442 = .ok (.iaload, 1) := by decide +kernel
theorem dL_law_443 : decode cL_law 443 = .ok (.invokevirtual 61, 3) := by decide +kernel
theorem dL_law_446 : decode cL_law 446 = .ok (.aload_n 2, 1) := by decide +kernel
theorem dL_law_447 : decode cL_law 447 = .ok (.aload_n 0, 1) := by decide +kernel
theorem dL_law_448 : decode cL_law 448 = .ok (.iload_n 3, 1) := by decide +kernel
theorem dL_law_449 : decode cL_law 449 = .ok (.iconst 1, 1) := by decide +kernel
theorem dL_law_450 : decode cL_law 450 = .ok (.iadd, 1) := by decide +kernel
theorem dL_law_451 : decode cL_law 451 = .ok (.iaload, 1) := by decide +kernel
theorem dL_law_452 : decode cL_law 452 = .ok (.invokevirtual 64, 3) := by decide +kernel
theorem dL_law_455 : decode cL_law 455 = .ok (.if_icmp .eq 146, 3) := by decide +kernel
theorem dL_law_458 : decode cL_law 458 = .ok (.iconst 0, 1) := by decide +kernel
theorem dL_law_459 : decode cL_law 459 = .ok (.ireturn, 1) := by decide +kernel
theorem dL_law_460 : decode cL_law 460 = .ok (.aload_n 1, 1) := by decide +kernel
theorem dL_law_461 : decode cL_law 461 = .ok (.invokevirtual 65, 3) := by decide +kernel
theorem dL_law_464 : decode cL_law 464 = .ok (.aload_n 2, 1) := by decide +kernel
theorem dL_law_465 : decode cL_law 465 = .ok (.invokevirtual 68, 3) := by decide +kernel
theorem dL_law_468 : decode cL_law 468 = .ok (.if_icmp .eq 133, 3) := by decide +kernel
theorem dL_law_471 : decode cL_law 471 = .ok (.iconst 0, 1) := by decide +kernel
theorem dL_law_472 : decode cL_law 472 = .ok (.ireturn, 1) := by decide +kernel
theorem dL_law_473 : decode cL_law 473 = .ok (.aload_n 1, 1) := by decide +kernel
theorem dL_law_474 : decode cL_law 474 = .ok (.aload_n 0, 1) := by decide +kernel
theorem dL_law_475 : decode cL_law 475 = .ok (.iload_n 3, 1) := by decide +kernel
theorem dL_law_476 : decode cL_law 476 = .ok (.iconst 1, 1) := by decide +kernel
theorem dL_law_477 : decode cL_law 477 = .ok (.iadd, 1) := by decide +kernel
theorem dL_law_478 : decode cL_law 478 = .ok (.iaload, 1) := by decide +kernel
theorem dL_law_479 : decode cL_law 479 = .ok (.aload_n 0, 1) := by decide +kernel
theorem dL_law_480 : decode cL_law 480 = .ok (.iload_n 3, 1) := by decide +kernel
theorem dL_law_481 : decode cL_law 481 = .ok (.iconst 2, 1) := by decide +kernel
theorem dL_law_482 : decode cL_law 482 = .ok (.iadd, 1) := by decide +kernel
theorem dL_law_483 : decode cL_law 483 = .ok (.iaload, 1) := by decide +kernel
theorem dL_law_484 : decode cL_law 484 = .ok (.invokevirtual 69, 3) := by decide +kernel
theorem dL_law_487 : decode cL_law 487 = .ok (.aload_n 2, 1) := by decide +kernel
theorem dL_law_488 : decode cL_law 488 = .ok (.aload_n 0, 1) := by decide +kernel
theorem dL_law_489 : decode cL_law 489 = .ok (.iload_n 3, 1) := by decide +kernel
theorem dL_law_490 : decode cL_law 490 = .ok (.iconst 1, 1) := by decide +kernel
theorem dL_law_491 : decode cL_law 491 = .ok (.iadd, 1) := by decide +kernel
theorem dL_law_492 : decode cL_law 492 = .ok (.iaload, 1) := by decide +kernel
theorem dL_law_493 : decode cL_law 493 = .ok (.aload_n 0, 1) := by decide +kernel
theorem dL_law_494 : decode cL_law 494 = .ok (.iload_n 3, 1) := by decide +kernel
theorem dL_law_495 : decode cL_law 495 = .ok (.iconst 2, 1) := by decide +kernel
theorem dL_law_496 : decode cL_law 496 = .ok (.iadd, 1) := by decide +kernel
theorem dL_law_497 : decode cL_law 497 = .ok (.iaload, 1) := by decide +kernel
theorem dL_law_498 : decode cL_law 498 = .ok (.invokevirtual 72, 3) := by decide +kernel
theorem dL_law_501 : decode cL_law 501 = .ok (.if_icmp .eq 100, 3) := by decide +kernel
theorem dL_law_504 : decode cL_law 504 = .ok (.iconst 0, 1) := by decide +kernel
theorem dL_law_505 : decode cL_law 505 = .ok (.ireturn, 1) := by decide +kernel
theorem dL_law_506 : decode cL_law 506 = .ok (.aload_n 1, 1) := by decide +kernel
theorem dL_law_507 : decode cL_law 507 = .ok (.aload_n 0, 1) := by decide +kernel
theorem dL_law_508 : decode cL_law 508 = .ok (.iload_n 3, 1) := by decide +kernel
theorem dL_law_509 : decode cL_law 509 = .ok (.iconst 1, 1) := by decide +kernel
theorem dL_law_510 : decode cL_law 510 = .ok (.iadd, 1) := by decide +kernel
theorem dL_law_511 : decode cL_law 511 = .ok (.iaload, 1) := by decide +kernel
theorem dL_law_512 : decode cL_law 512 = .ok (.invokevirtual 73, 3) := by decide +kernel
theorem dL_law_515 : decode cL_law 515 = .ok (.aload_n 2, 1) := by decide +kernel
theorem dL_law_516 : decode cL_law 516 = .ok (.aload_n 0, 1) := by decide +kernel
theorem dL_law_517 : decode cL_law 517 = .ok (.iload_n 3, 1) := by decide +kernel
theorem dL_law_518 : decode cL_law 518 = .ok (.iconst 1, 1) := by decide +kernel
theorem dL_law_519 : decode cL_law 519 = .ok (.iadd, 1) := by decide +kernel
theorem dL_law_520 : decode cL_law 520 = .ok (.iaload, 1) := by decide +kernel
theorem dL_law_521 : decode cL_law 521 = .ok (.invokevirtual 76, 3) := by decide +kernel
theorem dL_law_524 : decode cL_law 524 = .ok (.if_icmp .eq 77, 3) := by decide +kernel
theorem dL_law_527 : decode cL_law 527 = .ok (.iconst 0, 1) := by decide +kernel
theorem dL_law_528 : decode cL_law 528 = .ok (.ireturn, 1) := by decide +kernel
theorem dL_law_529 : decode cL_law 529 = .ok (.aload_n 1, 1) := by decide +kernel
theorem dL_law_530 : decode cL_law 530 = .ok (.invokevirtual 77, 3) := by decide +kernel
theorem dL_law_533 : decode cL_law 533 = .ok (.aload_n 2, 1) := by decide +kernel
theorem dL_law_534 : decode cL_law 534 = .ok (.invokevirtual 80, 3) := by decide +kernel
theorem dL_law_537 : decode cL_law 537 = .ok (.if_icmp .eq 64, 3) := by decide +kernel
theorem dL_law_540 : decode cL_law 540 = .ok (.iconst 0, 1) := by decide +kernel
theorem dL_law_541 : decode cL_law 541 = .ok (.ireturn, 1) := by decide +kernel
theorem dL_law_542 : decode cL_law 542 = .ok (.aload_n 1, 1) := by decide +kernel
theorem dL_law_543 : decode cL_law 543 = .ok (.aload_n 0, 1) := by decide +kernel
theorem dL_law_544 : decode cL_law 544 = .ok (.iload_n 3, 1) := by decide +kernel
theorem dL_law_545 : decode cL_law 545 = .ok (.iconst 1, 1) := by decide +kernel
theorem dL_law_546 : decode cL_law 546 = .ok (.iadd, 1) := by decide +kernel
theorem dL_law_547 : decode cL_law 547 = .ok (.iaload, 1) := by decide +kernel
theorem dL_law_548 : decode cL_law 548 = .ok (.invokevirtual 81, 3) := by decide +kernel
theorem dL_law_551 : decode cL_law 551 = .ok (.aload_n 2, 1) := by decide +kernel
theorem dL_law_552 : decode cL_law 552 = .ok (.aload_n 0, 1) := by decide +kernel
theorem dL_law_553 : decode cL_law 553 = .ok (.iload_n 3, 1) := by decide +kernel
theorem dL_law_554 : decode cL_law 554 = .ok (.iconst 1, 1) := by decide +kernel
theorem dL_law_555 : decode cL_law 555 = .ok (.iadd, 1) := by decide +kernel
theorem dL_law_556 : decode cL_law 556 = .ok (.iaload, 1) := by decide +kernel
theorem dL_law_557 : decode cL_law 557 = .ok (.invokevirtual 84, 3) := by decide +kernel
theorem dL_law_560 : decode cL_law 560 = .ok (.if_icmp .eq 41, 3) := by decide +kernel
theorem dL_law_563 : decode cL_law 563 = .ok (.iconst 0, 1) := by decide +kernel
theorem dL_law_564 : decode cL_law 564 = .ok (.ireturn, 1) := by decide +kernel
theorem dL_law_565 : decode cL_law 565 = .ok (.aload_n 1, 1) := by decide +kernel
theorem dL_law_566 : decode cL_law 566 = .ok (.invokevirtual 85, 3) := by decide +kernel
theorem dL_law_569 : decode cL_law 569 = .ok (.aload_n 2, 1) := by decide +kernel
theorem dL_law_570 : decode cL_law 570 = .ok (.invokevirtual 88, 3) := by decide +kernel
theorem dL_law_573 : decode cL_law 573 = .ok (.if_icmp .eq 28, 3) := by decide +kernel
theorem dL_law_576 : decode cL_law 576 = .ok (.iconst 0, 1) := by decide +kernel
theorem dL_law_577 : decode cL_law 577 = .ok (.ireturn, 1) := by decide +kernel
theorem dL_law_578 : decode cL_law 578 = .ok (.aload_n 1, 1) := by decide +kernel
theorem dL_law_579 : decode cL_law 579 = .ok (.aload_n 0, 1) := by decide +kernel
theorem dL_law_580 : decode cL_law 580 = .ok (.iload_n 3, 1) := by decide +kernel
theorem dL_law_581 : decode cL_law 581 = .ok (.iconst 1, 1) := by decide +kernel
theorem dL_law_582 : decode cL_law 582 = .ok (.iadd, 1) := by decide +kernel
theorem dL_law_583 : decode cL_law 583 = .ok (.iaload, 1) := by decide +kernel
theorem dL_law_584 : decode cL_law 584 = .ok (.invokevirtual 89, 3) := by decide +kernel
theorem dL_law_587 : decode cL_law 587 = .ok (.aload_n 2, 1) := by decide +kernel
theorem dL_law_588 : decode cL_law 588 = .ok (.aload_n 0, 1) := by decide +kernel
theorem dL_law_589 : decode cL_law 589 = .ok (.iload_n 3, 1) := by decide +kernel
theorem dL_law_590 : decode cL_law 590 = .ok (.iconst 1, 1) := by decide +kernel
theorem dL_law_591 : decode cL_law 591 = .ok (.iadd, 1) := by decide +kernel
theorem dL_law_592 : decode cL_law 592 = .ok (.iaload, 1) := by decide +kernel
theorem dL_law_593 : decode cL_law 593 = .ok (.invokevirtual 92, 3) := by decide +kernel
theorem dL_law_596 : decode cL_law 596 = .ok (.if_icmp .eq 5, 3) := by decide +kernel
theorem dL_law_599 : decode cL_law 599 = .ok (.iconst 0, 1) := by decide +kernel
theorem dL_law_600 : decode cL_law 600 = .ok (.ireturn, 1) := by decide +kernel
theorem dL_law_601 : decode cL_law 601 = .ok (.iinc 3 4, 3) := by decide +kernel
theorem dL_law_604 : decode cL_law 604 = .ok (.goto (-586), 3) := by decide +kernel
theorem dL_law_607 : decode cL_law 607 = .ok (.iconst 1, 1) := by decide +kernel
theorem dL_law_608 : decode cL_law 608 = .ok (.ireturn, 1) := by decide +kernel
end
section
theorem zz_last : True := trivial
end
