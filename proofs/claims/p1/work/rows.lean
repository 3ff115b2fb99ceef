section
/-- a private method of a class that the tables say can be made, by its rows of tables_1 -/
def lw_okq (q : MethodName × Nat) : Prop := (q.1.cls ≠ "java/lang/invoke/MethodHandle" ∧ q.1.cls ≠ "java/lang/invoke/VarHandle") ∧ Cond.instantiable q.1.cls q.2 ∈ tables_1 ∧ Cond.privateMethod q.1 ∈ tables_1 ∧ Cond.instanceMethod q.1 ∈ tables_1
theorem lw_p0 : lw_okq (⟨"FallMarket$Text", "addPlainLaw", "(II)V"⟩, 15) := ⟨⟨by decide +kernel, by decide +kernel⟩, List.mem_of_getElem? (i := 29) (by decide +kernel), List.mem_of_getElem? (i := 39) (by decide +kernel), List.mem_of_getElem? (i := 40) (by decide +kernel)⟩
theorem lw_p1 : lw_okq (⟨"FallMarket", "begin", "()V"⟩, 15) := ⟨⟨by decide +kernel, by decide +kernel⟩, List.mem_of_getElem? (i := 21) (by decide +kernel), List.mem_of_getElem? (i := 393) (by decide +kernel), List.mem_of_getElem? (i := 394) (by decide +kernel)⟩
theorem lw_p2 : lw_okq (⟨"FallMarket$Laws", "worked", "(LFallMarket$Text;I)I"⟩, 2) := ⟨⟨by decide +kernel, by decide +kernel⟩, List.mem_of_getElem? (i := 242) (by decide +kernel), List.mem_of_getElem? (i := 419) (by decide +kernel), List.mem_of_getElem? (i := 420) (by decide +kernel)⟩
theorem lw_p3 : lw_okq (⟨"FallMarket", "append", "(I)V"⟩, 15) := ⟨⟨by decide +kernel, by decide +kernel⟩, List.mem_of_getElem? (i := 21) (by decide +kernel), List.mem_of_getElem? (i := 498) (by decide +kernel), List.mem_of_getElem? (i := 499) (by decide +kernel)⟩
theorem lw_p4 : lw_okq (⟨"FallMarket$Tokens", "cutOne", "(I[BII)I"⟩, 4) := ⟨⟨by decide +kernel, by decide +kernel⟩, List.mem_of_getElem? (i := 138) (by decide +kernel), List.mem_of_getElem? (i := 522) (by decide +kernel), List.mem_of_getElem? (i := 523) (by decide +kernel)⟩
theorem lw_p5 : lw_okq (⟨"FallMarket$Tokens", "cutWord", "(I[BII)I"⟩, 4) := ⟨⟨by decide +kernel, by decide +kernel⟩, List.mem_of_getElem? (i := 138) (by decide +kernel), List.mem_of_getElem? (i := 529) (by decide +kernel), List.mem_of_getElem? (i := 530) (by decide +kernel)⟩
theorem lw_p6 : lw_okq (⟨"FallMarket$Tokens", "wordKind", "(J)I"⟩, 4) := ⟨⟨by decide +kernel, by decide +kernel⟩, List.mem_of_getElem? (i := 138) (by decide +kernel), List.mem_of_getElem? (i := 533) (by decide +kernel), List.mem_of_getElem? (i := 534) (by decide +kernel)⟩
theorem lw_p7 : lw_okq (⟨"FallMarket$Tokens", "cutNumber", "(I[BII)I"⟩, 4) := ⟨⟨by decide +kernel, by decide +kernel⟩, List.mem_of_getElem? (i := 138) (by decide +kernel), List.mem_of_getElem? (i := 540) (by decide +kernel), List.mem_of_getElem? (i := 541) (by decide +kernel)⟩
theorem lw_p8 : lw_okq (⟨"FallMarket$Parser", "parseFruit", "()Z"⟩, 10) := ⟨⟨by decide +kernel, by decide +kernel⟩, List.mem_of_getElem? (i := 132) (by decide +kernel), List.mem_of_getElem? (i := 553) (by decide +kernel), List.mem_of_getElem? (i := 554) (by decide +kernel)⟩
theorem lw_p9 : lw_okq (⟨"FallMarket$Parser", "refuse", "(I)Z"⟩, 10) := ⟨⟨by decide +kernel, by decide +kernel⟩, List.mem_of_getElem? (i := 132) (by decide +kernel), List.mem_of_getElem? (i := 557) (by decide +kernel), List.mem_of_getElem? (i := 558) (by decide +kernel)⟩
theorem lw_p10 : lw_okq (⟨"FallMarket$Parser", "take", "(I)Z"⟩, 10) := ⟨⟨by decide +kernel, by decide +kernel⟩, List.mem_of_getElem? (i := 132) (by decide +kernel), List.mem_of_getElem? (i := 561) (by decide +kernel), List.mem_of_getElem? (i := 562) (by decide +kernel)⟩
theorem lw_p11 : lw_okq (⟨"FallMarket$Parser", "takeName", "()Z"⟩, 10) := ⟨⟨by decide +kernel, by decide +kernel⟩, List.mem_of_getElem? (i := 132) (by decide +kernel), List.mem_of_getElem? (i := 565) (by decide +kernel), List.mem_of_getElem? (i := 566) (by decide +kernel)⟩
theorem lw_p12 : lw_okq (⟨"FallMarket$Parser", "markLater", "(I)V"⟩, 10) := ⟨⟨by decide +kernel, by decide +kernel⟩, List.mem_of_getElem? (i := 132) (by decide +kernel), List.mem_of_getElem? (i := 573) (by decide +kernel), List.mem_of_getElem? (i := 574) (by decide +kernel)⟩
theorem lw_p13 : lw_okq (⟨"FallMarket$Parser", "takeNumber", "(III)Z"⟩, 10) := ⟨⟨by decide +kernel, by decide +kernel⟩, List.mem_of_getElem? (i := 132) (by decide +kernel), List.mem_of_getElem? (i := 581) (by decide +kernel), List.mem_of_getElem? (i := 582) (by decide +kernel)⟩
theorem lw_p14 : lw_okq (⟨"FallMarket$Parser", "parseBuyer", "()Z"⟩, 10) := ⟨⟨by decide +kernel, by decide +kernel⟩, List.mem_of_getElem? (i := 132) (by decide +kernel), List.mem_of_getElem? (i := 592) (by decide +kernel), List.mem_of_getElem? (i := 593) (by decide +kernel)⟩
theorem lw_p15 : lw_okq (⟨"FallMarket$Parser", "parseLaw", "(II)Z"⟩, 10) := ⟨⟨by decide +kernel, by decide +kernel⟩, List.mem_of_getElem? (i := 132) (by decide +kernel), List.mem_of_getElem? (i := 600) (by decide +kernel), List.mem_of_getElem? (i := 601) (by decide +kernel)⟩
def lw_privs_1 : List (MethodName × Nat) := [(⟨"FallMarket$Text", "addPlainLaw", "(II)V"⟩, 15), (⟨"FallMarket", "begin", "()V"⟩, 15), (⟨"FallMarket$Laws", "worked", "(LFallMarket$Text;I)I"⟩, 2), (⟨"FallMarket", "append", "(I)V"⟩, 15), (⟨"FallMarket$Tokens", "cutOne", "(I[BII)I"⟩, 4), (⟨"FallMarket$Tokens", "cutWord", "(I[BII)I"⟩, 4), (⟨"FallMarket$Tokens", "wordKind", "(J)I"⟩, 4), (⟨"FallMarket$Tokens", "cutNumber", "(I[BII)I"⟩, 4), (⟨"FallMarket$Parser", "parseFruit", "()Z"⟩, 10), (⟨"FallMarket$Parser", "refuse", "(I)Z"⟩, 10), (⟨"FallMarket$Parser", "take", "(I)Z"⟩, 10), (⟨"FallMarket$Parser", "takeName", "()Z"⟩, 10), (⟨"FallMarket$Parser", "markLater", "(I)V"⟩, 10), (⟨"FallMarket$Parser", "takeNumber", "(III)Z"⟩, 10), (⟨"FallMarket$Parser", "parseBuyer", "()Z"⟩, 10), (⟨"FallMarket$Parser", "parseLaw", "(II)Z"⟩, 10)]
theorem lw_r1 : ∀ q ∈ lw_privs_1, lw_okq q := List.forall_mem_cons.mpr ⟨lw_p0, List.forall_mem_cons.mpr ⟨lw_p1, List.forall_mem_cons.mpr ⟨lw_p2, List.forall_mem_cons.mpr ⟨lw_p3, List.forall_mem_cons.mpr ⟨lw_p4, List.forall_mem_cons.mpr ⟨lw_p5, List.forall_mem_cons.mpr ⟨lw_p6, List.forall_mem_cons.mpr ⟨lw_p7, List.forall_mem_cons.mpr ⟨lw_p8, List.forall_mem_cons.mpr ⟨lw_p9, List.forall_mem_cons.mpr ⟨lw_p10, List.forall_mem_cons.mpr ⟨lw_p11, List.forall_mem_cons.mpr ⟨lw_p12, List.forall_mem_cons.mpr ⟨lw_p13, List.forall_mem_cons.mpr ⟨lw_p14, List.forall_mem_cons.mpr ⟨lw_p15, fun _ h => absurd h List.not_mem_nil⟩⟩⟩⟩⟩⟩⟩⟩⟩⟩⟩⟩⟩⟩⟩⟩
theorem lw_p16 : lw_okq (⟨"FallMarket$Parser", "parseIf", "(I)Z"⟩, 10) := ⟨⟨by decide +kernel, by decide +kernel⟩, List.mem_of_getElem? (i := 132) (by decide +kernel), List.mem_of_getElem? (i := 604) (by decide +kernel), List.mem_of_getElem? (i := 605) (by decide +kernel)⟩
theorem lw_p17 : lw_okq (⟨"FallMarket$Parser", "parseSum", "(II)Z"⟩, 10) := ⟨⟨by decide +kernel, by decide +kernel⟩, List.mem_of_getElem? (i := 132) (by decide +kernel), List.mem_of_getElem? (i := 608) (by decide +kernel), List.mem_of_getElem? (i := 609) (by decide +kernel)⟩
theorem lw_p18 : lw_okq (⟨"FallMarket$Parser", "parseProduct", "(II)Z"⟩, 10) := ⟨⟨by decide +kernel, by decide +kernel⟩, List.mem_of_getElem? (i := 132) (by decide +kernel), List.mem_of_getElem? (i := 612) (by decide +kernel), List.mem_of_getElem? (i := 613) (by decide +kernel)⟩
theorem lw_p19 : lw_okq (⟨"FallMarket$Parser", "parseUnit", "(II)Z"⟩, 10) := ⟨⟨by decide +kernel, by decide +kernel⟩, List.mem_of_getElem? (i := 132) (by decide +kernel), List.mem_of_getElem? (i := 616) (by decide +kernel), List.mem_of_getElem? (i := 617) (by decide +kernel)⟩
theorem lw_p20 : lw_okq (⟨"FallMarket$Parser", "parseSetting", "(I)Z"⟩, 10) := ⟨⟨by decide +kernel, by decide +kernel⟩, List.mem_of_getElem? (i := 132) (by decide +kernel), List.mem_of_getElem? (i := 628) (by decide +kernel), List.mem_of_getElem? (i := 629) (by decide +kernel)⟩
theorem lw_p21 : lw_okq (⟨"FallMarket", "isFruit", "(I)Z"⟩, 15) := ⟨⟨by decide +kernel, by decide +kernel⟩, List.mem_of_getElem? (i := 21) (by decide +kernel), List.mem_of_getElem? (i := 644) (by decide +kernel), List.mem_of_getElem? (i := 645) (by decide +kernel)⟩
theorem lw_p22 : lw_okq (⟨"FallMarket", "isBuyer", "(I)Z"⟩, 15) := ⟨⟨by decide +kernel, by decide +kernel⟩, List.mem_of_getElem? (i := 21) (by decide +kernel), List.mem_of_getElem? (i := 652) (by decide +kernel), List.mem_of_getElem? (i := 653) (by decide +kernel)⟩
theorem lw_p23 : lw_okq (⟨"FallMarket", "boughtBits", "(I)I"⟩, 15) := ⟨⟨by decide +kernel, by decide +kernel⟩, List.mem_of_getElem? (i := 21) (by decide +kernel), List.mem_of_getElem? (i := 656) (by decide +kernel), List.mem_of_getElem? (i := 657) (by decide +kernel)⟩
theorem lw_p24 : lw_okq (⟨"FallMarket", "lookAtNow", "(I)V"⟩, 15) := ⟨⟨by decide +kernel, by decide +kernel⟩, List.mem_of_getElem? (i := 21) (by decide +kernel), List.mem_of_getElem? (i := 664) (by decide +kernel), List.mem_of_getElem? (i := 665) (by decide +kernel)⟩
theorem lw_p25 : lw_okq (⟨"FallMarket$Clock", "sellOrKeep", "(LFallMarket$Text;LFallMarket$Ground;I)V"⟩, 1) := ⟨⟨by decide +kernel, by decide +kernel⟩, List.mem_of_getElem? (i := 257) (by decide +kernel), List.mem_of_getElem? (i := 727) (by decide +kernel), List.mem_of_getElem? (i := 728) (by decide +kernel)⟩
theorem lw_p26 : lw_okq (⟨"FallMarket$Clock", "letFall", "(LFallMarket$Text;LFallMarket$Ground;I)V"⟩, 1) := ⟨⟨by decide +kernel, by decide +kernel⟩, List.mem_of_getElem? (i := 257) (by decide +kernel), List.mem_of_getElem? (i := 742) (by decide +kernel), List.mem_of_getElem? (i := 743) (by decide +kernel)⟩
theorem lw_p27 : lw_okq (⟨"FallMarket$Outlook", "meanWorth", "(I)J"⟩, 4) := ⟨⟨by decide +kernel, by decide +kernel⟩, List.mem_of_getElem? (i := 267) (by decide +kernel), List.mem_of_getElem? (i := 793) (by decide +kernel), List.mem_of_getElem? (i := 794) (by decide +kernel)⟩
theorem lw_p28 : lw_okq (⟨"FallMarket", "catchesAt", "(II)J"⟩, 15) := ⟨⟨by decide +kernel, by decide +kernel⟩, List.mem_of_getElem? (i := 21) (by decide +kernel), List.mem_of_getElem? (i := 798) (by decide +kernel), List.mem_of_getElem? (i := 799) (by decide +kernel)⟩
theorem lw_p29 : lw_okq (⟨"FallMarket", "goAhead", "(I)V"⟩, 15) := ⟨⟨by decide +kernel, by decide +kernel⟩, List.mem_of_getElem? (i := 21) (by decide +kernel), List.mem_of_getElem? (i := 850) (by decide +kernel), List.mem_of_getElem? (i := 851) (by decide +kernel)⟩
theorem lw_p30 : lw_okq (⟨"FallMarket$Told", "isFit", "(LFallMarket$Text;II)Z"⟩, 3) := ⟨⟨by decide +kernel, by decide +kernel⟩, List.mem_of_getElem? (i := 375) (by decide +kernel), List.mem_of_getElem? (i := 902) (by decide +kernel), List.mem_of_getElem? (i := 903) (by decide +kernel)⟩
theorem lw_p31 : lw_okq (⟨"FallMarket$Told", "alikeAhead", "(I)I"⟩, 3) := ⟨⟨by decide +kernel, by decide +kernel⟩, List.mem_of_getElem? (i := 375) (by decide +kernel), List.mem_of_getElem? (i := 906) (by decide +kernel), List.mem_of_getElem? (i := 907) (by decide +kernel)⟩
def lw_privs_2 : List (MethodName × Nat) := [(⟨"FallMarket$Parser", "parseIf", "(I)Z"⟩, 10), (⟨"FallMarket$Parser", "parseSum", "(II)Z"⟩, 10), (⟨"FallMarket$Parser", "parseProduct", "(II)Z"⟩, 10), (⟨"FallMarket$Parser", "parseUnit", "(II)Z"⟩, 10), (⟨"FallMarket$Parser", "parseSetting", "(I)Z"⟩, 10), (⟨"FallMarket", "isFruit", "(I)Z"⟩, 15), (⟨"FallMarket", "isBuyer", "(I)Z"⟩, 15), (⟨"FallMarket", "boughtBits", "(I)I"⟩, 15), (⟨"FallMarket", "lookAtNow", "(I)V"⟩, 15), (⟨"FallMarket$Clock", "sellOrKeep", "(LFallMarket$Text;LFallMarket$Ground;I)V"⟩, 1), (⟨"FallMarket$Clock", "letFall", "(LFallMarket$Text;LFallMarket$Ground;I)V"⟩, 1), (⟨"FallMarket$Outlook", "meanWorth", "(I)J"⟩, 4), (⟨"FallMarket", "catchesAt", "(II)J"⟩, 15), (⟨"FallMarket", "goAhead", "(I)V"⟩, 15), (⟨"FallMarket$Told", "isFit", "(LFallMarket$Text;II)Z"⟩, 3), (⟨"FallMarket$Told", "alikeAhead", "(I)I"⟩, 3)]
theorem lw_r2 : ∀ q ∈ lw_privs_2, lw_okq q := List.forall_mem_cons.mpr ⟨lw_p16, List.forall_mem_cons.mpr ⟨lw_p17, List.forall_mem_cons.mpr ⟨lw_p18, List.forall_mem_cons.mpr ⟨lw_p19, List.forall_mem_cons.mpr ⟨lw_p20, List.forall_mem_cons.mpr ⟨lw_p21, List.forall_mem_cons.mpr ⟨lw_p22, List.forall_mem_cons.mpr ⟨lw_p23, List.forall_mem_cons.mpr ⟨lw_p24, List.forall_mem_cons.mpr ⟨lw_p25, List.forall_mem_cons.mpr ⟨lw_p26, List.forall_mem_cons.mpr ⟨lw_p27, List.forall_mem_cons.mpr ⟨lw_p28, List.forall_mem_cons.mpr ⟨lw_p29, List.forall_mem_cons.mpr ⟨lw_p30, List.forall_mem_cons.mpr ⟨lw_p31, fun _ h => absurd h List.not_mem_nil⟩⟩⟩⟩⟩⟩⟩⟩⟩⟩⟩⟩⟩⟩⟩⟩
theorem lw_p32 : lw_okq (⟨"FallMarket", "heldSlots", "()I"⟩, 15) := ⟨⟨by decide +kernel, by decide +kernel⟩, List.mem_of_getElem? (i := 21) (by decide +kernel), List.mem_of_getElem? (i := 942) (by decide +kernel), List.mem_of_getElem? (i := 943) (by decide +kernel)⟩
theorem lw_p33 : lw_okq (⟨"FallMarket", "allCoins", "()I"⟩, 15) := ⟨⟨by decide +kernel, by decide +kernel⟩, List.mem_of_getElem? (i := 21) (by decide +kernel), List.mem_of_getElem? (i := 946) (by decide +kernel), List.mem_of_getElem? (i := 947) (by decide +kernel)⟩
theorem lw_p34 : lw_okq (⟨"FallMarket", "proppedBits", "()I"⟩, 15) := ⟨⟨by decide +kernel, by decide +kernel⟩, List.mem_of_getElem? (i := 21) (by decide +kernel), List.mem_of_getElem? (i := 950) (by decide +kernel), List.mem_of_getElem? (i := 951) (by decide +kernel)⟩
theorem lw_p35 : lw_okq (⟨"FallMarket", "hangingRipeness", "()I"⟩, 15) := ⟨⟨by decide +kernel, by decide +kernel⟩, List.mem_of_getElem? (i := 21) (by decide +kernel), List.mem_of_getElem? (i := 954) (by decide +kernel), List.mem_of_getElem? (i := 955) (by decide +kernel)⟩
theorem lw_p36 : lw_okq (⟨"FallMarketModel", "plain", "(I)V"⟩, 69) := ⟨⟨by decide +kernel, by decide +kernel⟩, List.mem_of_getElem? (i := 958) (by decide +kernel), List.mem_of_getElem? (i := 964) (by decide +kernel), List.mem_of_getElem? (i := 965) (by decide +kernel)⟩
theorem lw_p37 : lw_okq (⟨"FallMarketModel", "begins", "()V"⟩, 69) := ⟨⟨by decide +kernel, by decide +kernel⟩, List.mem_of_getElem? (i := 958) (by decide +kernel), List.mem_of_getElem? (i := 975) (by decide +kernel), List.mem_of_getElem? (i := 976) (by decide +kernel)⟩
theorem lw_p38 : lw_okq (⟨"FallMarketModel", "keepsRow", "()V"⟩, 69) := ⟨⟨by decide +kernel, by decide +kernel⟩, List.mem_of_getElem? (i := 958) (by decide +kernel), List.mem_of_getElem? (i := 979) (by decide +kernel), List.mem_of_getElem? (i := 980) (by decide +kernel)⟩
theorem lw_p39 : lw_okq (⟨"FallMarketModel", "put", "(I)V"⟩, 69) := ⟨⟨by decide +kernel, by decide +kernel⟩, List.mem_of_getElem? (i := 958) (by decide +kernel), List.mem_of_getElem? (i := 1194) (by decide +kernel), List.mem_of_getElem? (i := 1195) (by decide +kernel)⟩
theorem lw_p40 : lw_okq (⟨"FallMarketModel", "cut", "()V"⟩, 69) := ⟨⟨by decide +kernel, by decide +kernel⟩, List.mem_of_getElem? (i := 958) (by decide +kernel), List.mem_of_getElem? (i := 1206) (by decide +kernel), List.mem_of_getElem? (i := 1207) (by decide +kernel)⟩
theorem lw_p41 : lw_okq (⟨"FallMarketModel", "byteAt", "(I)I"⟩, 69) := ⟨⟨by decide +kernel, by decide +kernel⟩, List.mem_of_getElem? (i := 958) (by decide +kernel), List.mem_of_getElem? (i := 1210) (by decide +kernel), List.mem_of_getElem? (i := 1211) (by decide +kernel)⟩
theorem lw_p42 : lw_okq (⟨"FallMarketModel", "token", "(IIIJ)V"⟩, 69) := ⟨⟨by decide +kernel, by decide +kernel⟩, List.mem_of_getElem? (i := 958) (by decide +kernel), List.mem_of_getElem? (i := 1214) (by decide +kernel), List.mem_of_getElem? (i := 1215) (by decide +kernel)⟩
theorem lw_p43 : lw_okq (⟨"FallMarketModel", "sign", "(III)I"⟩, 69) := ⟨⟨by decide +kernel, by decide +kernel⟩, List.mem_of_getElem? (i := 958) (by decide +kernel), List.mem_of_getElem? (i := 1224) (by decide +kernel), List.mem_of_getElem? (i := 1225) (by decide +kernel)⟩
theorem lw_p44 : lw_okq (⟨"FallMarketModel", "is", "(I)Z"⟩, 69) := ⟨⟨by decide +kernel, by decide +kernel⟩, List.mem_of_getElem? (i := 958) (by decide +kernel), List.mem_of_getElem? (i := 1228) (by decide +kernel), List.mem_of_getElem? (i := 1229) (by decide +kernel)⟩
theorem lw_p45 : lw_okq (⟨"FallMarketModel", "tellOne", "()V"⟩, 69) := ⟨⟨by decide +kernel, by decide +kernel⟩, List.mem_of_getElem? (i := 958) (by decide +kernel), List.mem_of_getElem? (i := 1232) (by decide +kernel), List.mem_of_getElem? (i := 1233) (by decide +kernel)⟩
theorem lw_p46 : lw_okq (⟨"FallMarketModel", "roomFor", "(II)V"⟩, 69) := ⟨⟨by decide +kernel, by decide +kernel⟩, List.mem_of_getElem? (i := 958) (by decide +kernel), List.mem_of_getElem? (i := 1236) (by decide +kernel), List.mem_of_getElem? (i := 1237) (by decide +kernel)⟩
theorem lw_p47 : lw_okq (⟨"FallMarketModel", "fail", "(I)V"⟩, 69) := ⟨⟨by decide +kernel, by decide +kernel⟩, List.mem_of_getElem? (i := 958) (by decide +kernel), List.mem_of_getElem? (i := 1240) (by decide +kernel), List.mem_of_getElem? (i := 1241) (by decide +kernel)⟩
def lw_privs_3 : List (MethodName × Nat) := [(⟨"FallMarket", "heldSlots", "()I"⟩, 15), (⟨"FallMarket", "allCoins", "()I"⟩, 15), (⟨"FallMarket", "proppedBits", "()I"⟩, 15), (⟨"FallMarket", "hangingRipeness", "()I"⟩, 15), (⟨"FallMarketModel", "plain", "(I)V"⟩, 69), (⟨"FallMarketModel", "begins", "()V"⟩, 69), (⟨"FallMarketModel", "keepsRow", "()V"⟩, 69), (⟨"FallMarketModel", "put", "(I)V"⟩, 69), (⟨"FallMarketModel", "cut", "()V"⟩, 69), (⟨"FallMarketModel", "byteAt", "(I)I"⟩, 69), (⟨"FallMarketModel", "token", "(IIIJ)V"⟩, 69), (⟨"FallMarketModel", "sign", "(III)I"⟩, 69), (⟨"FallMarketModel", "is", "(I)Z"⟩, 69), (⟨"FallMarketModel", "tellOne", "()V"⟩, 69), (⟨"FallMarketModel", "roomFor", "(II)V"⟩, 69), (⟨"FallMarketModel", "fail", "(I)V"⟩, 69)]
theorem lw_r3 : ∀ q ∈ lw_privs_3, lw_okq q := List.forall_mem_cons.mpr ⟨lw_p32, List.forall_mem_cons.mpr ⟨lw_p33, List.forall_mem_cons.mpr ⟨lw_p34, List.forall_mem_cons.mpr ⟨lw_p35, List.forall_mem_cons.mpr ⟨lw_p36, List.forall_mem_cons.mpr ⟨lw_p37, List.forall_mem_cons.mpr ⟨lw_p38, List.forall_mem_cons.mpr ⟨lw_p39, List.forall_mem_cons.mpr ⟨lw_p40, List.forall_mem_cons.mpr ⟨lw_p41, List.forall_mem_cons.mpr ⟨lw_p42, List.forall_mem_cons.mpr ⟨lw_p43, List.forall_mem_cons.mpr ⟨lw_p44, List.forall_mem_cons.mpr ⟨lw_p45, List.forall_mem_cons.mpr ⟨lw_p46, List.forall_mem_cons.mpr ⟨lw_p47, fun _ h => absurd h List.not_mem_nil⟩⟩⟩⟩⟩⟩⟩⟩⟩⟩⟩⟩⟩⟩⟩⟩
theorem lw_p48 : lw_okq (⟨"FallMarketModel", "goesOn", "()V"⟩, 69) := ⟨⟨by decide +kernel, by decide +kernel⟩, List.mem_of_getElem? (i := 958) (by decide +kernel), List.mem_of_getElem? (i := 1244) (by decide +kernel), List.mem_of_getElem? (i := 1245) (by decide +kernel)⟩
theorem lw_p49 : lw_okq (⟨"FallMarketModel", "tellFruit", "()V"⟩, 69) := ⟨⟨by decide +kernel, by decide +kernel⟩, List.mem_of_getElem? (i := 958) (by decide +kernel), List.mem_of_getElem? (i := 1248) (by decide +kernel), List.mem_of_getElem? (i := 1249) (by decide +kernel)⟩
theorem lw_p50 : lw_okq (⟨"FallMarketModel", "named", "()I"⟩, 69) := ⟨⟨by decide +kernel, by decide +kernel⟩, List.mem_of_getElem? (i := 958) (by decide +kernel), List.mem_of_getElem? (i := 1252) (by decide +kernel), List.mem_of_getElem? (i := 1253) (by decide +kernel)⟩
theorem lw_p51 : lw_okq (⟨"FallMarketModel", "must", "(I)V"⟩, 69) := ⟨⟨by decide +kernel, by decide +kernel⟩, List.mem_of_getElem? (i := 958) (by decide +kernel), List.mem_of_getElem? (i := 1256) (by decide +kernel), List.mem_of_getElem? (i := 1257) (by decide +kernel)⟩
theorem lw_p52 : lw_okq (⟨"FallMarketModel", "wrong", "(II)V"⟩, 69) := ⟨⟨by decide +kernel, by decide +kernel⟩, List.mem_of_getElem? (i := 958) (by decide +kernel), List.mem_of_getElem? (i := 1260) (by decide +kernel), List.mem_of_getElem? (i := 1261) (by decide +kernel)⟩
theorem lw_p53 : lw_okq (⟨"FallMarketModel", "bounded", "(II)I"⟩, 69) := ⟨⟨by decide +kernel, by decide +kernel⟩, List.mem_of_getElem? (i := 958) (by decide +kernel), List.mem_of_getElem? (i := 1264) (by decide +kernel), List.mem_of_getElem? (i := 1265) (by decide +kernel)⟩
theorem lw_p54 : lw_okq (⟨"FallMarketModel", "ends", "(I)V"⟩, 69) := ⟨⟨by decide +kernel, by decide +kernel⟩, List.mem_of_getElem? (i := 958) (by decide +kernel), List.mem_of_getElem? (i := 1268) (by decide +kernel), List.mem_of_getElem? (i := 1269) (by decide +kernel)⟩
theorem lw_p55 : lw_okq (⟨"FallMarketModel", "tellBuyer", "()V"⟩, 69) := ⟨⟨by decide +kernel, by decide +kernel⟩, List.mem_of_getElem? (i := 958) (by decide +kernel), List.mem_of_getElem? (i := 1272) (by decide +kernel), List.mem_of_getElem? (i := 1273) (by decide +kernel)⟩
theorem lw_p56 : lw_okq (⟨"FallMarketModel", "toldInt", "(II)I"⟩, 69) := ⟨⟨by decide +kernel, by decide +kernel⟩, List.mem_of_getElem? (i := 958) (by decide +kernel), List.mem_of_getElem? (i := 1276) (by decide +kernel), List.mem_of_getElem? (i := 1277) (by decide +kernel)⟩
theorem lw_p57 : lw_okq (⟨"FallMarketModel", "tellLaw", "(I)V"⟩, 69) := ⟨⟨by decide +kernel, by decide +kernel⟩, List.mem_of_getElem? (i := 958) (by decide +kernel), List.mem_of_getElem? (i := 1280) (by decide +kernel), List.mem_of_getElem? (i := 1281) (by decide +kernel)⟩
theorem lw_p58 : lw_okq (⟨"FallMarketModel", "expression", "()V"⟩, 69) := ⟨⟨by decide +kernel, by decide +kernel⟩, List.mem_of_getElem? (i := 958) (by decide +kernel), List.mem_of_getElem? (i := 1284) (by decide +kernel), List.mem_of_getElem? (i := 1285) (by decide +kernel)⟩
theorem lw_p59 : lw_okq (⟨"FallMarketModel", "unit", "()V"⟩, 69) := ⟨⟨by decide +kernel, by decide +kernel⟩, List.mem_of_getElem? (i := 958) (by decide +kernel), List.mem_of_getElem? (i := 1288) (by decide +kernel), List.mem_of_getElem? (i := 1289) (by decide +kernel)⟩
theorem lw_p60 : lw_okq (⟨"FallMarketModel", "emit", "(II)V"⟩, 69) := ⟨⟨by decide +kernel, by decide +kernel⟩, List.mem_of_getElem? (i := 958) (by decide +kernel), List.mem_of_getElem? (i := 1292) (by decide +kernel), List.mem_of_getElem? (i := 1293) (by decide +kernel)⟩
theorem lw_p61 : lw_okq (⟨"FallMarketModel", "comesOut", "(Z)V"⟩, 69) := ⟨⟨by decide +kernel, by decide +kernel⟩, List.mem_of_getElem? (i := 958) (by decide +kernel), List.mem_of_getElem? (i := 1296) (by decide +kernel), List.mem_of_getElem? (i := 1297) (by decide +kernel)⟩
theorem lw_p62 : lw_okq (⟨"FallMarketModel", "term", "()V"⟩, 69) := ⟨⟨by decide +kernel, by decide +kernel⟩, List.mem_of_getElem? (i := 958) (by decide +kernel), List.mem_of_getElem? (i := 1300) (by decide +kernel), List.mem_of_getElem? (i := 1301) (by decide +kernel)⟩
theorem lw_p63 : lw_okq (⟨"FallMarketModel", "isFruit", "(I)Z"⟩, 69) := ⟨⟨by decide +kernel, by decide +kernel⟩, List.mem_of_getElem? (i := 958) (by decide +kernel), List.mem_of_getElem? (i := 1312) (by decide +kernel), List.mem_of_getElem? (i := 1313) (by decide +kernel)⟩
def lw_privs_4 : List (MethodName × Nat) := [(⟨"FallMarketModel", "goesOn", "()V"⟩, 69), (⟨"FallMarketModel", "tellFruit", "()V"⟩, 69), (⟨"FallMarketModel", "named", "()I"⟩, 69), (⟨"FallMarketModel", "must", "(I)V"⟩, 69), (⟨"FallMarketModel", "wrong", "(II)V"⟩, 69), (⟨"FallMarketModel", "bounded", "(II)I"⟩, 69), (⟨"FallMarketModel", "ends", "(I)V"⟩, 69), (⟨"FallMarketModel", "tellBuyer", "()V"⟩, 69), (⟨"FallMarketModel", "toldInt", "(II)I"⟩, 69), (⟨"FallMarketModel", "tellLaw", "(I)V"⟩, 69), (⟨"FallMarketModel", "expression", "()V"⟩, 69), (⟨"FallMarketModel", "unit", "()V"⟩, 69), (⟨"FallMarketModel", "emit", "(II)V"⟩, 69), (⟨"FallMarketModel", "comesOut", "(Z)V"⟩, 69), (⟨"FallMarketModel", "term", "()V"⟩, 69), (⟨"FallMarketModel", "isFruit", "(I)Z"⟩, 69)]
theorem lw_r4 : ∀ q ∈ lw_privs_4, lw_okq q := List.forall_mem_cons.mpr ⟨lw_p48, List.forall_mem_cons.mpr ⟨lw_p49, List.forall_mem_cons.mpr ⟨lw_p50, List.forall_mem_cons.mpr ⟨lw_p51, List.forall_mem_cons.mpr ⟨lw_p52, List.forall_mem_cons.mpr ⟨lw_p53, List.forall_mem_cons.mpr ⟨lw_p54, List.forall_mem_cons.mpr ⟨lw_p55, List.forall_mem_cons.mpr ⟨lw_p56, List.forall_mem_cons.mpr ⟨lw_p57, List.forall_mem_cons.mpr ⟨lw_p58, List.forall_mem_cons.mpr ⟨lw_p59, List.forall_mem_cons.mpr ⟨lw_p60, List.forall_mem_cons.mpr ⟨lw_p61, List.forall_mem_cons.mpr ⟨lw_p62, List.forall_mem_cons.mpr ⟨lw_p63, fun _ h => absurd h List.not_mem_nil⟩⟩⟩⟩⟩⟩⟩⟩⟩⟩⟩⟩⟩⟩⟩⟩
theorem lw_p64 : lw_okq (⟨"FallMarketModel", "isBuyer", "(I)Z"⟩, 69) := ⟨⟨by decide +kernel, by decide +kernel⟩, List.mem_of_getElem? (i := 958) (by decide +kernel), List.mem_of_getElem? (i := 1323) (by decide +kernel), List.mem_of_getElem? (i := 1324) (by decide +kernel)⟩
theorem lw_p65 : lw_okq (⟨"FallMarketModel", "copies", "()V"⟩, 69) := ⟨⟨by decide +kernel, by decide +kernel⟩, List.mem_of_getElem? (i := 958) (by decide +kernel), List.mem_of_getElem? (i := 1331) (by decide +kernel), List.mem_of_getElem? (i := 1332) (by decide +kernel)⟩
theorem lw_p66 : lw_okq (⟨"FallMarketModel", "blowsNow", "()I"⟩, 69) := ⟨⟨by decide +kernel, by decide +kernel⟩, List.mem_of_getElem? (i := 958) (by decide +kernel), List.mem_of_getElem? (i := 1335) (by decide +kernel), List.mem_of_getElem? (i := 1336) (by decide +kernel)⟩
theorem lw_p67 : lw_okq (⟨"FallMarketModel", "leftNow", "()I"⟩, 69) := ⟨⟨by decide +kernel, by decide +kernel⟩, List.mem_of_getElem? (i := 958) (by decide +kernel), List.mem_of_getElem? (i := 1339) (by decide +kernel), List.mem_of_getElem? (i := 1340) (by decide +kernel)⟩
theorem lw_p68 : lw_okq (⟨"FallMarketModel", "bitsOf", "(I)I"⟩, 69) := ⟨⟨by decide +kernel, by decide +kernel⟩, List.mem_of_getElem? (i := 958) (by decide +kernel), List.mem_of_getElem? (i := 1343) (by decide +kernel), List.mem_of_getElem? (i := 1344) (by decide +kernel)⟩
theorem lw_p69 : lw_okq (⟨"FallMarketModel", "windBy", "(II)I"⟩, 69) := ⟨⟨by decide +kernel, by decide +kernel⟩, List.mem_of_getElem? (i := 958) (by decide +kernel), List.mem_of_getElem? (i := 1350) (by decide +kernel), List.mem_of_getElem? (i := 1351) (by decide +kernel)⟩
theorem lw_p70 : lw_okq (⟨"FallMarketModel", "looks", "(II)V"⟩, 69) := ⟨⟨by decide +kernel, by decide +kernel⟩, List.mem_of_getElem? (i := 958) (by decide +kernel), List.mem_of_getElem? (i := 1354) (by decide +kernel), List.mem_of_getElem? (i := 1355) (by decide +kernel)⟩
theorem lw_p71 : lw_okq (⟨"FallMarketModel", "asks", "(IIII)I"⟩, 69) := ⟨⟨by decide +kernel, by decide +kernel⟩, List.mem_of_getElem? (i := 958) (by decide +kernel), List.mem_of_getElem? (i := 1358) (by decide +kernel), List.mem_of_getElem? (i := 1359) (by decide +kernel)⟩
theorem lw_p72 : lw_okq (⟨"FallMarketModel", "lawTells", "(I)I"⟩, 69) := ⟨⟨by decide +kernel, by decide +kernel⟩, List.mem_of_getElem? (i := 958) (by decide +kernel), List.mem_of_getElem? (i := 1362) (by decide +kernel), List.mem_of_getElem? (i := 1363) (by decide +kernel)⟩
theorem lw_p73 : lw_okq (⟨"FallMarketModel", "termOf", "(II)I"⟩, 69) := ⟨⟨by decide +kernel, by decide +kernel⟩, List.mem_of_getElem? (i := 958) (by decide +kernel), List.mem_of_getElem? (i := 1366) (by decide +kernel), List.mem_of_getElem? (i := 1367) (by decide +kernel)⟩
theorem lw_p74 : lw_okq (⟨"FallMarketModel", "tellsOf", "(IIII)I"⟩, 69) := ⟨⟨by decide +kernel, by decide +kernel⟩, List.mem_of_getElem? (i := 958) (by decide +kernel), List.mem_of_getElem? (i := 1373) (by decide +kernel), List.mem_of_getElem? (i := 1374) (by decide +kernel)⟩
theorem lw_p75 : lw_okq (⟨"FallMarketModel", "hangsBy", "(IIIIIIII)I"⟩, 69) := ⟨⟨by decide +kernel, by decide +kernel⟩, List.mem_of_getElem? (i := 958) (by decide +kernel), List.mem_of_getElem? (i := 1377) (by decide +kernel), List.mem_of_getElem? (i := 1378) (by decide +kernel)⟩
theorem lw_p76 : lw_okq (⟨"FallMarketModel", "looksAt", "(IIII)V"⟩, 69) := ⟨⟨by decide +kernel, by decide +kernel⟩, List.mem_of_getElem? (i := 958) (by decide +kernel), List.mem_of_getElem? (i := 1381) (by decide +kernel), List.mem_of_getElem? (i := 1382) (by decide +kernel)⟩
theorem lw_p77 : lw_okq (⟨"FallMarketModel", "worthBy", "(IIIII)I"⟩, 69) := ⟨⟨by decide +kernel, by decide +kernel⟩, List.mem_of_getElem? (i := 958) (by decide +kernel), List.mem_of_getElem? (i := 1385) (by decide +kernel), List.mem_of_getElem? (i := 1386) (by decide +kernel)⟩
theorem lw_p78 : lw_okq (⟨"FallMarketModel", "bouncesBy", "(IIII)I"⟩, 69) := ⟨⟨by decide +kernel, by decide +kernel⟩, List.mem_of_getElem? (i := 958) (by decide +kernel), List.mem_of_getElem? (i := 1389) (by decide +kernel), List.mem_of_getElem? (i := 1390) (by decide +kernel)⟩
theorem lw_p79 : lw_okq (⟨"FallMarketModel", "records", "()V"⟩, 69) := ⟨⟨by decide +kernel, by decide +kernel⟩, List.mem_of_getElem? (i := 958) (by decide +kernel), List.mem_of_getElem? (i := 1397) (by decide +kernel), List.mem_of_getElem? (i := 1398) (by decide +kernel)⟩
def lw_privs_5 : List (MethodName × Nat) := [(⟨"FallMarketModel", "isBuyer", "(I)Z"⟩, 69), (⟨"FallMarketModel", "copies", "()V"⟩, 69), (⟨"FallMarketModel", "blowsNow", "()I"⟩, 69), (⟨"FallMarketModel", "leftNow", "()I"⟩, 69), (⟨"FallMarketModel", "bitsOf", "(I)I"⟩, 69), (⟨"FallMarketModel", "windBy", "(II)I"⟩, 69), (⟨"FallMarketModel", "looks", "(II)V"⟩, 69), (⟨"FallMarketModel", "asks", "(IIII)I"⟩, 69), (⟨"FallMarketModel", "lawTells", "(I)I"⟩, 69), (⟨"FallMarketModel", "termOf", "(II)I"⟩, 69), (⟨"FallMarketModel", "tellsOf", "(IIII)I"⟩, 69), (⟨"FallMarketModel", "hangsBy", "(IIIIIIII)I"⟩, 69), (⟨"FallMarketModel", "looksAt", "(IIII)V"⟩, 69), (⟨"FallMarketModel", "worthBy", "(IIIII)I"⟩, 69), (⟨"FallMarketModel", "bouncesBy", "(IIII)I"⟩, 69), (⟨"FallMarketModel", "records", "()V"⟩, 69)]
theorem lw_r5 : ∀ q ∈ lw_privs_5, lw_okq q := List.forall_mem_cons.mpr ⟨lw_p64, List.forall_mem_cons.mpr ⟨lw_p65, List.forall_mem_cons.mpr ⟨lw_p66, List.forall_mem_cons.mpr ⟨lw_p67, List.forall_mem_cons.mpr ⟨lw_p68, List.forall_mem_cons.mpr ⟨lw_p69, List.forall_mem_cons.mpr ⟨lw_p70, List.forall_mem_cons.mpr ⟨lw_p71, List.forall_mem_cons.mpr ⟨lw_p72, List.forall_mem_cons.mpr ⟨lw_p73, List.forall_mem_cons.mpr ⟨lw_p74, List.forall_mem_cons.mpr ⟨lw_p75, List.forall_mem_cons.mpr ⟨lw_p76, List.forall_mem_cons.mpr ⟨lw_p77, List.forall_mem_cons.mpr ⟨lw_p78, List.forall_mem_cons.mpr ⟨lw_p79, fun _ h => absurd h List.not_mem_nil⟩⟩⟩⟩⟩⟩⟩⟩⟩⟩⟩⟩⟩⟩⟩⟩
theorem lw_p80 : lw_okq (⟨"FallMarketModel", "lotOf", "(I)I"⟩, 69) := ⟨⟨by decide +kernel, by decide +kernel⟩, List.mem_of_getElem? (i := 958) (by decide +kernel), List.mem_of_getElem? (i := 1410) (by decide +kernel), List.mem_of_getElem? (i := 1411) (by decide +kernel)⟩
theorem lw_p81 : lw_okq (⟨"FallMarketModel", "goes", "(I)V"⟩, 69) := ⟨⟨by decide +kernel, by decide +kernel⟩, List.mem_of_getElem? (i := 958) (by decide +kernel), List.mem_of_getElem? (i := 1422) (by decide +kernel), List.mem_of_getElem? (i := 1423) (by decide +kernel)⟩
theorem lw_p82 : lw_okq (⟨"FallMarketModel", "hourGoes", "()V"⟩, 69) := ⟨⟨by decide +kernel, by decide +kernel⟩, List.mem_of_getElem? (i := 958) (by decide +kernel), List.mem_of_getElem? (i := 1426) (by decide +kernel), List.mem_of_getElem? (i := 1427) (by decide +kernel)⟩
theorem lw_p83 : lw_okq (⟨"FallMarketModel", "looksOn", "()V"⟩, 69) := ⟨⟨by decide +kernel, by decide +kernel⟩, List.mem_of_getElem? (i := 958) (by decide +kernel), List.mem_of_getElem? (i := 1430) (by decide +kernel), List.mem_of_getElem? (i := 1431) (by decide +kernel)⟩
theorem lw_p84 : lw_okq (⟨"FallMarketModel", "lies", "(I)V"⟩, 69) := ⟨⟨by decide +kernel, by decide +kernel⟩, List.mem_of_getElem? (i := 958) (by decide +kernel), List.mem_of_getElem? (i := 1434) (by decide +kernel), List.mem_of_getElem? (i := 1435) (by decide +kernel)⟩
theorem lw_p85 : lw_okq (⟨"FallMarketModel", "sells", "(III)V"⟩, 69) := ⟨⟨by decide +kernel, by decide +kernel⟩, List.mem_of_getElem? (i := 958) (by decide +kernel), List.mem_of_getElem? (i := 1438) (by decide +kernel), List.mem_of_getElem? (i := 1439) (by decide +kernel)⟩
theorem lw_p86 : lw_okq (⟨"FallMarketModel", "falls", "(I)V"⟩, 69) := ⟨⟨by decide +kernel, by decide +kernel⟩, List.mem_of_getElem? (i := 958) (by decide +kernel), List.mem_of_getElem? (i := 1442) (by decide +kernel), List.mem_of_getElem? (i := 1443) (by decide +kernel)⟩
theorem lw_p87 : lw_okq (⟨"FallMarketModel", "catcherOf", "(II)I"⟩, 69) := ⟨⟨by decide +kernel, by decide +kernel⟩, List.mem_of_getElem? (i := 958) (by decide +kernel), List.mem_of_getElem? (i := 1446) (by decide +kernel), List.mem_of_getElem? (i := 1447) (by decide +kernel)⟩
theorem lw_p88 : lw_okq (⟨"FallMarketModel", "fillsOdds", "(III)V"⟩, 69) := ⟨⟨by decide +kernel, by decide +kernel⟩, List.mem_of_getElem? (i := 958) (by decide +kernel), List.mem_of_getElem? (i := 1464) (by decide +kernel), List.mem_of_getElem? (i := 1465) (by decide +kernel)⟩
theorem lw_p89 : lw_okq (⟨"FallMarketModel", "meanAt", "(III)J"⟩, 69) := ⟨⟨by decide +kernel, by decide +kernel⟩, List.mem_of_getElem? (i := 958) (by decide +kernel), List.mem_of_getElem? (i := 1479) (by decide +kernel), List.mem_of_getElem? (i := 1480) (by decide +kernel)⟩
theorem lw_p90 : lw_okq (⟨"FallMarketModel", "fallsIn", "(I)J"⟩, 69) := ⟨⟨by decide +kernel, by decide +kernel⟩, List.mem_of_getElem? (i := 958) (by decide +kernel), List.mem_of_getElem? (i := 1483) (by decide +kernel), List.mem_of_getElem? (i := 1484) (by decide +kernel)⟩
theorem lw_p91 : lw_okq (⟨"FallMarketModel", "fillsRows", "(I)V"⟩, 69) := ⟨⟨by decide +kernel, by decide +kernel⟩, List.mem_of_getElem? (i := 958) (by decide +kernel), List.mem_of_getElem? (i := 1555) (by decide +kernel), List.mem_of_getElem? (i := 1556) (by decide +kernel)⟩
theorem lw_p92 : lw_okq (⟨"FallMarketModel", "isRow", "(II)Z"⟩, 69) := ⟨⟨by decide +kernel, by decide +kernel⟩, List.mem_of_getElem? (i := 958) (by decide +kernel), List.mem_of_getElem? (i := 1562) (by decide +kernel), List.mem_of_getElem? (i := 1563) (by decide +kernel)⟩
def lw_privs_6 : List (MethodName × Nat) := [(⟨"FallMarketModel", "lotOf", "(I)I"⟩, 69), (⟨"FallMarketModel", "goes", "(I)V"⟩, 69), (⟨"FallMarketModel", "hourGoes", "()V"⟩, 69), (⟨"FallMarketModel", "looksOn", "()V"⟩, 69), (⟨"FallMarketModel", "lies", "(I)V"⟩, 69), (⟨"FallMarketModel", "sells", "(III)V"⟩, 69), (⟨"FallMarketModel", "falls", "(I)V"⟩, 69), (⟨"FallMarketModel", "catcherOf", "(II)I"⟩, 69), (⟨"FallMarketModel", "fillsOdds", "(III)V"⟩, 69), (⟨"FallMarketModel", "meanAt", "(III)J"⟩, 69), (⟨"FallMarketModel", "fallsIn", "(I)J"⟩, 69), (⟨"FallMarketModel", "fillsRows", "(I)V"⟩, 69), (⟨"FallMarketModel", "isRow", "(II)Z"⟩, 69)]
theorem lw_r6 : ∀ q ∈ lw_privs_6, lw_okq q := List.forall_mem_cons.mpr ⟨lw_p80, List.forall_mem_cons.mpr ⟨lw_p81, List.forall_mem_cons.mpr ⟨lw_p82, List.forall_mem_cons.mpr ⟨lw_p83, List.forall_mem_cons.mpr ⟨lw_p84, List.forall_mem_cons.mpr ⟨lw_p85, List.forall_mem_cons.mpr ⟨lw_p86, List.forall_mem_cons.mpr ⟨lw_p87, List.forall_mem_cons.mpr ⟨lw_p88, List.forall_mem_cons.mpr ⟨lw_p89, List.forall_mem_cons.mpr ⟨lw_p90, List.forall_mem_cons.mpr ⟨lw_p91, List.forall_mem_cons.mpr ⟨lw_p92, fun _ h => absurd h List.not_mem_nil⟩⟩⟩⟩⟩⟩⟩⟩⟩⟩⟩⟩⟩
def lw_privs : List (MethodName × Nat) := lw_privs_1 ++ (lw_privs_2 ++ (lw_privs_3 ++ (lw_privs_4 ++ (lw_privs_5 ++ (lw_privs_6)))))
def lw_tbl : List Cond := k2_sels lw_privs ++ tables_1
theorem lw_privs_ok : ∀ q ∈ lw_privs, lw_okq q := by
  show ∀ q ∈ lw_privs_1 ++ (lw_privs_2 ++ (lw_privs_3 ++ (lw_privs_4 ++ (lw_privs_5 ++ (lw_privs_6))))), lw_okq q
  exact List.forall_mem_append.mpr ⟨lw_r1, List.forall_mem_append.mpr ⟨lw_r2, List.forall_mem_append.mpr ⟨lw_r3, List.forall_mem_append.mpr ⟨lw_r4, List.forall_mem_append.mpr ⟨lw_r5, lw_r6⟩⟩⟩⟩⟩

def RX0 : String := "FallMarket$Clock"
def TX0 : u_T := fun k => match k with
  | _ => ("FallMarket$Clock", "laws", "LFallMarket$Laws;", true)
def tyX0 : Nat → FieldType := fun k => match k with
  | _ => .object "FallMarket$Laws"
abbrev wsX00 : List Cond := u_ws RX0 TX0 1
theorem nmX0 : ∀ a, a < 1 → ∀ b, b < 1 → a ≠ b → (TX0 a).2.1 ≠ (TX0 b).2.1 := by decide +kernel
theorem tyX0_ok : ∀ k, k < 1 → parseFieldDescriptor (TX0 k).2.2.1 = some (tyX0 k) := by decide +kernel

def RX1 : String := "FallMarket$Ground"
def TX1 : u_T := fun k => match k with
  | 0 => ("FallMarket$Ground", "hour", "I", false)
  | 1 => ("FallMarket$Ground", "shakes", "I", false)
  | 2 => ("FallMarket$Ground", "found", "I", false)
  | 3 => ("FallMarket$Ground", "ripe", "[I", true)
  | 4 => ("FallMarket$Ground", "how", "[I", true)
  | 5 => ("FallMarket$Ground", "owner", "[I", true)
  | 6 => ("FallMarket$Ground", "lain", "[I", true)
  | 7 => ("FallMarket$Ground", "propped", "[I", true)
  | 8 => ("FallMarket$Ground", "shaken", "[I", true)
  | 9 => ("FallMarket$Ground", "liesAt", "[I", true)
  | 10 => ("FallMarket$Ground", "standsAt", "[I", true)
  | _ => ("FallMarket$Ground", "coins", "[I", true)
def tyX1 : Nat → FieldType := fun k => match k with
  | 0 => .int
  | 1 => .int
  | 2 => .int
  | 3 => .array .int
  | 4 => .array .int
  | 5 => .array .int
  | 6 => .array .int
  | 7 => .array .int
  | 8 => .array .int
  | 9 => .array .int
  | 10 => .array .int
  | _ => .array .int
abbrev wsX10 : List Cond := u_ws RX1 TX1 12
theorem nmX1 : ∀ a, a < 12 → ∀ b, b < 12 → a ≠ b → (TX1 a).2.1 ≠ (TX1 b).2.1 := by decide +kernel
theorem tyX1_ok : ∀ k, k < 12 → parseFieldDescriptor (TX1 k).2.2.1 = some (tyX1 k) := by decide +kernel

def RX2 : String := "FallMarket$Laws"
def TX2 : u_T := fun k => match k with
  | 0 => ("FallMarket$Laws", "vars", "[I", true)
  | _ => ("FallMarket$Laws", "stack", "[I", true)
def tyX2 : Nat → FieldType := fun k => match k with
  | 0 => .array .int
  | _ => .array .int
abbrev wsX20 : List Cond := u_ws RX2 TX2 2
theorem nmX2 : ∀ a, a < 2 → ∀ b, b < 2 → a ≠ b → (TX2 a).2.1 ≠ (TX2 b).2.1 := by decide +kernel
theorem tyX2_ok : ∀ k, k < 2 → parseFieldDescriptor (TX2 k).2.2.1 = some (tyX2 k) := by decide +kernel

def RX3 : String := "FallMarket$Outlook"
def TX3 : u_T := fun k => match k with
  | 0 => ("FallMarket$Outlook", "falls", "[I", true)
  | 1 => ("FallMarket$Outlook", "worth", "[I", true)
  | 2 => ("FallMarket$Outlook", "weights", "[J", true)
  | _ => ("FallMarket$Outlook", "laws", "LFallMarket$Laws;", true)
def tyX3 : Nat → FieldType := fun k => match k with
  | 0 => .array .int
  | 1 => .array .int
  | 2 => .array .long
  | _ => .object "FallMarket$Laws"
abbrev wsX30 : List Cond := u_ws RX3 TX3 4
theorem nmX3 : ∀ a, a < 4 → ∀ b, b < 4 → a ≠ b → (TX3 a).2.1 ≠ (TX3 b).2.1 := by decide +kernel
theorem tyX3_ok : ∀ k, k < 4 → parseFieldDescriptor (TX3 k).2.2.1 = some (tyX3 k) := by decide +kernel

def RX4 : String := "FallMarket$Parser"
def TX4 : u_T := fun k => match k with
  | 0 => ("FallMarket$Parser", "tokens", "LFallMarket$Tokens;", true)
  | 1 => ("FallMarket$Parser", "into", "LFallMarket$Text;", false)
  | 2 => ("FallMarket$Parser", "at", "I", false)
  | 3 => ("FallMarket$Parser", "fault", "I", false)
  | 4 => ("FallMarket$Parser", "faultAt", "I", false)
  | 5 => ("FallMarket$Parser", "laterFault", "I", false)
  | 6 => ("FallMarket$Parser", "laterFaultAt", "I", false)
  | 7 => ("FallMarket$Parser", "names", "[J", true)
  | 8 => ("FallMarket$Parser", "nameCount", "I", false)
  | _ => ("FallMarket$Parser", "numbers", "[I", true)
def tyX4 : Nat → FieldType := fun k => match k with
  | 0 => .object "FallMarket$Tokens"
  | 1 => .object "FallMarket$Text"
  | 2 => .int
  | 3 => .int
  | 4 => .int
  | 5 => .int
  | 6 => .int
  | 7 => .array .long
  | 8 => .int
  | _ => .array .int
abbrev wsX40 : List Cond := u_ws RX4 TX4 10
theorem nmX4 : ∀ a, a < 10 → ∀ b, b < 10 → a ≠ b → (TX4 a).2.1 ≠ (TX4 b).2.1 := by decide +kernel
theorem tyX4_ok : ∀ k, k < 10 → parseFieldDescriptor (TX4 k).2.2.1 = some (tyX4 k) := by decide +kernel

def RX5 : String := "FallMarket$Text"
def TX5 : u_T := fun k => match k with
  | 0 => ("FallMarket$Text", "fruits", "I", false)
  | 1 => ("FallMarket$Text", "hungAt", "[I", true)
  | 2 => ("FallMarket$Text", "high", "[I", true)
  | 3 => ("FallMarket$Text", "ripe", "[I", true)
  | 4 => ("FallMarket$Text", "rests", "[I", true)
  | 5 => ("FallMarket$Text", "buyers", "I", false)
  | 6 => ("FallMarket$Text", "standsAt", "[I", true)
  | 7 => ("FallMarket$Text", "reach", "[I", true)
  | 8 => ("FallMarket$Text", "coins", "[I", true)
  | 9 => ("FallMarket$Text", "fine", "I", false)
  | 10 => ("FallMarket$Text", "keeps", "I", false)
  | 11 => ("FallMarket$Text", "seed", "I", false)
  | 12 => ("FallMarket$Text", "lawStart", "[I", true)
  | 13 => ("FallMarket$Text", "code", "[I", true)
  | _ => ("FallMarket$Text", "codeSize", "I", false)
def tyX5 : Nat → FieldType := fun k => match k with
  | 0 => .int
  | 1 => .array .int
  | 2 => .array .int
  | 3 => .array .int
  | 4 => .array .int
  | 5 => .int
  | 6 => .array .int
  | 7 => .array .int
  | 8 => .array .int
  | 9 => .int
  | 10 => .int
  | 11 => .int
  | 12 => .array .int
  | 13 => .array .int
  | _ => .int
abbrev wsX50 : List Cond := u_ws RX5 TX5 15
theorem nmX5 : ∀ a, a < 15 → ∀ b, b < 15 → a ≠ b → (TX5 a).2.1 ≠ (TX5 b).2.1 := by decide +kernel
theorem tyX5_ok : ∀ k, k < 15 → parseFieldDescriptor (TX5 k).2.2.1 = some (tyX5 k) := by decide +kernel

def RX6 : String := "FallMarket$Tokens"
def TX6 : u_T := fun k => match k with
  | 0 => ("FallMarket$Tokens", "kinds", "[I", true)
  | 1 => ("FallMarket$Tokens", "starts", "[I", true)
  | 2 => ("FallMarket$Tokens", "values", "[J", true)
  | _ => ("FallMarket$Tokens", "words", "[J", true)
def tyX6 : Nat → FieldType := fun k => match k with
  | 0 => .array .int
  | 1 => .array .int
  | 2 => .array .long
  | _ => .array .long
abbrev wsX60 : List Cond := u_ws RX6 TX6 4
theorem nmX6 : ∀ a, a < 4 → ∀ b, b < 4 → a ≠ b → (TX6 a).2.1 ≠ (TX6 b).2.1 := by decide +kernel
theorem tyX6_ok : ∀ k, k < 4 → parseFieldDescriptor (TX6 k).2.2.1 = some (tyX6 k) := by decide +kernel

def RX7 : String := "FallMarket$Told"
def TX7 : u_T := fun k => match k with
  | 0 => ("FallMarket$Told", "high", "[I", true)
  | 1 => ("FallMarket$Told", "x", "[I", true)
  | _ => ("FallMarket$Told", "size", "I", false)
def tyX7 : Nat → FieldType := fun k => match k with
  | 0 => .array .int
  | 1 => .array .int
  | _ => .int
abbrev wsX70 : List Cond := u_ws RX7 TX7 3
theorem nmX7 : ∀ a, a < 3 → ∀ b, b < 3 → a ≠ b → (TX7 a).2.1 ≠ (TX7 b).2.1 := by decide +kernel
theorem tyX7_ok : ∀ k, k < 3 → parseFieldDescriptor (TX7 k).2.2.1 = some (tyX7 k) := by decide +kernel

def RX8 : String := "FallMarket$Trail"
def TX8 : u_T := fun k => match k with
  | 0 => ("FallMarket$Trail", "cells", "[I", true)
  | 1 => ("FallMarket$Trail", "oldest", "I", false)
  | _ => ("FallMarket$Trail", "size", "I", false)
def tyX8 : Nat → FieldType := fun k => match k with
  | 0 => .array .int
  | 1 => .int
  | _ => .int
abbrev wsX80 : List Cond := u_ws RX8 TX8 3
theorem nmX8 : ∀ a, a < 3 → ∀ b, b < 3 → a ≠ b → (TX8 a).2.1 ≠ (TX8 b).2.1 := by decide +kernel
theorem tyX8_ok : ∀ k, k < 3 → parseFieldDescriptor (TX8 k).2.2.1 = some (tyX8 k) := by decide +kernel

def RX9 : String := "FallMarket"
def TX9 : u_T := fun k => match k with
  | 0 => ("FallMarket", "tape", "[B", true)
  | 1 => ("FallMarket", "taped", "I", false)
  | 2 => ("FallMarket", "faultPlace", "I", false)
  | 3 => ("FallMarket", "text", "LFallMarket$Text;", false)
  | 4 => ("FallMarket", "spare", "LFallMarket$Text;", false)
  | 5 => ("FallMarket", "parser", "LFallMarket$Parser;", true)
  | 6 => ("FallMarket", "laws", "LFallMarket$Laws;", true)
  | 7 => ("FallMarket", "clock", "LFallMarket$Clock;", true)
  | 8 => ("FallMarket", "outlook", "LFallMarket$Outlook;", true)
  | 9 => ("FallMarket", "now", "LFallMarket$Ground;", true)
  | 10 => ("FallMarket", "ahead", "LFallMarket$Ground;", true)
  | 11 => ("FallMarket", "trail", "LFallMarket$Trail;", true)
  | 12 => ("FallMarket", "slots", "[I", true)
  | 13 => ("FallMarket", "held", "[Z", true)
  | _ => ("FallMarket", "told", "LFallMarket$Told;", true)
def tyX9 : Nat → FieldType := fun k => match k with
  | 0 => .array .byte
  | 1 => .int
  | 2 => .int
  | 3 => .object "FallMarket$Text"
  | 4 => .object "FallMarket$Text"
  | 5 => .object "FallMarket$Parser"
  | 6 => .object "FallMarket$Laws"
  | 7 => .object "FallMarket$Clock"
  | 8 => .object "FallMarket$Outlook"
  | 9 => .object "FallMarket$Ground"
  | 10 => .object "FallMarket$Ground"
  | 11 => .object "FallMarket$Trail"
  | 12 => .array .int
  | 13 => .array .boolean
  | _ => .object "FallMarket$Told"
abbrev wsX90 : List Cond := u_ws RX9 TX9 15
theorem nmX9 : ∀ a, a < 15 → ∀ b, b < 15 → a ≠ b → (TX9 a).2.1 ≠ (TX9 b).2.1 := by decide +kernel
theorem tyX9_ok : ∀ k, k < 15 → parseFieldDescriptor (TX9 k).2.2.1 = some (tyX9 k) := by decide +kernel

def RX10 : String := "FallMarketModel"
def TX10 : u_T := fun k => match k with
  | 0 => ("FallMarketModel", "thrown", "I", false)
  | 1 => ("FallMarketModel", "tape", "[B", true)
  | 2 => ("FallMarketModel", "taped", "I", false)
  | 3 => ("FallMarketModel", "text", "[B", true)
  | 4 => ("FallMarketModel", "size", "I", false)
  | 5 => ("FallMarketModel", "tKind", "[I", true)
  | 6 => ("FallMarketModel", "tPlace", "[I", true)
  | 7 => ("FallMarketModel", "tValue", "[I", true)
  | 8 => ("FallMarketModel", "tName", "[J", true)
  | 9 => ("FallMarketModel", "keys", "[J", true)
  | 10 => ("FallMarketModel", "tokens", "I", false)
  | 11 => ("FallMarketModel", "t", "I", false)
  | 12 => ("FallMarketModel", "open", "I", false)
  | 13 => ("FallMarketModel", "fault", "I", false)
  | 14 => ("FallMarketModel", "faultPlace", "I", false)
  | 15 => ("FallMarketModel", "worst", "I", false)
  | 16 => ("FallMarketModel", "worstPlace", "I", false)
  | 17 => ("FallMarketModel", "place", "I", false)
  | 18 => ("FallMarketModel", "live", "I", false)
  | 19 => ("FallMarketModel", "side", "I", false)
  | 20 => ("FallMarketModel", "names", "I", false)
  | 21 => ("FallMarketModel", "nameOf", "[J", true)
  | 22 => ("FallMarketModel", "fruits", "[I", true)
  | 23 => ("FallMarketModel", "xOf", "[I", true)
  | 24 => ("FallMarketModel", "highOf", "[I", true)
  | 25 => ("FallMarketModel", "ripeTold", "[I", true)
  | 26 => ("FallMarketModel", "buyers", "[I", true)
  | 27 => ("FallMarketModel", "xTold", "[I", true)
  | 28 => ("FallMarketModel", "reachOf", "[I", true)
  | 29 => ("FallMarketModel", "coinsTold", "[I", true)
  | 30 => ("FallMarketModel", "fine", "[I", true)
  | 31 => ("FallMarketModel", "keepsFor", "[I", true)
  | 32 => ("FallMarketModel", "seed", "[I", true)
  | 33 => ("FallMarketModel", "lawFirst", "[I", true)
  | 34 => ("FallMarketModel", "lawLast", "[I", true)
  | 35 => ("FallMarketModel", "branches", "I", false)
  | 36 => ("FallMarketModel", "hasTest", "[Z", true)
  | 37 => ("FallMarketModel", "testFrom", "[I", true)
  | 38 => ("FallMarketModel", "testMid", "[I", true)
  | 39 => ("FallMarketModel", "testTo", "[I", true)
  | 40 => ("FallMarketModel", "termTo", "[I", true)
  | 41 => ("FallMarketModel", "codes", "I", false)
  | 42 => ("FallMarketModel", "code", "[I", true)
  | 43 => ("FallMarketModel", "codeInt", "[I", true)
  | 44 => ("FallMarketModel", "waits", "[I", true)
  | 45 => ("FallMarketModel", "waiting", "I", false)
  | 46 => ("FallMarketModel", "variables", "[I", true)
  | 47 => ("FallMarketModel", "pile", "[I", true)
  | 48 => ("FallMarketModel", "isBroken", "Z", false)
  | 49 => ("FallMarketModel", "now", "[I", true)
  | 50 => ("FallMarketModel", "row", "[I", true)
  | 51 => ("FallMarketModel", "lots", "I", false)
  | 52 => ("FallMarketModel", "fallsNow", "[Z", true)
  | 53 => ("FallMarketModel", "ripeThen", "[I", true)
  | 54 => ("FallMarketModel", "worthNow", "[I", true)
  | 55 => ("FallMarketModel", "bounceNow", "[I", true)
  | 56 => ("FallMarketModel", "hasSold", "Z", false)
  | 57 => ("FallMarketModel", "undos", "I", false)
  | 58 => ("FallMarketModel", "history", "[I", true)
  | 59 => ("FallMarketModel", "oddsBy", "[I", true)
  | 60 => ("FallMarketModel", "worthIn", "[I", true)
  | 61 => ("FallMarketModel", "tolds", "I", false)
  | 62 => ("FallMarketModel", "toldHigh", "[I", true)
  | 63 => ("FallMarketModel", "toldX", "[I", true)
  | 64 => ("FallMarketModel", "liesAt", "[I", true)
  | 65 => ("FallMarketModel", "rowsBy", "[I", true)
  | 66 => ("FallMarketModel", "rowsAll", "I", false)
  | 67 => ("FallMarketModel", "isHeld", "[Z", true)
  | _ => ("FallMarketModel", "heldRows", "[I", true)
def tyX10 : Nat → FieldType := fun k => match k with
  | 0 => .int
  | 1 => .array .byte
  | 2 => .int
  | 3 => .array .byte
  | 4 => .int
  | 5 => .array .int
  | 6 => .array .int
  | 7 => .array .int
  | 8 => .array .long
  | 9 => .array .long
  | 10 => .int
  | 11 => .int
  | 12 => .int
  | 13 => .int
  | 14 => .int
  | 15 => .int
  | 16 => .int
  | 17 => .int
  | 18 => .int
  | 19 => .int
  | 20 => .int
  | 21 => .array .long
  | 22 => .array .int
  | 23 => .array .int
  | 24 => .array .int
  | 25 => .array .int
  | 26 => .array .int
  | 27 => .array .int
  | 28 => .array .int
  | 29 => .array .int
  | 30 => .array .int
  | 31 => .array .int
  | 32 => .array .int
  | 33 => .array .int
  | 34 => .array .int
  | 35 => .int
  | 36 => .array .boolean
  | 37 => .array .int
  | 38 => .array .int
  | 39 => .array .int
  | 40 => .array .int
  | 41 => .int
  | 42 => .array .int
  | 43 => .array .int
  | 44 => .array .int
  | 45 => .int
  | 46 => .array .int
  | 47 => .array .int
  | 48 => .boolean
  | 49 => .array .int
  | 50 => .array .int
  | 51 => .int
  | 52 => .array .boolean
  | 53 => .array .int
  | 54 => .array .int
  | 55 => .array .int
  | 56 => .boolean
  | 57 => .int
  | 58 => .array .int
  | 59 => .array .int
  | 60 => .array .int
  | 61 => .int
  | 62 => .array .int
  | 63 => .array .int
  | 64 => .array .int
  | 65 => .array .int
  | 66 => .int
  | 67 => .array .boolean
  | _ => .array .int
abbrev wsX100 : List Cond := u_ws RX10 TX10 69
theorem nmX10 : ∀ a, a < 69 → ∀ b, b < 69 → a ≠ b → (TX10 a).2.1 ≠ (TX10 b).2.1 := by decide +kernel
theorem tyX10_ok : ∀ k, k < 69 → parseFieldDescriptor (TX10 k).2.2.1 = some (tyX10 k) := by decide +kernel

abbrev vwCl : List vw_C := [(RX0, TX0, 1), (RX1, TX1, 12), (RX2, TX2, 2), (RX3, TX3, 4), (RX4, TX4, 10), (RX5, TX5, 15), (RX6, TX6, 4), (RX7, TX7, 3), (RX8, TX8, 3), (RX9, TX9, 15), (RX10, TX10, 69)]
end
section
/-! ===== the words of each class are in the tables ===== -/
/-- the tables' words that hold in every later state too -/
def jm_tbl : List Cond := lw_tbl.filter goodWord
theorem jm_tbl_mem {w : Cond} (h : w ∈ lw_tbl) (hg : goodWord w = true) : w ∈ jm_tbl := List.mem_filter.mpr ⟨h, hg⟩
theorem jm_tbl_good {w : Cond} (h : w ∈ jm_tbl) : (w.onTables && w.keeps) = true ∨ ∃ ty, w = .arrayClass ty := good_of_word (List.mem_filter.mp h).2
theorem jm_wi {ws : List Cond} (h : ∀ w ∈ ws, w ∈ lw_tbl) (hg : ws.all goodWord = true) : ∀ w ∈ ws, w ∈ jm_tbl := fun w hw => jm_tbl_mem (h w hw) (List.all_eq_true.mp hg w hw)
theorem wiX0 : ∀ w ∈ u_ws RX0 TX0 1, w ∈ jm_tbl := jm_wi (by decide +kernel) (by decide +kernel)
theorem wiX1 : ∀ w ∈ u_ws RX1 TX1 12, w ∈ jm_tbl := jm_wi (by decide +kernel) (by decide +kernel)
theorem wiX2 : ∀ w ∈ u_ws RX2 TX2 2, w ∈ jm_tbl := jm_wi (by decide +kernel) (by decide +kernel)
theorem wiX3 : ∀ w ∈ u_ws RX3 TX3 4, w ∈ jm_tbl := jm_wi (by decide +kernel) (by decide +kernel)
theorem wiX4 : ∀ w ∈ u_ws RX4 TX4 10, w ∈ jm_tbl := jm_wi (by decide +kernel) (by decide +kernel)
theorem wiX5 : ∀ w ∈ u_ws RX5 TX5 15, w ∈ jm_tbl := jm_wi (by decide +kernel) (by decide +kernel)
theorem wiX6 : ∀ w ∈ u_ws RX6 TX6 4, w ∈ jm_tbl := jm_wi (by decide +kernel) (by decide +kernel)
theorem wiX7 : ∀ w ∈ u_ws RX7 TX7 3, w ∈ jm_tbl := jm_wi (by decide +kernel) (by decide +kernel)
theorem wiX8 : ∀ w ∈ u_ws RX8 TX8 3, w ∈ jm_tbl := jm_wi (by decide +kernel) (by decide +kernel)
theorem wiX9 : ∀ w ∈ u_ws RX9 TX9 15, w ∈ jm_tbl := jm_wi (by decide +kernel) (by decide +kernel)
theorem wiX10 : ∀ w ∈ u_ws RX10 TX10 69, w ∈ jm_tbl := jm_wi (by decide +kernel) (by decide +kernel)
end
section
/-! ===== A MACHINE OF ITS OWN: abstract states, a step that computes, and that the bytecode's machine follows it ===== -/
/-- a cell: an array (kind, length, contents: what the list doesn't tell is 0), or an object (class number, fields); a reference in it is a number of its own -/
abbrev jm_c : Type := (Nat × Nat × (List Int32 ⊕ List Int64)) ⊕ (Nat × List Value)
/-- two rows of cells: what the class makes, what the reference makes -/
abbrev jm_h : Type := List jm_c × List jm_c
/-- kinds of arrays -/
def jm_ty (k : Nat) : FieldType := if k = 0 then .int else if k = 1 then .byte else if k = 2 then .boolean else .long
def jm_n1 : Nat := 65
/-- the place of a reference among all cells -/
def jm_fi (k : Nat) : Nat := if k < 1000 then k - 8 else 65 + (k - 1000)
/-- the address that a reference stands for: below 8 what lay there before, else the cells in the order of their making -/
def jm_ad (h0 : Nat) (ex : Nat → Nat) (k : Nat) : Nat := if k < 8 then ex k else h0 + jm_fi k
def jm_cv (h0 : Nat) (ex : Nat → Nat) (v : Value) : Value := match v with
  | .ref k => if k = 6 ∧ ex 7 = 0 then .null else .ref (jm_ad h0 ex k)
  | .int x => .int x
  | .long x => .long x
  | .null => .null
  | .float x => .float x
  | .double x => .double x
  | .retAddr x => .retAddr x
def jm_ce (h0 : Nat) (ex : Nat → Nat) (ka : Nat → ClassId) (c : jm_c) : va_E := match c with
  | .inl (t, n, .inl f) => .inl (ka t, n, .inl (fun j => f.getD j 0))
  | .inl (t, n, .inr f) => .inl (ka t, n, .inr (.inl (fun j => f.getD j 0)))
  | .inr (ci, fs) => .inr (ci, fs.map (jm_cv h0 ex))
def jm_al (G : jm_h) : List jm_c := G.1 ++ G.2
def jm_w (h0 : Nat) (ex : Nat → Nat) (ka : Nat → ClassId) (G : jm_h) : va_W := (jm_al G).mapIdx fun j c => (h0 + j, jm_ce h0 ex ka c)
def jm_len (G : jm_h) : Nat := G.1.length + G.2.length
/-- a cell by its reference; another one in its place; a new one -/
def jm_g (G : jm_h) (k : Nat) : Option jm_c := if k < 8 then none else if k < 1000 then G.1[k - 8]? else G.2[k - 1000]?
def jm_s (G : jm_h) (k : Nat) (c : jm_c) : jm_h := if k < 1000 then (G.1.set (k - 8) c, G.2) else (G.1, G.2.set (k - 1000) c)
def jm_okh (G : jm_h) : Prop := (G.2 = [] ∨ G.1.length = 65) ∧ G.1.length ≤ 65
def jm_new (sg : Nat) (G : jm_h) (c : jm_c) : Option (Nat × jm_h) :=
  if sg = 1 then (match G.2 with
    | [] => if G.1.length < 65 then some (8 + G.1.length, (G.1 ++ [c], [])) else none
    | _ :: _ => none)
  else if G.1.length = 65 then some (1000 + G.2.length, (G.1, G.2 ++ [c])) else none
theorem jm_w_at {h0 : Nat} {ex : Nat → Nat} {ka : Nat → ClassId} {G : jm_h} {j : Nat} {c : jm_c} (h : (jm_al G)[j]? = some c) : (jm_w h0 ex ka G)[j]? = some (h0 + j, jm_ce h0 ex ka c) := by
  simp [jm_w, List.getElem?_mapIdx, h]
theorem jm_w_inv {h0 : Nat} {ex : Nat → Nat} {ka : Nat → ClassId} {G : jm_h} {j : Nat} {q : Nat × va_E} (h : (jm_w h0 ex ka G)[j]? = some q) : ∃ c, (jm_al G)[j]? = some c ∧ q = (h0 + j, jm_ce h0 ex ka c) := by
  simp only [jm_w, List.getElem?_mapIdx, Option.map_eq_some_iff] at h
  obtain ⟨c, h1, h2⟩ := h
  exact ⟨c, h1, h2.symm⟩
theorem jm_D (h0 : Nat) (ex : Nat → Nat) (ka : Nat → ClassId) (G : jm_h) : va_D (fun q : Nat => h0 ≤ q) (jm_w h0 ex ka G) := by
  refine ⟨fun i j p q hi hj hpq => ?_, fun k q hk => ?_⟩
  · obtain ⟨c, -, rfl⟩ := jm_w_inv hi
    obtain ⟨d, -, rfl⟩ := jm_w_inv hj
    exact Nat.add_left_cancel hpq
  · obtain ⟨c, -, rfl⟩ := jm_w_inv hk
    exact Nat.le_add_right _ _
theorem jm_g_ge {G : jm_h} {k : Nat} {c : jm_c} (h : jm_g G k = some c) : 8 ≤ k := by
  unfold jm_g at h
  split at h
  · cases h
  · omega
theorem jm_g_ad {h0 : Nat} {ex : Nat → Nat} {G : jm_h} {k : Nat} {c : jm_c} (h : jm_g G k = some c) : jm_ad h0 ex k = h0 + jm_fi k := by
  have := jm_g_ge h
  unfold jm_ad
  rw [if_neg (by omega)]
theorem jm_g_at {G : jm_h} (hG : jm_okh G) {k : Nat} {c : jm_c} (h : jm_g G k = some c) : (jm_al G)[jm_fi k]? = some c := by
  unfold jm_g at h
  split at h
  · cases h
  · split at h
    · rename_i h1 h2
      have hl := (List.getElem?_eq_some_iff.mp h).1
      rw [jm_al, jm_fi, if_pos h2, List.getElem?_append_left hl, h]
    · rename_i h1 h2
      have hl := (List.getElem?_eq_some_iff.mp h).1
      rw [jm_al, jm_fi, if_neg h2]
      have h65 : G.1.length = 65 := by
        rcases hG.1 with e | e
        · rw [e] at hl; simp at hl
        · exact e
      rw [List.getElem?_append_right (by omega), h65, Nat.add_sub_cancel_left, h]
theorem jm_s_al {G : jm_h} (hG : jm_okh G) {k : Nat} {c0 : jm_c} (h : jm_g G k = some c0) (c : jm_c) : jm_al (jm_s G k c) = (jm_al G).set (jm_fi k) c := by
  unfold jm_g at h
  split at h
  · cases h
  · split at h
    · rename_i h1 h2
      have hl := (List.getElem?_eq_some_iff.mp h).1
      simp only [jm_al, jm_s, jm_fi, if_pos h2]
      rw [List.set_append_left _ _ hl]
    · rename_i h1 h2
      have hl := (List.getElem?_eq_some_iff.mp h).1
      have h65 : G.1.length = 65 := by
        rcases hG.1 with e | e
        · rw [e] at hl; simp at hl
        · exact e
      simp only [jm_al, jm_s, jm_fi, if_neg h2]
      rw [List.set_append_right _ _ (by omega), h65, Nat.add_sub_cancel_left]
theorem jm_s_ok {G : jm_h} (hG : jm_okh G) (k : Nat) (c : jm_c) : jm_okh (jm_s G k c) := by
  obtain ⟨h1, h2⟩ := hG
  unfold jm_s jm_okh
  split
  · simpa using ⟨h1, h2⟩
  · refine ⟨?_, h2⟩
    rcases h1 with e | e
    · left; simp [e]
    · right; exact e
theorem jm_s_len (G : jm_h) (k : Nat) (c : jm_c) : jm_len (jm_s G k c) = jm_len G := by
  unfold jm_s jm_len
  split <;> simp
theorem jm_w_set {h0 : Nat} {ex : Nat → Nat} {ka : Nat → ClassId} {G : jm_h} (hG : jm_okh G) {k : Nat} {c0 : jm_c} (h : jm_g G k = some c0) (c : jm_c) : (jm_w h0 ex ka G).set (jm_fi k) (h0 + jm_fi k, jm_ce h0 ex ka c) = jm_w h0 ex ka (jm_s G k c) := by
  unfold jm_w
  rw [jm_s_al hG h]
  apply List.ext_getElem?
  intro i
  simp only [List.getElem?_set, List.getElem?_mapIdx, List.length_mapIdx]
  split
  · rename_i e
    subst e
    split <;> simp
  · rfl
theorem jm_al_len (G : jm_h) : (jm_al G).length = jm_len G := by simp [jm_al, jm_len]
theorem jm_new_al {sg : Nat} {G G1 : jm_h} {c : jm_c} {k : Nat} (hG : jm_okh G) (h : jm_new sg G c = some (k, G1)) : jm_al G1 = jm_al G ++ [c] ∧ jm_okh G1 ∧ 8 ≤ k ∧ jm_fi k = jm_len G := by
  obtain ⟨h1, h2⟩ := hG
  unfold jm_new at h
  split at h
  · split at h
    · rename_i e
      split at h
      · rename_i hl
        cases h
        refine ⟨by simp [jm_al, e], ⟨Or.inl rfl, by simp; omega⟩, by omega, ?_⟩
        unfold jm_fi jm_len
        rw [if_pos (by omega), e]
        simp
      · cases h
    · cases h
  · split at h
    · rename_i hl
      cases h
      refine ⟨by simp [jm_al], ⟨Or.inr hl, h2⟩, by omega, ?_⟩
      unfold jm_fi jm_len
      rw [if_neg (by omega)]
      omega
    · cases h
theorem jm_w_new {h0 : Nat} {ex : Nat → Nat} {ka : Nat → ClassId} {G G1 : jm_h} {c : jm_c} (h : jm_al G1 = jm_al G ++ [c]) : jm_w h0 ex ka G1 = jm_w h0 ex ka G ++ [(h0 + jm_len G, jm_ce h0 ex ka c)] := by
  unfold jm_w
  rw [h, List.mapIdx_append]
  simp [jm_al_len]
theorem jm_new_len {sg : Nat} {G G1 : jm_h} {c : jm_c} {k : Nat} (hG : jm_okh G) (h : jm_new sg G c = some (k, G1)) : jm_len G1 = jm_len G + 1 := by
  have h1 := (jm_new_al hG h).1
  have h2 := congrArg List.length h1
  rw [jm_al_len] at h2
  simp [jm_al_len] at h2
  exact h2
/-- the heap holds the cells -/
def jm_R (D : va_G) (h0 : Nat) (ex : Nat → Nat) (ka : Nat → ClassId) (G : jm_h) (H : Heap) : Prop := jm_okh G ∧ va_P D vwCl (jm_w h0 ex ka G) H
theorem jm_R_low {D : va_G} {h0 : Nat} {ex : Nat → Nat} {ka : Nat → ClassId} {G : jm_h} {H : Heap} (h : jm_R D h0 ex ka G H) (hh : h0 ≤ H.size) : h0 + jm_len G ≤ H.size := by
  rcases Nat.eq_zero_or_pos (jm_len G) with e | e
  · omega
  · have hl : jm_len G - 1 < (jm_al G).length := by rw [jm_al_len]; omega
    have h1 := h.2 (jm_len G - 1) _ (jm_w_at (List.getElem?_eq_getElem hl))
    have := h1.lt
    simp only at this
    omega
/-- local variables: what a row of them says -/
def jm_lv (h0 : Nat) (ex : Nat → Nat) : Nat → List (Option Value) → List (Nat × Value)
  | _, [] => []
  | i, none :: r => jm_lv h0 ex (i + 1) r
  | i, some v :: r => (i, jm_cv h0 ex v) :: jm_lv h0 ex (i + 1) r
theorem jm_lv_mem {h0 : Nat} {ex : Nat → Nat} {q : Nat × Value} : ∀ {L : List (Option Value)} {i : Nat}, q ∈ jm_lv h0 ex i L ↔ ∃ j v, L[j]? = some (some v) ∧ q = (i + j, jm_cv h0 ex v)
  | [], i => by simp [jm_lv]
  | none :: r, i => by
    rw [jm_lv, jm_lv_mem]
    constructor
    · rintro ⟨j, v, h1, h2⟩
      exact ⟨j + 1, v, by simpa using h1, by rw [h2]; congr 1; omega⟩
    · rintro ⟨j, v, h1, h2⟩
      cases j with
      | zero => simp at h1
      | succ j => exact ⟨j, v, by simpa using h1, by rw [h2]; congr 1; omega⟩
  | some w :: r, i => by
    rw [jm_lv, List.mem_cons, jm_lv_mem]
    constructor
    · rintro (h | ⟨j, v, h1, h2⟩)
      · exact ⟨0, w, by simp, by simpa using h⟩
      · exact ⟨j + 1, v, by simpa using h1, by rw [h2]; congr 1; omega⟩
    · rintro ⟨j, v, h1, h2⟩
      cases j with
      | zero =>
        left
        simp at h1
        rw [h2, h1]; rfl
      | succ j => exact Or.inr ⟨j, v, by simpa using h1, by rw [h2]; congr 1; omega⟩
def jm_ld (L : List (Option Value)) (i : Nat) : Option Value := (L[i]?).join
/-- what stood ahead of a place that is written, if it was two words wide, is gone -/
def jm_cl (L : List (Option Value)) (i : Nat) : List (Option Value) := match i with
  | 0 => L
  | j + 1 => match jm_ld L j with
    | some v => if v.category = 2 then L.set j none else L
    | none => L
def jm_st1 (L : List (Option Value)) (i : Nat) (v : Value) : List (Option Value) := (jm_cl L i).set i (some v)
def jm_st2 (L : List (Option Value)) (i : Nat) (v : Value) : List (Option Value) := ((jm_cl L i).set i (some v)).set (i + 1) none
def jm_L (h0 : Nat) (ex : Nat → Nat) (ls : Array Slot) (n : Nat) (L : List (Option Value)) : Prop := lv_has ls n (jm_lv h0 ex 0 L)
theorem jm_L_at {h0 : Nat} {ex : Nat → Nat} {ls : Array Slot} {n : Nat} {L : List (Option Value)} {i : Nat} {v : Value} (h : jm_L h0 ex ls n L) (hi : jm_ld L i = some v) : ls[i]? = some (.val (jm_cv h0 ex v)) := by
  have h1 : L[i]? = some (some v) := by
    unfold jm_ld at hi
    cases hq : L[i]? with
    | none => rw [hq] at hi; cases hi
    | some o => rw [hq] at hi; simp at hi; rw [hi]
  have h2 : ((i, jm_cv h0 ex v) : Nat × Value) ∈ jm_lv h0 ex 0 L := jm_lv_mem.mpr ⟨i, v, h1, by rw [Nat.zero_add]⟩
  exact h.2.2 _ h2
theorem jm_cv_cat (h0 : Nat) (ex : Nat → Nat) (v : Value) : (jm_cv h0 ex v).category = v.category := by
  cases v with
  | ref k =>
    unfold jm_cv
    dsimp only
    split <;> rfl
  | _ => rfl
theorem jm_cvr {h0 : Nat} {ex : Nat → Nat} {k : Nat} (h : ¬ k = 6) : jm_cv h0 ex (.ref k) = .ref (jm_ad h0 ex k) := by
  unfold jm_cv
  dsimp only
  rw [if_neg (fun q => h q.1)]
theorem jm_cl_mem {L : List (Option Value)} {i j : Nat} {v : Value} (h : (jm_cl L i)[j]? = some (some v)) : L[j]? = some (some v) ∧ ¬ (j + 1 = i ∧ v.category = 2) := by
  unfold jm_cl at h
  split at h
  · exact ⟨h, fun q => by omega⟩
  · rename_i k
    split at h
    · rename_i w hw
      have hL : L[k]? = some (some w) := by
        unfold jm_ld at hw
        cases hq : L[k]? with
        | none => rw [hq] at hw; cases hw
        | some o => rw [hq] at hw; simp at hw; rw [hw]
      split at h
      · rw [List.getElem?_set] at h
        split at h
        · split at h <;> simp at h
        · exact ⟨h, fun q => by omega⟩
      · rename_i hc
        refine ⟨h, fun q => ?_⟩
        have : j = k := by omega
        subst this
        rw [hL] at h
        cases h
        exact hc q.2
    · rename_i hw
      refine ⟨h, fun q => ?_⟩
      have : j = k := by omega
      subst this
      simp [jm_ld, h] at hw
theorem jm_L_st1 {h0 : Nat} {ex : Nat → Nat} {ls : Array Slot} {n i : Nat} {L : List (Option Value)} {v : Value} (h : lv_has ls n ((i, jm_cv h0 ex v) :: (jm_lv h0 ex 0 L).filter (fun q => !(q.1 == i) && !(q.1 + 1 == i && q.2.category == 2)))) : jm_L h0 ex ls n (jm_st1 L i v) := by
  refine ⟨h.1, h.2.1, fun q hq => h.2.2 q ?_⟩
  obtain ⟨j, w, h1, rfl⟩ := jm_lv_mem.mp hq
  rw [jm_st1, List.getElem?_set] at h1
  split at h1
  · rename_i e
    subst e
    split at h1
    · cases h1
      rw [Nat.zero_add]
      exact List.mem_cons_self
    · cases h1
  · rename_i hne
    obtain ⟨h2, h3⟩ := jm_cl_mem h1
    refine List.mem_cons_of_mem _ (List.mem_filter.mpr ⟨jm_lv_mem.mpr ⟨j, w, h2, rfl⟩, ?_⟩)
    simp only [Nat.zero_add, jm_cv_cat]
    simp
    exact ⟨fun e => hne e.symm, (Decidable.not_and_iff_or_not).mp h3⟩
theorem jm_L_st2 {h0 : Nat} {ex : Nat → Nat} {ls : Array Slot} {n i : Nat} {L : List (Option Value)} {v : Value} (h : lv_has ls n ((i, jm_cv h0 ex v) :: (jm_lv h0 ex 0 L).filter (fun q => !(q.1 == i) && (!(q.1 == i + 1) && !(q.1 + 1 == i && q.2.category == 2))))) : jm_L h0 ex ls n (jm_st2 L i v) := by
  refine ⟨h.1, h.2.1, fun q hq => h.2.2 q ?_⟩
  obtain ⟨j, w, h1, rfl⟩ := jm_lv_mem.mp hq
  rw [jm_st2, List.getElem?_set] at h1
  split at h1
  · split at h1 <;> simp at h1
  · rename_i hne1
    rw [List.getElem?_set] at h1
    split at h1
    · rename_i e
      subst e
      split at h1
      · cases h1
        rw [Nat.zero_add]
        exact List.mem_cons_self
      · cases h1
    · rename_i hne
      obtain ⟨h2, h3⟩ := jm_cl_mem h1
      refine List.mem_cons_of_mem _ (List.mem_filter.mpr ⟨jm_lv_mem.mpr ⟨j, w, h2, rfl⟩, ?_⟩)
      simp only [Nat.zero_add, jm_cv_cat]
      simp
      exact ⟨fun e => hne e.symm, fun e => hne1 e.symm, (Decidable.not_and_iff_or_not).mp h3⟩
end
section
/-! ===== what stands fixed in a method's body, and the judgement over abstract states ===== -/
abbrev jm_I : Type := Instr × Nat × Nat × Nat × Nat
/-- a method: its name, bytes, locals, return type, its instructions (sixteen places a row), the kind of cells that it makes, how many arguments, its kind (0 static, 1 virtual, 2 <init>), its receiver's class -/
abbrev jm_M : Type := MethodName × ByteArray × Nat × Option FieldType × List (List (Option jm_I)) × Nat × Nat × Nat × Nat
def jm_y (M : jm_M) : MethodName := M.1
def jm_b (M : jm_M) : ByteArray := M.2.1
def jm_mx (M : jm_M) : Nat := M.2.2.1
def jm_rt (M : jm_M) : Option FieldType := M.2.2.2.1
def jm_tb (M : jm_M) : List (List (Option jm_I)) := M.2.2.2.2.1
def jm_sg (M : jm_M) : Nat := M.2.2.2.2.2.1
def jm_na (M : jm_M) : Nat := M.2.2.2.2.2.2.1
def jm_kd (M : jm_M) : Nat := M.2.2.2.2.2.2.2.1
def jm_rc (M : jm_M) : Nat := M.2.2.2.2.2.2.2.2
def jm_in (M : jm_M) (pc : Nat) : Option jm_I := (((jm_tb M)[pc / 16]?).bind fun r => (r[pc % 16]?).join)
abbrev jm_St : Type := Nat × List (Option Value) × List Value × jm_h × Nat × Nat
def jm_tys (ka : Nat → ClassId) : List (ClassId × FieldType) := [(ka 0, .int), (ka 1, .byte), (ka 2, .boolean), (ka 3, .long)]
def jm_x1 : List Int32 := [0, -9, 0, 0, -9, 0]
def jm_x2 : List Int32 := [9, 9, 100, 99, 9, 100]
def jm_x3 : List Int32 := [260, 383, 383, 407, 279, 300]
def jm_tx : String := "fruit buyer wind ripens falls worth bounces found fine keeps seed if then else ripe high hour blows across shaken propped lay left "
def jm_wb : List Int32 := [102, 114, 117, 105, 116, 32, 98, 117, 121, 101, 114, 32, 119, 105, 110, 100, 32, 114, 105, 112, 101, 110, 115, 32, 102, 97, 108, 108, 115, 32, 119, 111, 114, 116, 104, 32, 98, 111, 117, 110, 99, 101, 115, 32, 102, 111, 117, 110, 100, 32, 102, 105, 110, 101, 32, 107, 101, 101, 112, 115, 32, 115, 101, 101, 100, 32, 105, 102, 32, 116, 104, 101, 110, 32, 101, 108, 115, 101, 32, 114, 105, 112, 101, 32, 104, 105, 103, 104, 32, 104, 111, 117, 114, 32, 98, 108, 111, 119, 115, 32, 97, 99, 114, 111, 115, 115, 32, 115, 104, 97, 107, 101, 110, 32, 112, 114, 111, 112, 112, 101, 100, 32, 108, 97, 121, 32, 108, 101, 102, 116, 32]
/-- arrays that lay there before -/
def jm_ea (Ls : Nat) (xs : Nat → Int32) (k : Nat) : Option (Nat × Nat × (Nat → Int32)) :=
  if k = 0 then some (0, Ls, xs) else if k = 1 then some (0, 6, fun j => jm_x1.getD j 0) else if k = 2 then some (0, 6, fun j => jm_x2.getD j 0)
  else if k = 3 then some (0, 6, fun j => jm_x3.getD j 0) else if k = 5 then some (1, 131, fun j => jm_wb.getD j 0) else none
/-- words on private members of a nest mate -/
def jm_isN (w : Cond) : Bool := match w with
  | .methodLinkNest _ _ _ _ => true
  | .fieldLinkNest _ _ _ _ _ _ => true
  | _ => false
/-- what lay there before, of a state: the script, three static arrays, a text; a static that holds a reference or null -/
def jm_X (h0 : Nat) (ex : Nat → Nat) (Ls : Nat) (xs : Nat → Int32) (U : State) : Prop :=
  (va_X (ex 0) Ls xs U U.heap ∧ ex 0 < U.heap.size ∧ ¬ h0 ≤ ex 0) ∧
  (va_Z "FallMarket" "LEAST" "[I" (.ref (ex 1)) (fun q => h0 ≤ q) U U.heap ∧ va_T .int (ex 1) 6 (fun j => .int (jm_x1.getD j 0)) (fun q => h0 ≤ q) U U.heap) ∧
  (va_Z "FallMarket" "MOST" "[I" (.ref (ex 2)) (fun q => h0 ≤ q) U U.heap ∧ va_T .int (ex 2) 6 (fun j => .int (jm_x2.getD j 0)) (fun q => h0 ≤ q) U U.heap) ∧
  (va_Z "FallMarket" "TOLD_VARS" "[I" (.ref (ex 3)) (fun q => h0 ≤ q) U U.heap ∧ va_T .int (ex 3) 6 (fun j => .int (jm_x3.getD j 0)) (fun q => h0 ≤ q) U U.heap) ∧
  (va_Z "java/lang/String" "COMPACT_STRINGS" "Z" (.int 1) (fun q => h0 ≤ q) U U.heap) ∧
  (va_O "java/lang/String" (ex 4) (fun q => h0 ≤ q) U U.heap ∧ va_OF "java/lang/String" "coder" "B" (.int 0) (ex 4) (fun q => h0 ≤ q) U U.heap ∧ va_OF "java/lang/String" "value" "[B" (.ref (ex 5)) (ex 4) (fun q => h0 ≤ q) U U.heap ∧ va_T .byte (ex 5) 131 (fun j => .int (jm_wb.getD j 0)) (fun q => h0 ≤ q) U U.heap) ∧
  vk_R "FallMarket$Tokens" 25 jm_tx (ex 4) U ∧
  va_Z "jdk/internal/util/Preconditions" "SIOOBE_FORMATTER" "Ljava/util/function/BiFunction;" (if ex 7 = 0 then .null else .ref (ex 6)) (fun q => h0 ≤ q) U U.heap ∧
  ∀ w ∈ lw_tbl, jm_isN w = true → va_Nw w U
theorem jm_N_warm {s U : State} (hW : s.WarmedH U.vm) {w : Cond} (hn : jm_isN w = true) (h : va_Nw w s) : va_Nw w U := by
  unfold jm_isN at hn
  split at hn
  · exact va_Nw.warmM hW h
  · exact va_Nw.warmF hW h
  · cases hn
theorem jm_N_tab {w : Cond} (hn : jm_isN w = true) : w.onTables = true := by
  unfold jm_isN at hn
  split at hn
  · rfl
  · rfl
  · cases hn
theorem jm_X_to {h0 : Nat} {ex : Nat → Nat} {Ls : Nat} {xs : Nat → Int32} {s U : State} {H : Heap} {locs : List Loc} (h : jm_X h0 ex Ls xs s) (hS : va_S (fun q => h0 ≤ q) s.heap H locs) (hU : U.heap = H) (hW : s.WarmedH U.vm) : jm_X h0 ex Ls xs U := by
  obtain ⟨⟨a1, a2, a3⟩, ⟨b1, b2⟩, ⟨c1, c2⟩, ⟨d1, d2⟩, e1, ⟨f1, f2, f3, f4⟩, g1, i1, j1⟩ := h
  have hk := hS.2.1
  have hv := hW.alike
  subst hU
  exact ⟨⟨(a1.kept (hk _ a2 a3)).moved hv, Nat.lt_of_lt_of_le a2 hS.1, a3⟩, ⟨(b1.kept hk).moved hv, (b2.kept hk).moved hv⟩, ⟨(c1.kept hk).moved hv, (c2.kept hk).moved hv⟩, ⟨(d1.kept hk).moved hv, (d2.kept hk).moved hv⟩, (e1.kept hk).moved hv, ⟨(f1.kept hk).moved hv, (f2.kept hk).moved hv, (f3.kept hk).moved hv, (f4.kept hk).moved hv⟩, g1.warm hW, (i1.kept hk).moved hv, fun w hw hn => jm_N_warm hW hn (j1 w hw hn)⟩
theorem jm_X_call {h0 : Nat} {ex : Nat → Nat} {Ls : Nat} {xs : Nat → Int32} {U : State} {g : JFrame} {mk : MethodId} {a : Array Value} (h : jm_X h0 ex Ls xs U) : jm_X h0 ex Ls xs (U.calling g mk a) := by
  obtain ⟨⟨a1, a2, a3⟩, ⟨b1, b2⟩, ⟨c1, c2⟩, ⟨d1, d2⟩, e1, ⟨f1, f2, f3, f4⟩, g1, i1, j1⟩ := h
  have hv : U.vm.Alike (U.calling g mk a).vm := Vm.Alike.refl U.vm
  exact ⟨⟨a1.moved hv, a2, a3⟩, ⟨b1.moved hv, b2.moved hv⟩, ⟨c1.moved hv, c2.moved hv⟩, ⟨d1.moved hv, d2.moved hv⟩, e1.moved hv, ⟨f1.moved hv, f2.moved hv, f3.moved hv, f4.moved hv⟩, g1.same rfl, i1.moved hv, fun w hw hn => va_Nw.same (u := U) (jm_N_tab hn) rfl (j1 w hw hn)⟩
/-- the body of a method: what holds at its entry and stays -/
def jm_C (p : Program) (s : State) (m : MethodId) (args : Array Value) (meth : Method) (c : Code) (D : va_G) (h0 : Nat) (ex : Nat → Nat) (ka : Nat → ClassId) (Ls : Nat) (xs : Nat → Int32) (M : jm_M) (n0 : Nat) : Prop :=
  p.tables.exec = Jvm.exec ∧ c.code = jm_b M ∧ c.maxLocals = jm_mx M ∧ s.vm.findClass (jm_y M).cls = some m.cls ∧ (∀ w ∈ jm_tbl, w.before args s = true) ∧ meth.sig.returnType = jm_rt M ∧ meth.locks = false ∧ meth.name = (jm_y M).name ∧ va_K D vwCl (jm_tys ka) s ∧ s.heap.size = h0 + n0 ∧ jm_X h0 ex Ls xs s
def jm_W (p : Program) (l : Launch) (e : Env) (R : Room) (s : State) (m : MethodId) (args : Array Value) (below : List Frame) (meth : Method) (c : Code) (D : va_G) (h0 : Nat) (ex : Nat → Nat) (ka : Nat → ClassId) (M : jm_M) (n0 : Nat) (Q : State → Prop) (st : jm_St) : Prop :=
  jm_len st.2.2.2.1 = n0 + st.2.2.2.2.1 → ∀ (H : Heap) (locs : List Loc) (ls : Array Slot), jm_R D h0 ex ka st.2.2.2.1 H → va_S (fun q => h0 ≤ q) s.heap H locs → jm_L h0 ex ls (jm_mx M) st.2.1 →
    W p l e R s m args below meth c H locs st.2.2.2.2.1 st.2.2.2.2.2 Q (F0 m st.1 ls (st.2.2.1.map (jm_cv h0 ex)))
end
section
/-! ===== constants, local variables, the stack, arithmetic, branches: the step, and that it is followed ===== -/
def jm_a1 (ins : Instr) (n pc : Nat) (L : List (Option Value)) (S : List Value) (G : jm_h) (q : Nat × Nat) : Option jm_St := match ins with
  | .iconst k => if n = 1 then some (pc + 1, L, .int (Int32.ofInt k) :: S, G, q) else none
  | .bipush k => if n = 2 then some (pc + 2, L, .int (Int8.ofInt k).toInt32 :: S, G, q) else none
  | .sipush k => if n = 3 then some (pc + 3, L, .int (Int16.ofInt k).toInt32 :: S, G, q) else none
  | .lconst k => if n = 1 then some (pc + 1, L, .long (Int64.ofNat (k : Nat)) :: S, G, q) else none
  | .iload_n k => if n = 1 then (match jm_ld L (k : Nat) with
    | some (.int x) => some (pc + 1, L, .int x :: S, G, q)
    | _ => none) else none
  | .iload k => if n = 2 then (match jm_ld L k with
    | some (.int x) => some (pc + 2, L, .int x :: S, G, q)
    | _ => none) else none
  | .lload_n k => if n = 1 then (match jm_ld L (k : Nat) with
    | some (.long x) => some (pc + 1, L, .long x :: S, G, q)
    | _ => none) else none
  | .lload k => if n = 2 then (match jm_ld L k with
    | some (.long x) => some (pc + 2, L, .long x :: S, G, q)
    | _ => none) else none
  | .aload_n k => if n = 1 then (match jm_ld L (k : Nat) with
    | some (.ref x) => if x = 6 then none else some (pc + 1, L, .ref x :: S, G, q)
    | _ => none) else none
  | .aload k => if n = 2 then (match jm_ld L k with
    | some (.ref x) => if x = 6 then none else some (pc + 2, L, .ref x :: S, G, q)
    | _ => none) else none
  | _ => none
def jm_a2 (mx : Nat) (ins : Instr) (n pc : Nat) (L : List (Option Value)) (S : List Value) (G : jm_h) (q : Nat × Nat) : Option jm_St := match ins with
  | .istore_n k => if n = 1 ∧ (k : Nat) < mx then (match S with
    | .int x :: r => some (pc + 1, jm_st1 L (k : Nat) (.int x), r, G, q)
    | _ => none) else none
  | .istore k => if n = 2 ∧ k < mx then (match S with
    | .int x :: r => some (pc + 2, jm_st1 L k (.int x), r, G, q)
    | _ => none) else none
  | .lstore_n k => if n = 1 ∧ (k : Nat) + 1 < mx then (match S with
    | .long x :: r => some (pc + 1, jm_st2 L (k : Nat) (.long x), r, G, q)
    | _ => none) else none
  | .lstore k => if n = 2 ∧ k + 1 < mx then (match S with
    | .long x :: r => some (pc + 2, jm_st2 L k (.long x), r, G, q)
    | _ => none) else none
  | .astore_n k => if n = 1 ∧ (k : Nat) < mx then (match S with
    | .ref x :: r => if x = 6 then none else some (pc + 1, jm_st1 L (k : Nat) (.ref x), r, G, q)
    | _ => none) else none
  | .astore k => if n = 2 ∧ k < mx then (match S with
    | .ref x :: r => if x = 6 then none else some (pc + 2, jm_st1 L k (.ref x), r, G, q)
    | _ => none) else none
  | .iinc k d => if n = 3 ∧ k < mx then (match jm_ld L k with
    | some (.int x) => some (pc + 3, jm_st1 L k (.int (x + Int32.ofInt d)), S, G, q)
    | _ => none) else none
  | .dup => if n = 1 then (match S with
    | .int x :: r => some (pc + 1, L, .int x :: .int x :: r, G, q)
    | .ref x :: r => some (pc + 1, L, .ref x :: .ref x :: r, G, q)
    | _ => none) else none
  | .pop => if n = 1 then (match S with
    | .int x :: r => some (pc + 1, L, r, G, q)
    | .ref x :: r => some (pc + 1, L, r, G, q)
    | _ => none) else none
  | .dup2 => if n = 1 then (match S with
    | .int x :: .ref y :: r => some (pc + 1, L, .int x :: .ref y :: .int x :: .ref y :: r, G, q)
    | _ => none) else none
  | _ => none
def jm_b1 (ins : Instr) (n pc : Nat) (L : List (Option Value)) (S : List Value) (G : jm_h) (q : Nat × Nat) : Option jm_St := if n = 1 then (match ins with
  | .iadd => (match S with
    | .int y :: .int x :: r => some (pc + 1, L, .int (x + y) :: r, G, q)
    | _ => none)
  | .isub => (match S with
    | .int y :: .int x :: r => some (pc + 1, L, .int (x - y) :: r, G, q)
    | _ => none)
  | .imul => (match S with
    | .int y :: .int x :: r => some (pc + 1, L, .int (x * y) :: r, G, q)
    | _ => none)
  | .iand => (match S with
    | .int y :: .int x :: r => some (pc + 1, L, .int (x &&& y) :: r, G, q)
    | _ => none)
  | .ior => (match S with
    | .int y :: .int x :: r => some (pc + 1, L, .int (x ||| y) :: r, G, q)
    | _ => none)
  | .ixor => (match S with
    | .int y :: .int x :: r => some (pc + 1, L, .int (x ^^^ y) :: r, G, q)
    | _ => none)
  | .ishl => (match S with
    | .int y :: .int x :: r => some (pc + 1, L, .int (x <<< (y &&& 31)) :: r, G, q)
    | _ => none)
  | .ishr => (match S with
    | .int y :: .int x :: r => some (pc + 1, L, .int (x >>> (y &&& 31)) :: r, G, q)
    | _ => none)
  | .iushr => (match S with
    | .int y :: .int x :: r => some (pc + 1, L, .int ((x.toUInt32 >>> (y.toUInt32 &&& Int32.toUInt32 31)).toInt32) :: r, G, q)
    | _ => none)
  | .idiv => (match S with
    | .int y :: .int x :: r => if y = 0 then none else some (pc + 1, L, .int (x / y) :: r, G, q)
    | _ => none)
  | .irem => (match S with
    | .int y :: .int x :: r => if y = 0 then none else some (pc + 1, L, .int (x - x / y * y) :: r, G, q)
    | _ => none)
  | .ineg => (match S with
    | .int x :: r => some (pc + 1, L, .int (0 - x) :: r, G, q)
    | _ => none)
  | _ => none) else none
def jm_b2 (ins : Instr) (n pc : Nat) (L : List (Option Value)) (S : List Value) (G : jm_h) (q : Nat × Nat) : Option jm_St := if n = 1 then (match ins with
  | .ladd => (match S with
    | .long y :: .long x :: r => some (pc + 1, L, .long (x + y) :: r, G, q)
    | _ => none)
  | .lsub => (match S with
    | .long y :: .long x :: r => some (pc + 1, L, .long (x - y) :: r, G, q)
    | _ => none)
  | .lmul => (match S with
    | .long y :: .long x :: r => some (pc + 1, L, .long (x * y) :: r, G, q)
    | _ => none)
  | .ldiv => (match S with
    | .long y :: .long x :: r => if y = 0 then none else some (pc + 1, L, .long (x / y) :: r, G, q)
    | _ => none)
  | .lrem => (match S with
    | .long y :: .long x :: r => if y = 0 then none else some (pc + 1, L, .long (x - x / y * y) :: r, G, q)
    | _ => none)
  | .lcmp => (match S with
    | .long y :: .long x :: r => some (pc + 1, L, .int (lg_cmp x y) :: r, G, q)
    | _ => none)
  | .i2l => (match S with
    | .int x :: r => some (pc + 1, L, .long x.toInt64 :: r, G, q)
    | _ => none)
  | .l2i => (match S with
    | .long x :: r => some (pc + 1, L, .int x.toInt32 :: r, G, q)
    | _ => none)
  | .i2b => (match S with
    | .int x :: r => some (pc + 1, L, .int x.toInt8.toInt32 :: r, G, q)
    | _ => none)
  | .i2c => (match S with
    | .int x :: r => some (pc + 1, L, .int (x.toUInt32 % 65536).toInt32 :: r, G, q)
    | _ => none)
  | _ => none) else none
def jm_tg (pc : Nat) (off : Int) : Option Nat := if 0 ≤ (pc : Int) + off then some ((pc : Int) + off).toNat else none
theorem jm_tg_ok {pc t : Nat} {off : Int} (h : jm_tg pc off = some t) : (pc : Int) + off = (t : Int) := by
  unfold jm_tg at h
  split at h
  · cases h; omega
  · cases h
def jm_c1 (ins : Instr) (n pc : Nat) (L : List (Option Value)) (S : List Value) (G : jm_h) (q : Nat × Nat) : Option jm_St := match ins with
  | .ifCond k off => if n = 3 then (match S, jm_tg pc off with
    | .int x :: r, some t => (match k with
      | .eq => some (if x = 0 then t else pc + 3, L, r, G, q)
      | .ne => some (if x = 0 then pc + 3 else t, L, r, G, q)
      | .lt => some (if x < 0 then t else pc + 3, L, r, G, q)
      | .ge => some (if 0 ≤ x then t else pc + 3, L, r, G, q)
      | .gt => some (if 0 < x then t else pc + 3, L, r, G, q)
      | .le => some (if x ≤ 0 then t else pc + 3, L, r, G, q))
    | _, _ => none) else none
  | .if_icmp k off => if n = 3 then (match S, jm_tg pc off with
    | .int y :: .int x :: r, some t => (match k with
      | .eq => some (if x = y then t else pc + 3, L, r, G, q)
      | .ne => some (if x = y then pc + 3 else t, L, r, G, q)
      | .lt => some (if x < y then t else pc + 3, L, r, G, q)
      | .ge => some (if y ≤ x then t else pc + 3, L, r, G, q)
      | .gt => some (if y < x then t else pc + 3, L, r, G, q)
      | .le => some (if x ≤ y then t else pc + 3, L, r, G, q))
    | _, _ => none) else none
  | .goto off => if n = 3 then (match jm_tg pc off with
    | some t => some (t, L, S, G, q)
    | none => none) else none
  | .tableswitch dflt lo hi offs => (match S with
    | .int x :: r => if x.toInt < lo ∨ hi < x.toInt then (match jm_tg pc dflt with
        | some t => some (t, L, r, G, q)
        | none => none)
      else (match offs[(x.toInt - lo).toNat]? with
        | some off => (match jm_tg pc off with
          | some t => some (t, L, r, G, q)
          | none => none)
        | none => none)
    | _ => none)
  | _ => none
theorem jm_ld_at {L : List (Option Value)} {i : Nat} {v : Value} (hi : jm_ld L i = some v) : L[i]? = some (some v) := by
  unfold jm_ld at hi
  cases hq : L[i]? with
  | none => rw [hq] at hi; cases hi
  | some o => rw [hq] at hi; simp at hi; rw [hi]
section JM4
variable {p : Program} {l : Launch} {e : Env} {R : Room} {s : State} {m : MethodId} {args : Array Value} {below : List Frame} {meth : Method} {c : Code} {D : va_G} {h0 : Nat} {ex : Nat → Nat} {ka : Nat → ClassId} {Ls : Nat} {xs : Nat → Int32} {M : jm_M} {n0 : Nat} {Q : State → Prop} {ins : Instr} {n pc : Nat} {L : List (Option Value)} {S : List Value} {G : jm_h} {cn sn : Nat} {st : jm_St}
set_option maxHeartbeats 4000000 in
theorem jm_a1_ok (C0 : jm_C p s m args meth c D h0 ex ka Ls xs M n0) (hd : decode (jm_b M) pc = .ok (ins, n)) (h : jm_a1 ins n pc L S G (cn, sn) = some st) (k : jm_W p l e R s m args below meth c D h0 ex ka M n0 Q st) : jm_W p l e R s m args below meth c D h0 ex ka M n0 Q (pc, L, S, G, cn, sn) := by
  obtain ⟨hx, hb, -⟩ := C0
  intro hlen H locs ls hR hS hl
  unfold jm_a1 at h
  split at h
  · split at h
    · rename_i hn
      subst hn
      cases h
      exact lv_iconst hx hb hd rfl (k hlen H locs ls hR hS hl)
    · cases h
  · split at h
    · rename_i hn
      subst hn
      cases h
      exact lv_bipush hx hb hd rfl (k hlen H locs ls hR hS hl)
    · cases h
  · split at h
    · rename_i hn
      subst hn
      cases h
      exact lv_sipush hx hb hd rfl (k hlen H locs ls hR hS hl)
    · cases h
  · split at h
    · rename_i hn
      subst hn
      cases h
      exact lv_lconst hx hb hd rfl (k hlen H locs ls hR hS hl)
    · cases h
  · split at h
    · rename_i hn
      subst hn
      split at h
      · rename_i x hv
        cases h
        exact lv_iload_n hx hb hd rfl (jm_L_at hl hv) (k hlen H locs ls hR hS hl)
      · cases h
    · cases h
  · split at h
    · rename_i hn
      subst hn
      split at h
      · rename_i x hv
        cases h
        exact lv_iload hx hb hd (jm_L_at hl hv) (k hlen H locs ls hR hS hl)
      · cases h
    · cases h
  · split at h
    · rename_i hn
      subst hn
      split at h
      · rename_i x hv
        cases h
        exact lv_lload_n hx hb hd rfl (jm_L_at hl hv) (k hlen H locs ls hR hS hl)
      · cases h
    · cases h
  · split at h
    · rename_i hn
      subst hn
      split at h
      · rename_i x hv
        cases h
        exact lv_lload hx hb hd (jm_L_at hl hv) (k hlen H locs ls hR hS hl)
      · cases h
    · cases h
  · split at h
    · rename_i hn
      subst hn
      split at h
      · rename_i x hv
        split at h
        · cases h
        · rename_i h6
          cases h
          exact lv_aload_n hx hb hd rfl ((jm_L_at hl hv).trans (by rw [jm_cvr h6])) (W.eq (by simp only [List.map_cons, jm_cvr h6]) (k hlen H locs ls hR hS hl))
      · cases h
    · cases h
  · split at h
    · rename_i hn
      subst hn
      split at h
      · rename_i x hv
        split at h
        · cases h
        · rename_i h6
          cases h
          exact lv_aload hx hb hd ((jm_L_at hl hv).trans (by rw [jm_cvr h6])) (W.eq (by simp only [List.map_cons, jm_cvr h6]) (k hlen H locs ls hR hS hl))
      · cases h
    · cases h
  · cases h
set_option maxHeartbeats 4000000 in
theorem jm_a2_ok (C0 : jm_C p s m args meth c D h0 ex ka Ls xs M n0) (hd : decode (jm_b M) pc = .ok (ins, n)) (h : jm_a2 (jm_mx M) ins n pc L S G (cn, sn) = some st) (k : jm_W p l e R s m args below meth c D h0 ex ka M n0 Q st) : jm_W p l e R s m args below meth c D h0 ex ka M n0 Q (pc, L, S, G, cn, sn) := by
  obtain ⟨hx, hb, -⟩ := C0
  intro hlen H locs ls hR hS hl
  unfold jm_a2 at h
  split at h
  · split at h
    · rename_i hn
      obtain ⟨hn, hm⟩ := hn
      subst hn
      split at h
      · cases h
        exact lv_istore_n hx hb hd rfl hl hm rfl (fun ls' hl' => k hlen H locs ls' hR hS (jm_L_st1 hl'))
      · cases h
    · cases h
  · split at h
    · rename_i hn
      obtain ⟨hn, hm⟩ := hn
      subst hn
      split at h
      · cases h
        exact lv_istore hx hb hd hl hm rfl (fun ls' hl' => k hlen H locs ls' hR hS (jm_L_st1 hl'))
      · cases h
    · cases h
  · split at h
    · rename_i hn
      obtain ⟨hn, hm⟩ := hn
      subst hn
      split at h
      · cases h
        exact lv_lstore_n hx hb hd rfl hl hm rfl (fun ls' hl' => k hlen H locs ls' hR hS (jm_L_st2 hl'))
      · cases h
    · cases h
  · split at h
    · rename_i hn
      obtain ⟨hn, hm⟩ := hn
      subst hn
      split at h
      · cases h
        exact lv_lstore hx hb hd hl hm rfl (fun ls' hl' => k hlen H locs ls' hR hS (jm_L_st2 hl'))
      · cases h
    · cases h
  · split at h
    · rename_i hn
      obtain ⟨hn, hm⟩ := hn
      subst hn
      split at h
      · split at h
        · cases h
        · rename_i h6
          cases h
          simp only [List.map_cons, jm_cvr h6]
          exact lv_astore_n hx hb hd rfl hl hm rfl (fun ls' hl' => k hlen H locs ls' hR hS (jm_L_st1 (by rw [jm_cvr h6]; exact hl')))
      · cases h
    · cases h
  · split at h
    · rename_i hn
      obtain ⟨hn, hm⟩ := hn
      subst hn
      split at h
      · split at h
        · cases h
        · rename_i h6
          cases h
          simp only [List.map_cons, jm_cvr h6]
          exact lv_astore hx hb hd hl hm rfl (fun ls' hl' => k hlen H locs ls' hR hS (jm_L_st1 (by rw [jm_cvr h6]; exact hl')))
      · cases h
    · cases h
  · split at h
    · rename_i hn
      obtain ⟨hn, hm⟩ := hn
      subst hn
      split at h
      · rename_i x hv
        cases h
        have h1 : ∃ j : Nat, (jm_lv h0 ex 0 L)[j]? = some (_, .int x) := List.getElem?_of_mem (jm_lv_mem.mpr ⟨_, .int x, jm_ld_at hv, by rw [Nat.zero_add]; rfl⟩)
        obtain ⟨j, h1⟩ := h1
        exact lv_iinc hx hb hd hl h1 rfl hm rfl (fun ls' hl' => k hlen H locs ls' hR hS (jm_L_st1 hl'))
      · cases h
    · cases h
  · split at h
    · rename_i hn
      subst hn
      split at h
      · cases h
        exact lv_dup hx hb hd (by rw [jm_cv_cat]; rfl) (k hlen H locs ls hR hS hl)
      · cases h
        exact lv_dup hx hb hd (by rw [jm_cv_cat]; rfl) (k hlen H locs ls hR hS hl)
      · cases h
    · cases h
  · split at h
    · rename_i hn
      subst hn
      split at h
      · cases h
        exact lv_pop hx hb hd (by rw [jm_cv_cat]; rfl) (k hlen H locs ls hR hS hl)
      · cases h
        exact lv_pop hx hb hd (by rw [jm_cv_cat]; rfl) (k hlen H locs ls hR hS hl)
      · cases h
    · cases h
  · split at h
    · rename_i hn
      subst hn
      split at h
      · cases h
        exact lv_dup2_11 hx hb hd (by rw [jm_cv_cat]; rfl) (by rw [jm_cv_cat]; rfl) (k hlen H locs ls hR hS hl)
      · cases h
    · cases h
  · cases h
set_option maxHeartbeats 4000000 in
theorem jm_b1_ok (C0 : jm_C p s m args meth c D h0 ex ka Ls xs M n0) (hd : decode (jm_b M) pc = .ok (ins, n)) (h : jm_b1 ins n pc L S G (cn, sn) = some st) (k : jm_W p l e R s m args below meth c D h0 ex ka M n0 Q st) : jm_W p l e R s m args below meth c D h0 ex ka M n0 Q (pc, L, S, G, cn, sn) := by
  obtain ⟨hx, hb, -⟩ := C0
  intro hlen H locs ls hR hS hl
  unfold jm_b1 at h
  split at h
  · rename_i hn
    subst hn
    split at h
    · split at h
      · cases h
        exact lv_iadd hx hb hd (k hlen H locs ls hR hS hl)
      · cases h
    · split at h
      · cases h
        exact lv_isub hx hb hd (k hlen H locs ls hR hS hl)
      · cases h
    · split at h
      · cases h
        exact lv_imul hx hb hd (k hlen H locs ls hR hS hl)
      · cases h
    · split at h
      · cases h
        exact lv_iand hx hb hd (k hlen H locs ls hR hS hl)
      · cases h
    · split at h
      · cases h
        exact lv_ior hx hb hd (k hlen H locs ls hR hS hl)
      · cases h
    · split at h
      · cases h
        exact lv_ixor hx hb hd (k hlen H locs ls hR hS hl)
      · cases h
    · split at h
      · cases h
        exact lv_ishl hx hb hd (k hlen H locs ls hR hS hl)
      · cases h
    · split at h
      · cases h
        exact lv_ishr hx hb hd (k hlen H locs ls hR hS hl)
      · cases h
    · split at h
      · cases h
        exact lv_iushr hx hb hd rfl (k hlen H locs ls hR hS hl)
      · cases h
    · split at h
      · split at h
        · cases h
        · rename_i hne
          cases h
          exact lv_idiv hx hb hd hne (k hlen H locs ls hR hS hl)
      · cases h
    · split at h
      · split at h
        · cases h
        · rename_i hne
          cases h
          exact lv_irem hx hb hd hne (k hlen H locs ls hR hS hl)
      · cases h
    · split at h
      · cases h
        exact lv_ineg hx hb hd (k hlen H locs ls hR hS hl)
      · cases h
    · cases h
  · cases h
set_option maxHeartbeats 4000000 in
theorem jm_b2_ok (C0 : jm_C p s m args meth c D h0 ex ka Ls xs M n0) (hd : decode (jm_b M) pc = .ok (ins, n)) (h : jm_b2 ins n pc L S G (cn, sn) = some st) (k : jm_W p l e R s m args below meth c D h0 ex ka M n0 Q st) : jm_W p l e R s m args below meth c D h0 ex ka M n0 Q (pc, L, S, G, cn, sn) := by
  obtain ⟨hx, hb, -⟩ := C0
  intro hlen H locs ls hR hS hl
  unfold jm_b2 at h
  split at h
  · rename_i hn
    subst hn
    split at h
    · split at h
      · cases h
        exact lv_ladd hx hb hd (k hlen H locs ls hR hS hl)
      · cases h
    · split at h
      · cases h
        exact lv_lsub hx hb hd (k hlen H locs ls hR hS hl)
      · cases h
    · split at h
      · cases h
        exact lv_lmul hx hb hd (k hlen H locs ls hR hS hl)
      · cases h
    · split at h
      · split at h
        · cases h
        · rename_i hne
          cases h
          exact lv_ldiv hx hb hd hne (k hlen H locs ls hR hS hl)
      · cases h
    · split at h
      · split at h
        · cases h
        · rename_i hne
          cases h
          exact lv_lrem hx hb hd hne (k hlen H locs ls hR hS hl)
      · cases h
    · split at h
      · cases h
        exact W.lcmp hx hb hd (k hlen H locs ls hR hS hl)
      · cases h
    · split at h
      · cases h
        exact lv_i2l hx hb hd rfl (k hlen H locs ls hR hS hl)
      · cases h
    · split at h
      · cases h
        exact lv_l2i hx hb hd rfl (k hlen H locs ls hR hS hl)
      · cases h
    · split at h
      · cases h
        exact lv_i2b hx hb hd rfl (k hlen H locs ls hR hS hl)
      · cases h
    · split at h
      · cases h
        exact lv_i2c hx hb hd rfl (k hlen H locs ls hR hS hl)
      · cases h
    · cases h
  · cases h
set_option maxHeartbeats 4000000 in
theorem jm_c1_ok (C0 : jm_C p s m args meth c D h0 ex ka Ls xs M n0) (hd : decode (jm_b M) pc = .ok (ins, n)) (h : jm_c1 ins n pc L S G (cn, sn) = some st) (k : jm_W p l e R s m args below meth c D h0 ex ka M n0 Q st) : jm_W p l e R s m args below meth c D h0 ex ka M n0 Q (pc, L, S, G, cn, sn) := by
  obtain ⟨hx, hb, -⟩ := C0
  intro hlen H locs ls hR hS hl
  unfold jm_c1 at h
  split at h
  · split at h
    · rename_i hn
      subst hn
      split at h
      · rename_i ht
        have ht := jm_tg_ok ht
        split at h
        · cases h
          refine lv_if_eq hx hb hd ht (fun c1 => ?_) (fun c1 => ?_)
          · exact W.eq (by simp only [if_pos c1]) (k hlen H locs ls hR hS hl)
          · exact W.eq (by simp only [if_neg c1]) (k hlen H locs ls hR hS hl)
        · cases h
          refine lv_if_ne hx hb hd ht (fun c1 => ?_) (fun c1 => ?_)
          · exact W.eq (by simp only [if_neg c1]) (k hlen H locs ls hR hS hl)
          · exact W.eq (by simp only [if_pos c1]) (k hlen H locs ls hR hS hl)
        · cases h
          refine lv_if_lt hx hb hd ht (fun c1 => ?_) (fun c1 => ?_)
          · exact W.eq (by simp only [if_pos c1]) (k hlen H locs ls hR hS hl)
          · exact W.eq (by simp only [if_neg c1]) (k hlen H locs ls hR hS hl)
        · cases h
          refine lv_if_ge hx hb hd ht (fun c1 => ?_) (fun c1 => ?_)
          · exact W.eq (by simp only [if_pos c1]) (k hlen H locs ls hR hS hl)
          · exact W.eq (by simp only [if_neg c1]) (k hlen H locs ls hR hS hl)
        · cases h
          refine lv_if_gt hx hb hd ht (fun c1 => ?_) (fun c1 => ?_)
          · exact W.eq (by simp only [if_pos c1]) (k hlen H locs ls hR hS hl)
          · exact W.eq (by simp only [if_neg c1]) (k hlen H locs ls hR hS hl)
        · cases h
          refine lv_if_le hx hb hd ht (fun c1 => ?_) (fun c1 => ?_)
          · exact W.eq (by simp only [if_pos c1]) (k hlen H locs ls hR hS hl)
          · exact W.eq (by simp only [if_neg c1]) (k hlen H locs ls hR hS hl)
      · cases h
    · cases h
  · split at h
    · rename_i hn
      subst hn
      split at h
      · rename_i ht
        have ht := jm_tg_ok ht
        split at h
        · cases h
          refine lv_icmp_eq hx hb hd ht (fun c1 => ?_) (fun c1 => ?_)
          · exact W.eq (by simp only [if_pos c1]) (k hlen H locs ls hR hS hl)
          · exact W.eq (by simp only [if_neg c1]) (k hlen H locs ls hR hS hl)
        · cases h
          refine lv_icmp_ne hx hb hd ht (fun c1 => ?_) (fun c1 => ?_)
          · exact W.eq (by simp only [if_neg c1]) (k hlen H locs ls hR hS hl)
          · exact W.eq (by simp only [if_pos c1]) (k hlen H locs ls hR hS hl)
        · cases h
          refine lv_icmp_lt hx hb hd ht (fun c1 => ?_) (fun c1 => ?_)
          · exact W.eq (by simp only [if_pos c1]) (k hlen H locs ls hR hS hl)
          · exact W.eq (by simp only [if_neg c1]) (k hlen H locs ls hR hS hl)
        · cases h
          refine lv_icmp_ge hx hb hd ht (fun c1 => ?_) (fun c1 => ?_)
          · exact W.eq (by simp only [if_pos c1]) (k hlen H locs ls hR hS hl)
          · exact W.eq (by simp only [if_neg c1]) (k hlen H locs ls hR hS hl)
        · cases h
          refine lv_icmp_gt hx hb hd ht (fun c1 => ?_) (fun c1 => ?_)
          · exact W.eq (by simp only [if_pos c1]) (k hlen H locs ls hR hS hl)
          · exact W.eq (by simp only [if_neg c1]) (k hlen H locs ls hR hS hl)
        · cases h
          refine lv_icmp_le hx hb hd ht (fun c1 => ?_) (fun c1 => ?_)
          · exact W.eq (by simp only [if_pos c1]) (k hlen H locs ls hR hS hl)
          · exact W.eq (by simp only [if_neg c1]) (k hlen H locs ls hR hS hl)
      · cases h
    · cases h
  · split at h
    · rename_i hn
      subst hn
      split at h
      · rename_i ht
        cases h
        exact lv_goto hx hb hd (jm_tg_ok ht) (k hlen H locs ls hR hS hl)
      · cases h
    · cases h
  · split at h
    · split at h
      · rename_i hc
        split at h
        · rename_i ht
          cases h
          exact lv_tableOut hx hb hd hc (jm_tg_ok ht) (k hlen H locs ls hR hS hl)
        · cases h
      · rename_i hc
        split at h
        · rename_i ho
          split at h
          · rename_i ht
            cases h
            exact lv_tableIn hx hb hd (fun q => hc (Or.inl q)) (fun q => hc (Or.inr q)) ho (jm_tg_ok ht) (k hlen H locs ls hR hS hl)
          · cases h
        · cases h
    · cases h
  · cases h
end JM4
end
section
/-! ===== the heap: fields, arrays, what is made, constants: the step, and that it is followed ===== -/
def jm_tyt : List (Nat → FieldType) := [tyX0, tyX1, tyX2, tyX3, tyX4, tyX5, tyX6, tyX7, tyX8, tyX9, tyX10]
/-- of each class of the world: its words are in the tables, its fields' types, its names are apart -/
theorem jm_cls {ci N : Nat} {C : String} {T : u_T} (h : vwCl[ci]? = some (C, T, N)) : (∀ w ∈ u_ws C T N, w ∈ jm_tbl) ∧ ∃ ty, jm_tyt[ci]? = some ty ∧ (∀ k, k < N → parseFieldDescriptor (T k).2.2.1 = some (ty k)) ∧ ∀ a, a < N → ∀ b, b < N → a ≠ b → (T a).2.1 ≠ (T b).2.1 := by
  match ci, h with
  | 0, h => cases h; exact ⟨wiX0, tyX0, rfl, tyX0_ok, nmX0⟩
  | 1, h => cases h; exact ⟨wiX1, tyX1, rfl, tyX1_ok, nmX1⟩
  | 2, h => cases h; exact ⟨wiX2, tyX2, rfl, tyX2_ok, nmX2⟩
  | 3, h => cases h; exact ⟨wiX3, tyX3, rfl, tyX3_ok, nmX3⟩
  | 4, h => cases h; exact ⟨wiX4, tyX4, rfl, tyX4_ok, nmX4⟩
  | 5, h => cases h; exact ⟨wiX5, tyX5, rfl, tyX5_ok, nmX5⟩
  | 6, h => cases h; exact ⟨wiX6, tyX6, rfl, tyX6_ok, nmX6⟩
  | 7, h => cases h; exact ⟨wiX7, tyX7, rfl, tyX7_ok, nmX7⟩
  | 8, h => cases h; exact ⟨wiX8, tyX8, rfl, tyX8_ok, nmX8⟩
  | 9, h => cases h; exact ⟨wiX9, tyX9, rfl, tyX9_ok, nmX9⟩
  | 10, h => cases h; exact ⟨wiX10, tyX10, rfl, tyX10_ok, nmX10⟩
  | n + 11, h => simp [vwCl] at h
def jm_df (ci : Nat) : List Value := match vwCl[ci]?, jm_tyt[ci]? with
  | some q, some ty => (List.range q.2.2).map fun k => defaultValue (ty k)
  | _, _ => []
/-- a word stands in the tables at a place -/
def jm_at (i : Nat) (w : Cond) : Bool := decide (lw_tbl[i]? = some w) && goodWord w
theorem jm_at_mem {i : Nat} {w : Cond} (h : jm_at i w = true) : w ∈ jm_tbl := by
  unfold jm_at at h
  rw [Bool.and_eq_true] at h
  exact jm_tbl_mem (List.mem_of_getElem? (of_decide_eq_true h.1)) h.2
def jm_atn (i : Nat) (w : Cond) : Bool := decide (lw_tbl[i]? = some w) && jm_isN w
theorem jm_atn_use {i : Nat} {w : Cond} {args : Array Value} {s : State} (h : jm_atn i w = true) (hN : ∀ w ∈ lw_tbl, jm_isN w = true → va_Nw w s) : w.before args s = true := by
  unfold jm_atn at h
  rw [Bool.and_eq_true] at h
  exact va_Nw.use (jm_N_tab h.2) (hN w (List.mem_of_getElem? (of_decide_eq_true h.1)) h.2)
/-- type codes of fields: 0 int, 1 boolean, 2 long, 3 a reference -/
def jm_tc (ty : FieldType) : Nat := match ty with
  | .int => 0
  | .boolean => 1
  | .long => 2
  | .object _ => 3
  | .array _ => 3
  | _ => 9
def jm_sn (a : Nat) : String := if a = 0 then "LEAST" else if a = 1 then "MOST" else "TOLD_VARS"
/-- an instruction's row holds: it is decoded there, and what it links is a word of the tables -/
def jm_ck (YN : List MethodName) (M : jm_M) (pc : Nat) (e : jm_I) : Bool :=
  (match decode (jm_b M) pc with
    | .ok q => decide (q.1 = e.1) && decide (q.2 = e.2.1)
    | .error _ => false) && (match e.1 with
    | .getfield i => if e.2.2.1 = 100 then (if e.2.2.2.1 = 0 then jm_at e.2.2.2.2 (.fieldLink (jm_y M).cls i "java/lang/String" "coder" "B") else jm_at e.2.2.2.2 (.fieldLink (jm_y M).cls i "java/lang/String" "value" "[B"))
      else (match vwCl[e.2.2.1]? with
        | some q => decide (e.2.2.2.1 < q.2.2) && jm_at e.2.2.2.2 (.fieldLink (jm_y M).cls i (q.2.1 e.2.2.2.1).1 (q.2.1 e.2.2.2.1).2.1 (q.2.1 e.2.2.2.1).2.2.1)
        | none => false)
    | .putfield i => (match vwCl[e.2.2.1]?, jm_tyt[e.2.2.1]? with
        | some q, some ty => decide (e.2.2.2.1 % 1000 < q.2.2) && decide (jm_tc (ty (e.2.2.2.1 % 1000)) = e.2.2.2.1 / 1000 % 10) && (if e.2.2.2.1 / 10000 = 0 then !(q.2.1 (e.2.2.2.1 % 1000)).2.2.2 else (q.2.1 (e.2.2.2.1 % 1000)).2.2.2 && decide ((jm_y M).name = "<init>") && decide ((q.2.1 (e.2.2.2.1 % 1000)).1 = (jm_y M).cls))
          && jm_at e.2.2.2.2 (.fieldLink (jm_y M).cls i (q.2.1 (e.2.2.2.1 % 1000)).1 (q.2.1 (e.2.2.2.1 % 1000)).2.1 (q.2.1 (e.2.2.2.1 % 1000)).2.2.1)
        | _, _ => false)
    | .getstatic i => if e.2.2.1 = 3 then jm_at e.2.2.2.2 (.fieldLink (jm_y M).cls i "java/lang/String" "COMPACT_STRINGS" "Z") else (if e.2.2.1 = 4 then jm_at e.2.2.2.2 (.fieldLink (jm_y M).cls i "jdk/internal/util/Preconditions" "SIOOBE_FORMATTER" "Ljava/util/function/BiFunction;") else jm_atn e.2.2.2.2 (.fieldLinkNest (jm_y M).cls i "FallMarket" (jm_sn e.2.2.1) "[I" "FallMarket"))
    | .new i => (match vwCl[e.2.2.1]? with
        | some q => jm_at e.2.2.2.2 (.classLink (jm_y M).cls i q.1)
        | none => false)
    | .ldc i => if e.2.2.2.1 = 0 then jm_at e.2.2.2.2 (.constant (jm_y M).cls i (Int32.ofNat e.2.2.1)) else decide ((jm_y M).cls = "FallMarket$Tokens") && decide (i = 25)
    | .ldc_w i => jm_at e.2.2.2.2 (.constant (jm_y M).cls i (Int32.ofNat e.2.2.1))
    | .ldc2_w i => jm_at e.2.2.2.2 (.constantLong (jm_y M).cls i (Int64.ofNat e.2.2.1))
    | .invokevirtual i => (match YN[e.2.2.1]? with
        | some y => (if e.2.2.2.1 = 1 then jm_atn e.2.2.2.2 (.methodLinkNest (jm_y M).cls i y "FallMarket") else jm_at e.2.2.2.2 (.methodLink (jm_y M).cls i y))
        | none => false)
    | .invokestatic i => if e.2.2.2.1 = 2 then jm_at e.2.2.2.2 (.methodLink (jm_y M).cls i arraycopyName) else (match YN[e.2.2.1]? with
        | some y => (if e.2.2.2.1 = 1 then jm_atn e.2.2.2.2 (.methodLinkNest (jm_y M).cls i y "FallMarket") else jm_at e.2.2.2.2 (.methodLink (jm_y M).cls i y))
        | none => false)
    | .invokespecial i => if e.2.2.2.1 = 2 then jm_at e.2.2.2.2 (.methodLink (jm_y M).cls i objectInit) else (match YN[e.2.2.1]? with
        | some y => (if e.2.2.2.1 = 1 then jm_atn e.2.2.2.2 (.methodLinkNest (jm_y M).cls i y "FallMarket") else jm_at e.2.2.2.2 (.methodLink (jm_y M).cls i y))
        | none => false)
    | _ => true)
theorem jm_ck_dec {YN : List MethodName} {M : jm_M} {pc : Nat} {e : jm_I} (h : jm_ck YN M pc e = true) : decode (jm_b M) pc = .ok (e.1, e.2.1) := by
  unfold jm_ck at h
  rw [Bool.and_eq_true] at h
  obtain ⟨h1, -⟩ := h
  split at h1
  · rename_i q hq
    rw [Bool.and_eq_true] at h1
    rw [hq, ← of_decide_eq_true h1.1, ← of_decide_eq_true h1.2]
  · cases h1
/-- a bound that is not met -/
def jm_out (i : Int32) (n : Nat) : Bool := decide (i < 0) || decide (n ≤ i.toNatClampNeg)
theorem jm_out_in {i : Int32} {n : Nat} (h : jm_out i n = false) : vp_in i n := by
  unfold jm_out at h
  rw [Bool.or_eq_false_iff] at h
  intro q
  rcases q with q | q
  · exact absurd q (of_decide_eq_false h.1)
  · exact absurd q (of_decide_eq_false h.2)
/-- a place of a list, and zeros up to it if it is shorter -/
def jm_upd : List Int32 → Nat → Int32 → List Int32
  | [], 0, x => [x]
  | [], k + 1, x => 0 :: jm_upd [] k x
  | _ :: r, 0, x => x :: r
  | a :: r, k + 1, x => a :: jm_upd r k x
def jm_updL : List Int64 → Nat → Int64 → List Int64
  | [], 0, x => [x]
  | [], k + 1, x => 0 :: jm_updL [] k x
  | _ :: r, 0, x => x :: r
  | a :: r, k + 1, x => a :: jm_updL r k x
theorem jm_upd_at : ∀ (f : List Int32) (k : Nat) (x : Int32) (j : Nat), (jm_upd f k x).getD j 0 = if j = k then x else f.getD j 0
  | [], 0, x, j => by cases j <;> simp [jm_upd]
  | [], k + 1, x, j => by
    cases j with
    | zero => simp [jm_upd]
    | succ j => have := jm_upd_at [] k x j; simp [jm_upd] at this ⊢; exact this
  | a :: r, 0, x, j => by cases j <;> simp [jm_upd]
  | a :: r, k + 1, x, j => by
    cases j with
    | zero => simp [jm_upd]
    | succ j => have := jm_upd_at r k x j; simp [jm_upd] at this ⊢; exact this
theorem jm_updL_at : ∀ (f : List Int64) (k : Nat) (x : Int64) (j : Nat), (jm_updL f k x).getD j 0 = if j = k then x else f.getD j 0
  | [], 0, x, j => by cases j <;> simp [jm_updL]
  | [], k + 1, x, j => by
    cases j with
    | zero => simp [jm_updL]
    | succ j => have := jm_updL_at [] k x j; simp [jm_updL] at this ⊢; exact this
  | a :: r, 0, x, j => by cases j <;> simp [jm_updL]
  | a :: r, k + 1, x, j => by
    cases j with
    | zero => simp [jm_updL]
    | succ j => have := jm_updL_at r k x j; simp [jm_updL] at this ⊢; exact this
theorem jm_upd_eq (f : List Int32) (k : Nat) (x : Int32) : upd (fun j => f.getD j 0) k x = fun j => (jm_upd f k x).getD j 0 := by
  funext j
  rw [jm_upd_at]
  rfl
theorem jm_updL_eq (f : List Int64) (k : Nat) (x : Int64) : vp_updL (fun j => f.getD j 0) k x = fun j => (jm_updL f k x).getD j 0 := by
  funext j
  rw [jm_updL_at]
  rfl
def jm_ak (t : ArrayType) : Nat := match t with
  | .int => 0
  | .byte => 1
  | .boolean => 2
  | .long => 3
  | _ => 9
def jm_a0 (kd n : Nat) : jm_c := .inl (kd, n, if kd = 3 then .inr [] else .inl [])
/-- a value that a field of a type may hold as it is -/
def jm_pv (tc : Nat) (v : Value) : Bool := match v with
  | .int x => decide (tc = 0) || (decide (tc = 1) && (decide (x = 0) || decide (x = 1)))
  | .long _ => decide (tc = 2)
  | .ref _ => decide (tc = 3)
  | _ => false
theorem jm_pv_ok {ty : FieldType} {v : Value} {h0 : Nat} {ex : Nat → Nat} (h : jm_pv (jm_tc ty) v = true) : narrow ty (jm_cv h0 ex v) = jm_cv h0 ex v ∧ fits ty (jm_cv h0 ex v) = true := by
  cases v with
  | int x =>
    simp only [jm_pv, Bool.or_eq_true, Bool.and_eq_true, decide_eq_true_eq] at h
    rcases h with h | ⟨h, rfl | rfl⟩
    · cases ty <;> simp [jm_tc] at h
      exact ⟨rfl, rfl⟩
    · cases ty <;> simp [jm_tc] at h
      exact ⟨rfl, rfl⟩
    · cases ty <;> simp [jm_tc] at h
      exact ⟨rfl, rfl⟩
  | long x =>
    simp only [jm_pv, decide_eq_true_eq] at h
    cases ty <;> simp [jm_tc] at h
    exact ⟨rfl, rfl⟩
  | ref x =>
    simp only [jm_pv, decide_eq_true_eq] at h
    unfold jm_cv
    dsimp only
    cases ty <;> simp [jm_tc] at h <;> split <;> exact ⟨rfl, rfl⟩
  | _ => simp [jm_pv] at h
/-- fields, statics, constants -/
def jm_d1 (e : jm_I) (pc : Nat) (L : List (Option Value)) (S : List Value) (G : jm_h) (q : Nat × Nat) : Option jm_St := match e.1 with
  | .getfield _ => if e.2.1 = 3 then (match S with
    | .ref a :: r => if e.2.2.1 = 100 then (if a = 4 then some (pc + 3, L, (if e.2.2.2.1 = 0 then .int 0 else .ref 5) :: r, G, q) else none) else (match jm_g G a with
      | some (.inr (ci, fs)) => if ci = e.2.2.1 then (match fs[e.2.2.2.1]? with
        | some v => some (pc + 3, L, v :: r, G, q)
        | none => none) else none
      | _ => none)
    | _ => none) else none
  | .putfield _ => if e.2.1 = 3 then (match S with
    | v :: .ref a :: r => (match jm_g G a with
      | some (.inr (ci, fs)) => if ci = e.2.2.1 ∧ e.2.2.2.1 % 1000 < fs.length ∧ jm_pv (e.2.2.2.1 / 1000 % 10) v = true then some (pc + 3, L, r, jm_s G a (.inr (ci, fs.set (e.2.2.2.1 % 1000) v)), q) else none
      | _ => none)
    | _ => none) else none
  | .getstatic _ => if e.2.1 = 3 then (if e.2.2.1 = 3 then some (pc + 3, L, .int 1 :: S, G, q) else if e.2.2.1 = 4 then some (pc + 3, L, .ref 6 :: S, G, q) else if e.2.2.1 < 3 then some (pc + 3, L, .ref (1 + e.2.2.1) :: S, G, q) else none) else none
  | .ldc _ => if e.2.1 = 2 then some (pc + 2, L, (if e.2.2.2.1 = 0 then .int (Int32.ofNat e.2.2.1) else .ref 4) :: S, G, q) else none
  | .ldc_w _ => if e.2.1 = 3 then some (pc + 3, L, .int (Int32.ofNat e.2.2.1) :: S, G, q) else none
  | .ldc2_w _ => if e.2.1 = 3 then some (pc + 3, L, .long (Int64.ofNat e.2.2.1) :: S, G, q) else none
  | _ => none
/-- arrays, and what is made -/
def jm_d2 (M : jm_M) (Ls : Nat) (xs : Nat → Int32) (bc bs : Nat) (e : jm_I) (pc : Nat) (L : List (Option Value)) (S : List Value) (G : jm_h) (q : Nat × Nat) : Option jm_St := match e.1 with
  | .iaload => if e.2.1 = 1 then (match S with
    | .int i :: .ref a :: r => if a < 8 then (match jm_ea Ls xs a with
        | some (kd, N, f) => if kd = 0 then (bif jm_out i N then none else some (pc + 1, L, .int (f i.toNatClampNeg) :: r, G, q)) else none
        | none => none)
      else (match jm_g G a with
        | some (.inl (kd, N, .inl f)) => if kd = 0 then (bif jm_out i N then none else some (pc + 1, L, .int (f.getD i.toNatClampNeg 0) :: r, G, q)) else none
        | _ => none)
    | _ => none) else none
  | .baload => if e.2.1 = 1 then (match S with
    | .int i :: .ref a :: r => if a < 8 then (match jm_ea Ls xs a with
        | some (kd, N, f) => if kd = 1 then (bif jm_out i N then none else some (pc + 1, L, .int (f i.toNatClampNeg) :: r, G, q)) else none
        | none => none)
      else (match jm_g G a with
        | some (.inl (kd, N, .inl f)) => if kd = 1 ∨ kd = 2 then (bif jm_out i N then none else some (pc + 1, L, .int (f.getD i.toNatClampNeg 0) :: r, G, q)) else none
        | _ => none)
    | _ => none) else none
  | .laload => if e.2.1 = 1 then (match S with
    | .int i :: .ref a :: r => (match jm_g G a with
        | some (.inl (kd, N, .inr f)) => if kd = 3 then (bif jm_out i N then none else some (pc + 1, L, .long (f.getD i.toNatClampNeg 0) :: r, G, q)) else none
        | _ => none)
    | _ => none) else none
  | .iastore => if e.2.1 = 1 then (match S with
    | .int x :: .int i :: .ref a :: r => (match jm_g G a with
        | some (.inl (kd, N, .inl f)) => if kd = 0 then (bif jm_out i N then none else some (pc + 1, L, r, jm_s G a (.inl (0, N, .inl (jm_upd f i.toNatClampNeg x))), q)) else none
        | _ => none)
    | _ => none) else none
  | .bastore => if e.2.1 = 1 then (match S with
    | .int x :: .int i :: .ref a :: r => (match jm_g G a with
        | some (.inl (kd, N, .inl f)) => if kd = 1 then (bif jm_out i N then none else some (pc + 1, L, r, jm_s G a (.inl (1, N, .inl (jm_upd f i.toNatClampNeg x.toInt8.toInt32))), q))
          else if kd = 2 then (bif jm_out i N then none else some (pc + 1, L, r, jm_s G a (.inl (2, N, .inl (jm_upd f i.toNatClampNeg (vp_nar .boolean x)))), q)) else none
        | _ => none)
    | _ => none) else none
  | .lastore => if e.2.1 = 1 then (match S with
    | .long x :: .int i :: .ref a :: r => (match jm_g G a with
        | some (.inl (kd, N, .inr f)) => if kd = 3 then (bif jm_out i N then none else some (pc + 1, L, r, jm_s G a (.inl (3, N, .inr (jm_updL f i.toNatClampNeg x))), q)) else none
        | _ => none)
    | _ => none) else none
  | .arraylength => if e.2.1 = 1 then (match S with
    | .ref a :: r => if a < 8 then (match jm_ea Ls xs a with
        | some (_, N, _) => some (pc + 1, L, .int (Int32.ofNat N) :: r, G, q)
        | none => none)
      else (match jm_g G a with
        | some (.inl (kd, N, _)) => if kd < 4 then some (pc + 1, L, .int (Int32.ofNat N) :: r, G, q) else none
        | _ => none)
    | _ => none) else none
  | .new _ => if e.2.1 = 3 then (match vwCl[e.2.2.1]? with
    | some d => if q.1 + 1 ≤ bc ∧ q.2 + d.2.2 ≤ bs then (match jm_new (if e.2.2.1 = 10 then 2 else 1) G (.inr (e.2.2.1, jm_df e.2.2.1)) with
        | some (k, G1) => some (pc + 3, L, .ref k :: S, G1, q.1 + 1, q.2 + d.2.2)
        | none => none) else none
    | none => none) else none
  | .newarray t => if e.2.1 = 2 then (match S with
    | .int n :: r => if jm_ak t < 4 ∧ ¬ n < 0 ∧ n.toNatClampNeg * 8 ≤ 536870912 ∧ q.1 + 1 ≤ bc ∧ q.2 + n.toNatClampNeg ≤ bs then (match jm_new (jm_sg M) G (jm_a0 (jm_ak t) n.toNatClampNeg) with
        | some (k, G1) => some (pc + 2, L, .ref k :: r, G1, q.1 + 1, q.2 + n.toNatClampNeg)
        | none => none) else none
    | _ => none) else none
  | _ => none
end
section
/-! ===== the heap's steps are followed ===== -/
section JM6
variable {p : Program} {l : Launch} {e : Env} {R : Room} {s : State} {m : MethodId} {args : Array Value} {below : List Frame} {meth : Method} {c : Code} {D : va_G} {h0 : Nat} {ex : Nat → Nat} {ka : Nat → ClassId} {Ls : Nat} {xs : Nat → Int32} {M : jm_M} {n0 : Nat} {Q : State → Prop} {i : jm_I} {pc : Nat} {L : List (Option Value)} {S : List Value} {G : jm_h} {cn sn : Nat} {st : jm_St} {YN : List MethodName}
theorem jm_ref {a : Nat} {d : jm_c} (h : jm_g G a = some d) : jm_cv h0 ex (.ref a) = .ref (h0 + jm_fi a) := by
  have := jm_g_ge h
  rw [jm_cvr (by omega), jm_g_ad h]
theorem jm_at_w {H : Heap} (hR : jm_R D h0 ex ka G H) {a : Nat} {d : jm_c} (h : jm_g G a = some d) : (jm_w h0 ex ka G)[jm_fi a]? = some (h0 + jm_fi a, jm_ce h0 ex ka d) := jm_w_at (jm_g_at hR.1 h)
theorem jm_R_set {H H1 : Heap} (hR : jm_R D h0 ex ka G H) {a : Nat} {d d1 : jm_c} (h : jm_g G a = some d) (h1 : va_P D vwCl ((jm_w h0 ex ka G).set (jm_fi a) (h0 + jm_fi a, jm_ce h0 ex ka d1)) H1) : jm_R D h0 ex ka (jm_s G a d1) H1 := by
  refine ⟨jm_s_ok hR.1 a d1, ?_⟩
  rw [← jm_w_set hR.1 h]
  exact h1
set_option maxHeartbeats 4000000 in
theorem jm_d1_ok (C0 : jm_C p s m args meth c D h0 ex ka Ls xs M n0) (hc : jm_ck YN M pc i = true) (h : jm_d1 i pc L S G (cn, sn) = some st) (k : jm_W p l e R s m args below meth c D h0 ex ka M n0 Q st) : jm_W p l e R s m args below meth c D h0 ex ka M n0 Q (pc, L, S, G, cn, sn) := by
  have hd := jm_ck_dec hc
  obtain ⟨hx, hb, hml, hown, hts, hrt, hlk, hnm, hK, hz, hX⟩ := C0
  obtain ⟨ins, n, la, lb, po⟩ := i
  unfold jm_ck at hc
  rw [Bool.and_eq_true] at hc
  obtain ⟨-, hc⟩ := hc
  intro hlen H locs ls hR hS hl
  unfold jm_d1 at h
  dsimp only at hd hc h
  split at h
  · split at h
    · rename_i hn
      subst hn
      split at h
      · rename_i a r
        dsimp only at hc
        split at h
        · rename_i h100
          rw [if_pos h100] at hc
          split at h
          · rename_i ha
            subst ha
            cases h
            by_cases hb0 : lb = 0
            · rw [if_pos hb0] at hc k
              exact vk_getf hx hb hX.2.2.2.2.2.1.2.1 hS hown (hts _ (jm_at_mem hc)) (fun _ h => h) hd (k hlen H locs ls hR hS hl)
            · rw [if_neg hb0] at hc k
              exact vk_getf hx hb hX.2.2.2.2.2.1.2.2.1 hS hown (hts _ (jm_at_mem hc)) (fun _ h => h) hd (k hlen H locs ls hR hS hl)
          · cases h
        · rename_i h100
          rw [if_neg h100] at hc
          split at h
          · rename_i ci fs hg
            split at h
            · rename_i hci
              subst hci
              split at h
              · rename_i v hv
                cases h
                split at hc
                · rename_i q hq
                  obtain ⟨C, T, N⟩ := q
                  rw [Bool.and_eq_true] at hc
                  obtain ⟨hk, hw⟩ := hc
                  show W p l e R s m args below meth c H locs cn sn Q (F0 m pc ls (jm_cv h0 ex (.ref a) :: r.map (jm_cv h0 ex)))
                  rw [jm_ref hg]
                  exact va_get hx hb hts (jm_cls hq).1 hown hK hR.2 (jm_fi a) (jm_at_w hR hg) hq lb (of_decide_eq_true hk) (hts _ (jm_at_mem hw)) (fun _ h => h) (by rw [List.getElem?_map, hv]; rfl) hd (k hlen H locs ls hR hS hl)
                · cases hc
              · cases h
            · cases h
          · cases h
      · cases h
    · cases h
  · split at h
    · rename_i hn
      subst hn
      split at h
      · rename_i v a r
        split at h
        · rename_i ci fs hg
          split at h
          · rename_i hcc
            obtain ⟨hci, hl1, hpv⟩ := hcc
            subst hci
            cases h
            dsimp only at hc
            split at hc
            · rename_i q ty hq hty
              obtain ⟨C, T, N⟩ := q
              simp only [Bool.and_eq_true] at hc
              obtain ⟨⟨⟨hk, htc⟩, hfin⟩, hw⟩ := hc
              have hk := of_decide_eq_true hk
              have htc := of_decide_eq_true htc
              obtain ⟨hin, ty', hty', hd1, hnames⟩ := jm_cls hq
              have : ty' = ty := Option.some.inj (hty'.symm.trans hty)
              subst this
              rw [← htc] at hpv
              obtain ⟨hn1, hf1⟩ := jm_pv_ok (h0 := h0) (ex := ex) hpv
              show W p l e R s m args below meth c H locs cn sn Q (F0 m pc ls (jm_cv h0 ex v :: jm_cv h0 ex (.ref a) :: r.map (jm_cv h0 ex)))
              rw [jm_ref hg]
              have hfs : (fs.map (jm_cv h0 ex)).set (lb % 1000) (jm_cv h0 ex v) = (fs.set (lb % 1000) v).map (jm_cv h0 ex) := List.map_set.symm
              have fin : ∀ (H1 : Heap) (locs1 : List Loc), va_P D vwCl ((jm_w h0 ex ka G).set (jm_fi a) (h0 + jm_fi a, .inr (ci, (fs.map (jm_cv h0 ex)).set (lb % 1000) (jm_cv h0 ex v)))) H1 → va_S (fun q => h0 ≤ q) s.heap H1 locs1 → W p l e R s m args below meth c H1 locs1 cn sn Q (F0 m (pc + 3) ls (r.map (jm_cv h0 ex))) := by
                intro H1 locs1 hP1 hS1
                rw [hfs] at hP1
                exact k (by rw [jm_s_len]; exact hlen) H1 locs1 ls (jm_R_set (d1 := .inr (ci, fs.set (lb % 1000) v)) hR hg hP1) hS1 hl
              by_cases h10 : lb / 10000 = 0
              · rw [if_pos h10] at hfin
                exact va_put hx hb hts hin ty' hd1 hnames hown hK hR.2 (jm_D h0 ex ka G) hS (jm_fi a) (jm_at_w hR hg) hq (lb % 1000) hk (hts _ (jm_at_mem hw)) (fun _ h => h) (by simpa using hfin) (hd1 _ hk) hn1 hf1 (by simpa using hl1) hd (fun H1 locs1 hP1 _ hS1 => fin H1 locs1 hP1 hS1)
              · rw [if_neg h10] at hfin
                simp only [Bool.and_eq_true] at hfin
                obtain ⟨⟨hf2, hini⟩, hdec⟩ := hfin
                exact va_putF hx hb hts hin ty' hd1 hnames hown hK hR.2 (jm_D h0 ex ka G) hS (jm_fi a) (jm_at_w hR hg) hq (lb % 1000) hk (hts _ (jm_at_mem hw)) (fun _ h => h) hf2 (by rw [hnm]; exact of_decide_eq_true hini) (of_decide_eq_true hdec) (hd1 _ hk) hn1 hf1 (by simpa using hl1) hd (fun H1 locs1 hP1 _ hS1 => fin H1 locs1 hP1 hS1)
            · cases hc
          · cases h
        · cases h
      · cases h
    · cases h
  · split at h
    · rename_i hn
      subst hn
      dsimp only at hc
      split at h
      · rename_i h3
        rw [if_pos h3] at hc
        cases h
        exact va_gets hx hb hX.2.2.2.2.1 hS hown (hts _ (jm_at_mem hc)) (fun _ h => h) hd (k hlen H locs ls hR hS hl)
      · rename_i h3
        rw [if_neg h3] at hc
        split at h
        · rename_i h4
          rw [if_pos h4] at hc
          cases h
          refine va_gets hx hb hX.2.2.2.2.2.2.2.1 hS hown (hts _ (jm_at_mem hc)) (fun _ h => h) hd (W.eq ?_ (k hlen H locs ls hR hS hl))
          show F0 m (pc + 3) ls ((if ex 7 = 0 then .null else .ref (ex 6)) :: S.map (jm_cv h0 ex)) = F0 m (pc + 3) ls (jm_cv h0 ex (.ref 6) :: S.map (jm_cv h0 ex))
          congr 2
          unfold jm_cv jm_ad
          by_cases h7 : ex 7 = 0
          · simp [h7]
          · simp [h7]
        · rename_i h4
          rw [if_neg h4] at hc
          split at h
          · rename_i hlt
            cases h
            rcases (show la = 0 ∨ la = 1 ∨ la = 2 by omega) with rfl | rfl | rfl
            · exact va_getsN hx hb hX.2.1.1 hS hown (jm_atn_use hc hX.2.2.2.2.2.2.2.2) (fun _ h => h) hd (k hlen H locs ls hR hS hl)
            · exact va_getsN hx hb hX.2.2.1.1 hS hown (jm_atn_use hc hX.2.2.2.2.2.2.2.2) (fun _ h => h) hd (k hlen H locs ls hR hS hl)
            · exact va_getsN hx hb hX.2.2.2.1.1 hS hown (jm_atn_use hc hX.2.2.2.2.2.2.2.2) (fun _ h => h) hd (k hlen H locs ls hR hS hl)
          · cases h
    · cases h
  · split at h
    · rename_i hn
      subst hn
      cases h
      dsimp only at hc
      by_cases hb0 : lb = 0
      · rw [if_pos hb0] at hc k
        exact lv_ldc hx hb hown (hts _ (jm_at_mem hc)) hd (k hlen H locs ls hR hS hl)
      · rw [if_neg hb0] at hc k
        rw [Bool.and_eq_true] at hc
        have h25 := of_decide_eq_true hc.2
        subst h25
        exact va_ldcS hx hb (by rw [← of_decide_eq_true hc.1]; exact hown) hX.2.2.2.2.2.2.1 hd (k hlen H locs ls hR hS hl)
    · cases h
  · split at h
    · rename_i hn
      subst hn
      cases h
      dsimp only at hc
      exact lv_ldcw hx hb hown (hts _ (jm_at_mem hc)) hd (k hlen H locs ls hR hS hl)
    · cases h
  · split at h
    · rename_i hn
      subst hn
      cases h
      dsimp only at hc
      exact lv_ldc2 hx hb hown (hts _ (jm_at_mem hc)) hd (k hlen H locs ls hR hS hl)
    · cases h
  · cases h
end JM6
end
section
/-! ===== arrays, and what is made: followed ===== -/
theorem wnX0 : Cond.instantiable RX0 1 ∈ jm_tbl ∧ Cond.initialized RX0 ∈ jm_tbl := ⟨jm_tbl_mem (by decide +kernel) (by decide +kernel), jm_tbl_mem (by decide +kernel) (by decide +kernel)⟩
theorem wnX1 : Cond.instantiable RX1 12 ∈ jm_tbl ∧ Cond.initialized RX1 ∈ jm_tbl := ⟨jm_tbl_mem (by decide +kernel) (by decide +kernel), jm_tbl_mem (by decide +kernel) (by decide +kernel)⟩
theorem wnX2 : Cond.instantiable RX2 2 ∈ jm_tbl ∧ Cond.initialized RX2 ∈ jm_tbl := ⟨jm_tbl_mem (by decide +kernel) (by decide +kernel), jm_tbl_mem (by decide +kernel) (by decide +kernel)⟩
theorem wnX3 : Cond.instantiable RX3 4 ∈ jm_tbl ∧ Cond.initialized RX3 ∈ jm_tbl := ⟨jm_tbl_mem (by decide +kernel) (by decide +kernel), jm_tbl_mem (by decide +kernel) (by decide +kernel)⟩
theorem wnX4 : Cond.instantiable RX4 10 ∈ jm_tbl ∧ Cond.initialized RX4 ∈ jm_tbl := ⟨jm_tbl_mem (by decide +kernel) (by decide +kernel), jm_tbl_mem (by decide +kernel) (by decide +kernel)⟩
theorem wnX5 : Cond.instantiable RX5 15 ∈ jm_tbl ∧ Cond.initialized RX5 ∈ jm_tbl := ⟨jm_tbl_mem (by decide +kernel) (by decide +kernel), jm_tbl_mem (by decide +kernel) (by decide +kernel)⟩
theorem wnX6 : Cond.instantiable RX6 4 ∈ jm_tbl ∧ Cond.initialized RX6 ∈ jm_tbl := ⟨jm_tbl_mem (by decide +kernel) (by decide +kernel), jm_tbl_mem (by decide +kernel) (by decide +kernel)⟩
theorem wnX7 : Cond.instantiable RX7 3 ∈ jm_tbl ∧ Cond.initialized RX7 ∈ jm_tbl := ⟨jm_tbl_mem (by decide +kernel) (by decide +kernel), jm_tbl_mem (by decide +kernel) (by decide +kernel)⟩
theorem wnX8 : Cond.instantiable RX8 3 ∈ jm_tbl ∧ Cond.initialized RX8 ∈ jm_tbl := ⟨jm_tbl_mem (by decide +kernel) (by decide +kernel), jm_tbl_mem (by decide +kernel) (by decide +kernel)⟩
theorem wnX9 : Cond.instantiable RX9 15 ∈ jm_tbl ∧ Cond.initialized RX9 ∈ jm_tbl := ⟨jm_tbl_mem (by decide +kernel) (by decide +kernel), jm_tbl_mem (by decide +kernel) (by decide +kernel)⟩
theorem wnX10 : Cond.instantiable RX10 69 ∈ jm_tbl ∧ Cond.initialized RX10 ∈ jm_tbl := ⟨jm_tbl_mem (by decide +kernel) (by decide +kernel), jm_tbl_mem (by decide +kernel) (by decide +kernel)⟩
theorem jm_cls2 {ci N : Nat} {C : String} {T : u_T} (h : vwCl[ci]? = some (C, T, N)) : Cond.instantiable C N ∈ jm_tbl ∧ Cond.initialized C ∈ jm_tbl := by
  match ci, h with
  | 0, h => cases h; exact wnX0
  | 1, h => cases h; exact wnX1
  | 2, h => cases h; exact wnX2
  | 3, h => cases h; exact wnX3
  | 4, h => cases h; exact wnX4
  | 5, h => cases h; exact wnX5
  | 6, h => cases h; exact wnX6
  | 7, h => cases h; exact wnX7
  | 8, h => cases h; exact wnX8
  | 9, h => cases h; exact wnX9
  | 10, h => cases h; exact wnX10
  | n + 11, h => simp [vwCl] at h
theorem jm_acl : Cond.arrayClass .int ∈ jm_tbl ∧ Cond.arrayClass .byte ∈ jm_tbl ∧ Cond.arrayClass .boolean ∈ jm_tbl ∧ Cond.arrayClass .long ∈ jm_tbl := ⟨jm_tbl_mem (by decide +kernel) (by decide +kernel), jm_tbl_mem (by decide +kernel) (by decide +kernel), jm_tbl_mem (by decide +kernel) (by decide +kernel), jm_tbl_mem (by decide +kernel) (by decide +kernel)⟩
theorem jm_ak_ty {t : ArrayType} (h : jm_ak t < 4) : newarray.typeOf t = jm_ty (jm_ak t) ∧ Cond.arrayClass (newarray.typeOf t) ∈ jm_tbl ∧ componentBytes (newarray.typeOf t) ≤ 8 := by
  cases t <;> first | (exfalso; simp [jm_ak] at h; done) | exact ⟨rfl, jm_acl.1, by decide⟩ | exact ⟨rfl, jm_acl.2.1, by decide⟩ | exact ⟨rfl, jm_acl.2.2.1, by decide⟩ | exact ⟨rfl, jm_acl.2.2.2, by decide⟩
theorem jm_ty_at {ka : Nat → ClassId} {kd : Nat} (h : kd < 4) : (jm_tys ka)[kd]? = some (ka kd, jm_ty kd) := by
  rcases (show kd = 0 ∨ kd = 1 ∨ kd = 2 ∨ kd = 3 by omega) with rfl | rfl | rfl | rfl <;> rfl
theorem jm_kind {ka : Nat → ClassId} {D : va_G} {s : State} (hK : va_K D vwCl (jm_tys ka) s) {kd : Nat} (h : kd < 4) : s.vm.findClass ("[" ++ (jm_ty kd).toString) = some (ka kd) := by
  have h1 := (hK.2 kd _ (jm_ty_at h)).2
  rcases (show kd = 0 ∨ kd = 1 ∨ kd = 2 ∨ kd = 3 by omega) with rfl | rfl | rfl | rfl <;> exact h1
theorem jm_a0_cell {h0 : Nat} {ex : Nat → Nat} {ka : Nat → ClassId} {kd n : Nat} (h : kd < 4) : ∃ a : vp_A, jm_ce h0 ex ka (jm_a0 kd n) = .inl (ka kd, a) ∧ vp_cell (ka kd) a = arrV (ka kd) n (fun _ => defaultValue (jm_ty kd)) := by
  rcases (show kd = 0 ∨ kd = 1 ∨ kd = 2 ∨ kd = 3 by omega) with rfl | rfl | rfl | rfl
  · exact ⟨(n, .inl (fun _ => 0)), rfl, rfl⟩
  · exact ⟨(n, .inl (fun _ => 0)), rfl, rfl⟩
  · exact ⟨(n, .inl (fun _ => 0)), rfl, rfl⟩
  · exact ⟨(n, .inr (.inl (fun _ => 0))), rfl, rfl⟩
theorem jm_df_at {ci N : Nat} {C : String} {T : u_T} {ty : Nat → FieldType} (hq : vwCl[ci]? = some (C, T, N)) (hty : jm_tyt[ci]? = some ty) (h0 : Nat) (ex : Nat → Nat) (j : Nat) (hj : j < N) : defaultValue (ty j) = vp_V ((jm_df ci).map (jm_cv h0 ex)) j := by
  have h1 : jm_df ci = (List.range N).map fun k => defaultValue (ty k) := by simp [jm_df, hq, hty]
  have h2 : ∀ t : FieldType, jm_cv h0 ex (defaultValue t) = defaultValue t := by intro t; cases t <;> rfl
  simp [vp_V, h1, List.getD_eq_getElem?_getD, List.getElem?_map, List.getElem?_range hj, h2]
section JM7
variable {p : Program} {l : Launch} {e : Env} {R : Room} {s : State} {m : MethodId} {args : Array Value} {below : List Frame} {meth : Method} {c : Code} {D : va_G} {h0 : Nat} {ex : Nat → Nat} {ka : Nat → ClassId} {Ls : Nat} {xs : Nat → Int32} {M : jm_M} {n0 : Nat} {Q : State → Prop} {i : jm_I} {pc : Nat} {L : List (Option Value)} {S : List Value} {G : jm_h} {cn sn : Nat} {st : jm_St} {YN : List MethodName}
/-- how many cells there are is known: as many as lay there, and those that were made -/
theorem jm_size {H : Heap} {locs : List Loc} {g : JFrame} (hz : s.heap.size = h0 + n0) (hlen : jm_len G = n0 + cn) (hR : jm_R D h0 ex ka G H) (hS : va_S (fun q => h0 ≤ q) s.heap H locs) (k : H.size = h0 + jm_len G → W p l e R s m args below meth c H locs cn sn Q g) : W p l e R s m args below meth c H locs cn sn Q g := by
  intro T hT X
  have h1 := X.heapSize
  have h2 := jm_R_low hR (by have := hS.1; omega)
  rw [hT] at h1
  exact k (by omega) T hT X
theorem jm_R_new {H H1 : Heap} {sg k : Nat} {d : jm_c} {G1 : jm_h} (hR : jm_R D h0 ex ka G H) (hn : jm_new sg G d = some (k, G1)) (hsz : H.size = h0 + jm_len G) (o1 : ∀ q, q < h0 + jm_len G → H1[q]? = H[q]?) (h1 : va_at D vwCl (h0 + jm_len G, jm_ce h0 ex ka d) H1) : jm_R D h0 ex ka G1 H1 := by
  obtain ⟨a1, a2, a3, a4⟩ := jm_new_al hR.1 hn
  refine ⟨a2, ?_⟩
  rw [jm_w_new a1]
  refine (hR.2.kept fun j q hq => ?_).app fun j q hq => ?_
  · exact o1 _ (by rw [← hsz]; exact (hR.2 j q hq).lt)
  · have hz : j < 1 := (List.getElem?_eq_some_iff.mp hq).1
    rw [show j = 0 by omega] at hq
    cases hq
    exact h1
theorem jm_S_new {H H1 : Heap} {locs : List Loc} (hS : va_S (fun q => h0 ≤ q) s.heap H locs) (hsz : H.size = h0 + jm_len G) (z1 : H1.size = h0 + jm_len G + 1) (o1 : ∀ q, q < h0 + jm_len G → H1[q]? = H[q]?) : va_S (fun q => h0 ≤ q) s.heap H1 locs :=
  ⟨Nat.le_trans hS.1 (by omega), fun x h1 h2 => (o1 x (by rw [← hsz]; exact Nat.lt_of_lt_of_le h1 hS.1)).trans (hS.2.1 x h1 h2), hS.2.2⟩
set_option maxHeartbeats 8000000 in
theorem jm_d2_ok {bc bs : Nat} (C0 : jm_C p s m args meth c D h0 ex ka Ls xs M n0) (hbc : bc ≤ R.cells) (hbs : bs ≤ R.slots) (hc : jm_ck YN M pc i = true) (h : jm_d2 M Ls xs bc bs i pc L S G (cn, sn) = some st) (k : jm_W p l e R s m args below meth c D h0 ex ka M n0 Q st) : jm_W p l e R s m args below meth c D h0 ex ka M n0 Q (pc, L, S, G, cn, sn) := by
  have hd := jm_ck_dec hc
  obtain ⟨hx, hb, hml, hown, hts, hrt, hlk, hnm, hK, hz, hX⟩ := C0
  obtain ⟨ins, n, la, lb, po⟩ := i
  unfold jm_ck at hc
  rw [Bool.and_eq_true] at hc
  obtain ⟨-, hc⟩ := hc
  intro hlen H locs ls hR hS hl
  change jm_len G = n0 + cn at hlen
  change jm_R D h0 ex ka G H at hR
  change jm_L h0 ex ls (jm_mx M) L at hl
  unfold jm_d2 at h
  dsimp only at hd hc h
  split at h
  · split at h
    · rename_i hn
      subst hn
      split at h
      · rename_i j a r
        split at h
        · rename_i ha8
          split at h
          · rename_i kd N f hea
            split at h
            · rename_i hkd
              subst hkd
              cases hout : jm_out j N with
              | true => rw [hout] at h; cases h
              | false =>
                rw [hout] at h
                cases h
                have hin := jm_out_in hout
                unfold jm_ea at hea
                split at hea
                · rename_i h0'
                  subst h0'
                  cases hea
                  exact va_sld hx hb hX.1.1 hX.1.2.1 hX.1.2.2 hS hin hd (k hlen H locs ls hR hS hl)
                · split at hea
                  · rename_i h0'
                    subst h0'
                    cases hea
                    exact va_ti hx hb hX.2.1.2 hS hin rfl hd (k hlen H locs ls hR hS hl)
                  · split at hea
                    · rename_i h0'
                      subst h0'
                      cases hea
                      exact va_ti hx hb hX.2.2.1.2 hS hin rfl hd (k hlen H locs ls hR hS hl)
                    · split at hea
                      · rename_i h0'
                        subst h0'
                        cases hea
                        exact va_ti hx hb hX.2.2.2.1.2 hS hin rfl hd (k hlen H locs ls hR hS hl)
                      · split at hea <;> cases hea
            · cases h
          · cases h
        · split at h
          · rename_i kd N f hg
            split at h
            · rename_i hkd
              subst hkd
              cases hout : jm_out j N with
              | true => rw [hout] at h; cases h
              | false =>
                rw [hout] at h
                cases h
                show W p l e R s m args below meth c H locs cn sn Q (F0 m pc ls (.int j :: jm_cv h0 ex (.ref a) :: r.map (jm_cv h0 ex)))
                rw [jm_ref hg]
                exact va_iald hx hb hK hR.2 (jm_fi a) 0 (jm_at_w hR hg) rfl (jm_out_in hout) hd (k hlen H locs ls hR hS hl)
            · cases h
          · cases h
      · cases h
    · cases h
  · split at h
    · rename_i hn
      subst hn
      split at h
      · rename_i j a r
        split at h
        · rename_i ha8
          split at h
          · rename_i kd N f hea
            split at h
            · rename_i hkd
              subst hkd
              cases hout : jm_out j N with
              | true => rw [hout] at h; cases h
              | false =>
                rw [hout] at h
                cases h
                have hin := jm_out_in hout
                unfold jm_ea at hea
                split at hea
                · cases hea
                · split at hea
                  · cases hea
                  · split at hea
                    · cases hea
                    · split at hea
                      · cases hea
                      · split at hea
                        · rename_i h0'
                          subst h0'
                          cases hea
                          exact va_tb hx hb hX.2.2.2.2.2.1.2.2.2 hS hin rfl hd (k hlen H locs ls hR hS hl)
                        · cases hea
            · cases h
          · cases h
        · split at h
          · rename_i kd N f hg
            split at h
            · rename_i hkd
              cases hout : jm_out j N with
              | true => rw [hout] at h; cases h
              | false =>
                rw [hout] at h
                cases h
                show W p l e R s m args below meth c H locs cn sn Q (F0 m pc ls (.int j :: jm_cv h0 ex (.ref a) :: r.map (jm_cv h0 ex)))
                rw [jm_ref hg]
                rcases hkd with rfl | rfl
                · exact va_bald hx hb hK hR.2 (jm_fi a) 1 (jm_at_w hR hg) rfl (jm_out_in hout) hd (k hlen H locs ls hR hS hl)
                · exact va_zald hx hb hK hR.2 (jm_fi a) 2 (jm_at_w hR hg) rfl (jm_out_in hout) hd (k hlen H locs ls hR hS hl)
            · cases h
          · cases h
      · cases h
    · cases h
  · split at h
    · rename_i hn
      subst hn
      split at h
      · rename_i j a r
        split at h
        · rename_i kd N f hg
          split at h
          · rename_i hkd
            subst hkd
            cases hout : jm_out j N with
            | true => rw [hout] at h; cases h
            | false =>
              rw [hout] at h
              cases h
              show W p l e R s m args below meth c H locs cn sn Q (F0 m pc ls (.int j :: jm_cv h0 ex (.ref a) :: r.map (jm_cv h0 ex)))
              rw [jm_ref hg]
              exact va_lald hx hb hK hR.2 (jm_fi a) 3 (jm_at_w hR hg) rfl (jm_out_in hout) hd (k hlen H locs ls hR hS hl)
          · cases h
        · cases h
      · cases h
    · cases h
  · split at h
    · rename_i hn
      subst hn
      split at h
      · rename_i x j a r
        split at h
        · rename_i kd N f hg
          split at h
          · rename_i hkd
            subst hkd
            cases hout : jm_out j N with
            | true => rw [hout] at h; cases h
            | false =>
              rw [hout] at h
              cases h
              show W p l e R s m args below meth c H locs cn sn Q (F0 m pc ls (.int x :: .int j :: jm_cv h0 ex (.ref a) :: r.map (jm_cv h0 ex)))
              rw [jm_ref hg]
              refine va_iast hx hb hK hR.2 (jm_D h0 ex ka G) hS (jm_fi a) 0 (jm_at_w hR hg) rfl (jm_out_in hout) hd (fun H1 locs1 hP1 _ hS1 => ?_)
              rw [jm_upd_eq] at hP1
              exact k (by rw [jm_s_len]; exact hlen) H1 locs1 ls (jm_R_set (d1 := .inl (0, N, .inl (jm_upd f j.toNatClampNeg x))) hR hg hP1) hS1 hl
          · cases h
        · cases h
      · cases h
    · cases h
  · split at h
    · rename_i hn
      subst hn
      split at h
      · rename_i x j a r
        split at h
        · rename_i kd N f hg
          split at h
          · rename_i hkd
            subst hkd
            cases hout : jm_out j N with
            | true => rw [hout] at h; cases h
            | false =>
              rw [hout] at h
              cases h
              show W p l e R s m args below meth c H locs cn sn Q (F0 m pc ls (.int x :: .int j :: jm_cv h0 ex (.ref a) :: r.map (jm_cv h0 ex)))
              rw [jm_ref hg]
              refine va_bast hx hb hK hR.2 (jm_D h0 ex ka G) hS (jm_fi a) 1 (jm_at_w hR hg) rfl (jm_out_in hout) hd (fun H1 locs1 hP1 _ hS1 => ?_)
              rw [jm_upd_eq, vp_nar_byte] at hP1
              exact k (by rw [jm_s_len]; exact hlen) H1 locs1 ls (jm_R_set (d1 := .inl (1, N, .inl (jm_upd f j.toNatClampNeg x.toInt8.toInt32))) hR hg hP1) hS1 hl
          · split at h
            · rename_i hkd
              subst hkd
              cases hout : jm_out j N with
              | true => rw [hout] at h; cases h
              | false =>
                rw [hout] at h
                cases h
                show W p l e R s m args below meth c H locs cn sn Q (F0 m pc ls (.int x :: .int j :: jm_cv h0 ex (.ref a) :: r.map (jm_cv h0 ex)))
                rw [jm_ref hg]
                refine va_zast hx hb hK hR.2 (jm_D h0 ex ka G) hS (jm_fi a) 2 (jm_at_w hR hg) rfl (jm_out_in hout) hd (fun H1 locs1 hP1 _ hS1 => ?_)
                rw [jm_upd_eq] at hP1
                exact k (by rw [jm_s_len]; exact hlen) H1 locs1 ls (jm_R_set (d1 := .inl (2, N, .inl (jm_upd f j.toNatClampNeg (vp_nar .boolean x)))) hR hg hP1) hS1 hl
            · cases h
        · cases h
      · cases h
    · cases h
  · split at h
    · rename_i hn
      subst hn
      split at h
      · rename_i x j a r
        split at h
        · rename_i kd N f hg
          split at h
          · rename_i hkd
            subst hkd
            cases hout : jm_out j N with
            | true => rw [hout] at h; cases h
            | false =>
              rw [hout] at h
              cases h
              show W p l e R s m args below meth c H locs cn sn Q (F0 m pc ls (.long x :: .int j :: jm_cv h0 ex (.ref a) :: r.map (jm_cv h0 ex)))
              rw [jm_ref hg]
              refine va_last hx hb hK hR.2 (jm_D h0 ex ka G) hS (jm_fi a) 3 (jm_at_w hR hg) rfl (jm_out_in hout) hd (fun H1 locs1 hP1 _ hS1 => ?_)
              rw [jm_updL_eq] at hP1
              exact k (by rw [jm_s_len]; exact hlen) H1 locs1 ls (jm_R_set (d1 := .inl (3, N, .inr (jm_updL f j.toNatClampNeg x))) hR hg hP1) hS1 hl
          · cases h
        · cases h
      · cases h
    · cases h
  · split at h
    · rename_i hn
      subst hn
      split at h
      · rename_i a r
        split at h
        · rename_i ha8
          split at h
          · rename_i kd N f hea
            cases h
            unfold jm_ea at hea
            split at hea
            · rename_i h0'
              subst h0'
              cases hea
              exact va_slen hx hb hX.1.1 hX.1.2.1 hX.1.2.2 hS hd (k hlen H locs ls hR hS hl)
            · split at hea
              · rename_i h0'
                subst h0'
                cases hea
                exact va_tlen hx hb hX.2.1.2 hS rfl hd (k hlen H locs ls hR hS hl)
              · split at hea
                · rename_i h0'
                  subst h0'
                  cases hea
                  exact va_tlen hx hb hX.2.2.1.2 hS rfl hd (k hlen H locs ls hR hS hl)
                · split at hea
                  · rename_i h0'
                    subst h0'
                    cases hea
                    exact va_tlen hx hb hX.2.2.2.1.2 hS rfl hd (k hlen H locs ls hR hS hl)
                  · split at hea
                    · rename_i h0'
                      subst h0'
                      cases hea
                      exact va_tlen hx hb hX.2.2.2.2.2.1.2.2.2 hS rfl hd (k hlen H locs ls hR hS hl)
                    · cases hea
          · cases h
        · split at h
          · rename_i kd N y hg
            split at h
            · rename_i hkd
              cases h
              show W p l e R s m args below meth c H locs cn sn Q (F0 m pc ls (jm_cv h0 ex (.ref a) :: r.map (jm_cv h0 ex)))
              rw [jm_ref hg]
              obtain ⟨y', hy'⟩ : ∃ y', jm_ce h0 ex ka (.inl (kd, N, y)) = .inl (ka kd, N, y') := by
                cases y with
                | inl f => exact ⟨_, rfl⟩
                | inr f => exact ⟨_, rfl⟩
              have he : (jm_w h0 ex ka G)[jm_fi a]? = some (h0 + jm_fi a, .inl (ka kd, N, y')) := by rw [jm_at_w hR hg, hy']
              exact va_alen hx hb hK hR.2 (jm_fi a) kd he (jm_ty_at hkd) rfl hd (k hlen H locs ls hR hS hl)
            · cases h
          · cases h
      · cases h
    · cases h
  · split at h
    · rename_i hn
      subst hn
      split at h
      · rename_i d hq
        obtain ⟨C, T, N⟩ := d
        split at h
        · rename_i hroom
          split at h
          · rename_i kk G1 hnew
            cases h
            rw [hq] at hc
            dsimp only at hc hroom
            show W p l e R s m args below meth c H locs cn sn Q (F0 m pc ls (S.map (jm_cv h0 ex)))
            obtain ⟨a1, a2, a3, a4⟩ := jm_new_al hR.1 hnew
            obtain ⟨hin, ty, hty, hd1, -⟩ := jm_cls hq
            have hKn := hK.1 la _ hq
            refine jm_size hz hlen hR hS (fun hsz => ?_)
            refine W.newcK hx hb hown (hts _ (jm_at_mem hc)) (hts _ (jm_cls2 hq).1) (hts _ (jm_cls2 hq).2) rfl hd (by omega) (by omega) hKn.2.1 hsz (fun H1 kC hkC e1 z1 o1 => ?_)
            refine W.eq ?_ (k (show jm_len G1 = n0 + (cn + 1) by rw [jm_new_len hR.1 hnew]; omega) H1 locs ls (jm_R_new hR hnew hsz o1 ⟨_, hq, (u_born ty hts hin hKn hkC e1 hd1).to (jm_df_at hq hty h0 ex)⟩) (jm_S_new hS hsz z1 o1) hl)
            show F0 m (pc + 3) ls (.ref (h0 + jm_len G) :: S.map (jm_cv h0 ex)) = F0 m (pc + 3) ls (jm_cv h0 ex (.ref kk) :: S.map (jm_cv h0 ex))
            rw [jm_cvr (by omega), jm_ad, if_neg (by omega), a4]
          · cases h
        · cases h
      · cases h
    · cases h
  · split at h
    · rename_i t hn
      subst hn
      split at h
      · rename_i nn r
        split at h
        · rename_i hroom
          obtain ⟨hk4, hneg, hbig, hr1, hr2⟩ := hroom
          split at h
          · rename_i kk G1 hnew
            cases h
            have hr1 : cn + 1 ≤ bc := hr1
            have hr2 : sn + nn.toNatClampNeg ≤ bs := hr2
            show W p l e R s m args below meth c H locs cn sn Q (F0 m pc ls (.int nn :: r.map (jm_cv h0 ex)))
            obtain ⟨a1, a2, a3, a4⟩ := jm_new_al hR.1 hnew
            obtain ⟨hty, harr, hcb⟩ := jm_ak_ty hk4
            refine jm_size hz hlen hR hS (fun hsz => ?_)
            refine va_newaK hx hb (hts _ harr) rfl hd rfl hneg rfl (Nat.le_trans (Nat.mul_le_mul_left _ hcb) hbig) (by omega) (by omega) hsz (fun H1 cA e1 z1 o1 hAr hNm => ?_)
            have hcA : cA = ka (jm_ak t) := by
              have h1 := jm_kind hK hk4
              rw [← hty] at h1
              exact Option.some.inj (hNm.symm.trans h1)
            subst hcA
            obtain ⟨av, hav, hcell⟩ := jm_a0_cell (h0 := h0) (ex := ex) (ka := ka) (n := nn.toNatClampNeg) hk4
            refine W.eq ?_ (k (show jm_len G1 = n0 + (cn + 1) by rw [jm_new_len hR.1 hnew]; omega) H1 locs ls (jm_R_new hR hnew hsz o1 (by rw [hav]; show H1[h0 + jm_len G]? = some (vp_cell _ _); rw [hcell, ← hty]; exact e1)) (jm_S_new hS hsz z1 o1) hl)
            show F0 m (pc + 2) ls (.ref (h0 + jm_len G) :: r.map (jm_cv h0 ex)) = F0 m (pc + 2) ls (jm_cv h0 ex (.ref kk) :: r.map (jm_cv h0 ex))
            rw [jm_cvr (by omega), jm_ad, if_neg (by omega), a4]
          · cases h
        · cases h
      · cases h
    · cases h
  · cases h
end JM7
end
section
/-! ===== methods, their rows checked; contracts; calls and returns ===== -/
def jm_ock (YN : List MethodName) (M : jm_M) (pc : Nat) (o : Option jm_I) : Bool := match o with
  | none => true
  | some e => jm_ck YN M pc e
def jm_rck (YN : List MethodName) (M : jm_M) : Nat → List (Option jm_I) → Bool
  | _, [] => true
  | pc, o :: r => jm_ock YN M pc o && jm_rck YN M (pc + 1) r
def jm_tck (YN : List MethodName) (M : jm_M) : Nat → List (List (Option jm_I)) → Bool
  | _, [] => true
  | b, r :: t => jm_rck YN M b r && jm_tck YN M (b + 16) t
theorem jm_rck_at {YN : List MethodName} {M : jm_M} : ∀ {r : List (Option jm_I)} {b j : Nat} {e : jm_I}, jm_rck YN M b r = true → r[j]? = some (some e) → jm_ck YN M (b + j) e = true
  | [], b, j, e, _, h => by simp at h
  | o :: r, b, j, e, hc, h => by
    rw [jm_rck, Bool.and_eq_true] at hc
    cases j with
    | zero =>
      simp at h
      subst h
      exact hc.1
    | succ j =>
      have := jm_rck_at hc.2 (j := j) (e := e) (by simpa using h)
      rwa [show b + 1 + j = b + (j + 1) by omega] at this
theorem jm_tck_at {YN : List MethodName} {M : jm_M} : ∀ {t : List (List (Option jm_I))} {b i : Nat} {r : List (Option jm_I)}, jm_tck YN M b t = true → t[i]? = some r → jm_rck YN M (b + 16 * i) r = true
  | [], b, i, r, _, h => by simp at h
  | q :: t, b, i, r, hc, h => by
    rw [jm_tck, Bool.and_eq_true] at hc
    cases i with
    | zero =>
      simp at h
      subst h
      exact hc.1
    | succ i =>
      have := jm_tck_at hc.2 (i := i) (r := r) (by simpa using h)
      rwa [show b + 16 + 16 * i = b + 16 * (i + 1) by omega] at this
theorem jm_in_ck {YN : List MethodName} {M : jm_M} {pc : Nat} {e : jm_I} (hc : jm_tck YN M 0 (jm_tb M) = true) (h : jm_in M pc = some e) : jm_ck YN M pc e = true := by
  unfold jm_in at h
  cases hq : (jm_tb M)[pc / 16]? with
  | none => rw [hq] at h; cases h
  | some r =>
    rw [hq] at h
    have h1 : r[pc % 16]? = some (some e) := by
      cases hz : r[pc % 16]? with
      | none => simp [hz] at h
      | some o => simp [hz] at h; rw [h]
    have := jm_rck_at (jm_tck_at hc hq) h1
    rwa [show 0 + 16 * (pc / 16) + pc % 16 = pc by omega] at this
/-- all that is asked of a method's row -/
def jm_ok (YN : List MethodName) (M : jm_M) : Prop :=
  Cond.code (jm_y M) (jm_b M) (jm_mx M) (jm_rt M) ∈ jm_tbl ∧ Cond.initialized (jm_y M).cls ∈ jm_tbl ∧ plainFor (jm_y M) = true ∧
  ((jm_y M).cls ≠ "java/lang/invoke/MethodHandle" ∧ (jm_y M).cls ≠ "java/lang/invoke/VarHandle") ∧ (parseMethodDescriptor (jm_y M).desc).map (fun d => d.parameters.length) = some (jm_na M) ∧ jm_mx M ≤ 45 ∧
  (jm_kd M = 0 → Cond.static (jm_y M) ∈ jm_tbl) ∧
  (jm_kd M = 1 → Cond.instanceMethod (jm_y M) ∈ jm_tbl ∧ Cond.selects (jm_y M).cls (jm_y M) (jm_y M) ∈ jm_tbl ∧ ((jm_rc M = 100 ∧ (jm_y M).cls = "java/lang/String") ∨ (vwCl[jm_rc M]?).map (fun q => q.1) = some (jm_y M).cls)) ∧
  (jm_kd M = 2 → Cond.instanceMethod (jm_y M) ∈ jm_tbl ∧ (jm_y M).name = "<init>" ∧ jm_rt M = none) ∧
  jm_tck YN M 0 (jm_tb M) = true
def jm_room (d mc ms : Nat) : Room := { frames := d, cells := mc, slots := ms, locals := 64 * d }
def jm_Pc (D : va_G) (h0 : Nat) (ex : Nat → Nat) (ka : Nat → ClassId) (Ls : Nat) (xs : Nat → Int32) (As : List Value) (G : jm_h) : Array Value → State → Prop := fun v U =>
  v = (As.map (jm_cv h0 ex)).toArray ∧ U.heap.size = h0 + jm_len G ∧ jm_R D h0 ex ka G U.heap ∧ va_K D vwCl (jm_tys ka) U ∧ jm_X h0 ex Ls xs U
def jm_Qc (D : va_G) (h0 : Nat) (ex : Nat → Nat) (ka : Nat → ClassId) (mc : Nat) (G : jm_h) (Post : Option Value → jm_h → Prop) : Array Value → State → Outcome → State → Prop := fun _ st o t =>
  (∃ (v : Option Value) (G1 : jm_h), Post v G1 ∧ jm_len G1 = jm_len G + mc ∧ o = .returned (v.map (jm_cv h0 ex)) ∧ jm_R D h0 ex ka G1 t.heap) ∧ va_F (fun q => h0 ≤ q) st t
/-- A CONTRACT: from the cells G and the arguments As the method returns, with an answer and cells that Post says; d frames are enough; mc cells of ms slots are made -/
def jm_T (Ls : Nat) (xs : Nat → Int32) (d : Nat) (M : jm_M) (As : List Value) (G : jm_h) (mc ms : Nat) (Post : Option Value → jm_h → Prop) : Prop :=
  ∀ (l : Launch) (D : va_G) (h0 : Nat) (ex : Nat → Nat) (ka : Nat → ClassId), Met l (jm_y M) (Cond.code (jm_y M) (jm_b M) (jm_mx M) (jm_rt M) :: jm_tbl) (jm_room d mc ms) (jm_Pc D h0 ex ka Ls xs As G) (jm_Qc D h0 ex ka mc G Post) mc ms (fun q => h0 ≤ q)
def jm_e1 : List Value → List (Option Value)
  | [] => []
  | v :: r => if v.category = 2 then some v :: none :: jm_e1 r else some v :: jm_e1 r
def jm_ent (mx : Nat) (As : List Value) : List (Option Value) := jm_e1 As ++ List.replicate (mx - (jm_e1 As).length) none
theorem jm_lv_none {h0 : Nat} {ex : Nat → Nat} : ∀ (n i : Nat), jm_lv h0 ex i (List.replicate n none) = []
  | 0, _ => rfl
  | n + 1, i => by rw [List.replicate_succ, jm_lv]; exact jm_lv_none n (i + 1)
theorem jm_e1_lv {h0 : Nat} {ex : Nat → Nat} : ∀ (As : List Value) (n i : Nat), jm_lv h0 ex i (jm_e1 As ++ List.replicate n none) = lv_args i (As.map (jm_cv h0 ex))
  | [], n, i => jm_lv_none n i
  | v :: r, n, i => by
    rw [jm_e1, List.map_cons, lv_args, jm_cv_cat]
    by_cases h : v.category = 2
    · rw [if_pos h, if_pos h]
      show (i, jm_cv h0 ex v) :: jm_lv h0 ex (i + 1 + 1) (jm_e1 r ++ List.replicate n none) = _
      rw [jm_e1_lv r n]
    · rw [if_neg h, if_neg h]
      show (i, jm_cv h0 ex v) :: jm_lv h0 ex (i + 1) (jm_e1 r ++ List.replicate n none) = _
      rw [jm_e1_lv r n]
theorem jm_e1_len {h0 : Nat} {ex : Nat → Nat} : ∀ As : List Value, (lg_sl (As.map (jm_cv h0 ex))).length = (jm_e1 As).length
  | [] => rfl
  | v :: r => by
    have ih := jm_e1_len (h0 := h0) (ex := ex) r
    simp only [lg_sl, List.map_cons, List.flatMap_cons, jm_cv_cat, jm_e1] at ih ⊢
    by_cases h : v.category = 2
    · simp [h] at ih ⊢
      exact ih
    · simp [h] at ih ⊢
      exact ih
theorem jm_entry {m : MethodId} {mx : Nat} {h0 : Nat} {ex : Nat → Nat} (As : List Value) (h : (jm_e1 As).length ≤ mx) : ∃ ls : Array Slot, entryFrame m (As.map (jm_cv h0 ex)).toArray mx = F0 m 0 ls [] ∧ jm_L h0 ex ls mx (jm_ent mx As) := by
  refine ⟨_, lg_entry_eq m (As.map (jm_cv h0 ex)) mx, ?_⟩
  have h1 := lv_entry (As.map (jm_cv h0 ex)) (n := mx) (by rw [jm_e1_len]; exact h)
  unfold jm_L jm_ent
  rw [jm_e1_lv]
  exact h1
theorem jm_ofW {l : Launch} {y : MethodName} {ws ws' : List Cond} {rm : Room} {Pc : Array Value → State → Prop} {Qc : Array Value → State → Outcome → State → Prop} {mc ms : Nat} {free : Addr → Prop} {cc : ByteArray} {maxL : Nat} {ret : Option FieldType}
    (hy : plainFor y = true) (hw : ws = Cond.code y cc maxL ret :: ws')
    (body : ∀ p e s m args below meth c s₁, BodyLoose p l y (headSpec ws rm) cc maxL ret e s m args below meth c s₁ → c.maxLocals = maxL → Pc args s →
      W p l e (headSpec ws rm).room s m args below meth c s.heap [] 0 0 (MQ below Qc args s mc ms free) (entryFrame m args maxL)) : Met l y ws rm Pc Qc mc ms free := by
  refine MetFree.of_bodySF (code := cc) (maxLocals := maxL) (ret := ret) hy ?_ ?_
  · intro args s m h hn
    obtain ⟨meth, c, h1, h2, h3, h4, h5, h6, -, -⟩ := Cond.code_spec hn (atoms_spec (ws := ws) h _ (by rw [hw]; exact List.mem_cons_self))
    exact ⟨meth, c, h1, h2, h3, h4, h5, h6⟩
  · intro p e s m args below meth c s₁ B hml hP _
    obtain ⟨t, st, o, r1, r2, r3⟩ := body p e s m args below meth c s₁ B hml hP s₁ (by rw [B.state]; rfl) (Stand.of_body B)
    exact ⟨t, o, st, r1, r2, r3⟩
section JM8
variable {p : Program} {l : Launch} {e : Env} {R : Room} {s : State} {m : MethodId} {args : Array Value} {below : List Frame} {meth : Method} {c : Code} {D : va_G} {h0 : Nat} {ex : Nat → Nat} {ka : Nat → ClassId} {Ls : Nat} {xs : Nat → Int32} {M : jm_M} {n0 : Nat} {Q : State → Prop} {i : jm_I} {pc : Nat} {L : List (Option Value)} {S : List Value} {G : jm_h} {cn sn : Nat} {st : jm_St} {YN : List MethodName}
set_option maxHeartbeats 4000000 in
theorem jm_T_intro {d mc ms : Nat} {As : List Value} {Post : Option Value → jm_h → Prop} (hok : jm_ok YN M) (hAs : (jm_e1 As).length ≤ jm_mx M)
    (body : ∀ (p : Program) (l : Launch) (e : Env) (s : State) (m : MethodId) (args : Array Value) (below : List Frame) (meth : Method) (c : Code) (D : va_G) (h0 : Nat) (ex : Nat → Nat) (ka : Nat → ClassId), jm_C p s m args meth c D h0 ex ka Ls xs M (jm_len G) →
      jm_W p l e (jm_room d mc ms) s m args below meth c D h0 ex ka M (jm_len G) (MQ below (jm_Qc D h0 ex ka mc G Post) args s mc ms (fun q => h0 ≤ q)) (0, jm_ent (jm_mx M) As, [], G, 0, 0)) : jm_T Ls xs d M As G mc ms Post := by
  intro l D h0 ex ka
  refine jm_ofW (cc := jm_b M) (maxL := jm_mx M) (ret := jm_rt M) hok.2.2.1 rfl ?_
  intro p e s m args below meth c s₁ B hml hv
  obtain ⟨rfl, hsz, hR, hK, hX⟩ := hv
  have hts := atoms_spec (ws := Cond.code (jm_y M) (jm_b M) (jm_mx M) (jm_rt M) :: jm_tbl) B.pre
  obtain ⟨ls, he, hl⟩ := jm_entry (m := m) (h0 := h0) (ex := ex) As hAs
  rw [he]
  exact body p l e s m _ below meth c D h0 ex ka ⟨B.exec, B.bytes, hml, findClass_of_methodNamed B.named, fun w hw => hts w (List.mem_cons_of_mem _ hw), B.returns, B.notSynchronized, (name_of_methodNamed B.named B.method).1, hK, hsz, hX⟩ rfl s.heap [] ls hR va_S.rf hl
/-- what a method answers, if it returns here -/
def jm_rf (M : jm_M) (e : jm_I) (S : List Value) : Option (Option Value) := if e.2.1 = 1 then (match e.1, S with
  | .ireturn, [.int v] => (match jm_rt M with
    | some .int => some (some (.int v))
    | some ty => if narrow ty (.int v) = .int v then some (some (.int v)) else none
    | none => none)
  | .lreturn, [.long v] => (match jm_rt M with
    | some .long => some (some (.long v))
    | _ => none)
  | .return_, [] => (match jm_rt M with
    | none => some none
    | _ => none)
  | _, _ => none) else none
set_option maxHeartbeats 4000000 in
theorem jm_ret_ok {mc ms : Nat} {G0 : jm_h} {Post : Option Value → jm_h → Prop} {v : Option Value} (C0 : jm_C p s m args meth c D h0 ex ka Ls xs M (jm_len G0)) (hc : jm_ck YN M pc i = true) (h : jm_rf M i S = some v) (hcn : cn = mc) (hsn : sn ≤ ms) (hP : Post v G) :
    jm_W p l e R s m args below meth c D h0 ex ka M (jm_len G0) (MQ below (jm_Qc D h0 ex ka mc G0 Post) args s mc ms (fun q => h0 ≤ q)) (pc, L, S, G, cn, sn) := by
  have hd := jm_ck_dec hc
  obtain ⟨hx, hb, hml, hown, hts, hrt, hlk, hnm, hK, hz, hX⟩ := C0
  obtain ⟨ins, n, la, lb, po⟩ := i
  intro hlen H locs ls hR hS hl
  change jm_len G = jm_len G0 + cn at hlen
  change jm_R D h0 ex ka G H at hR
  subst hcn
  refine W.widen (k := cn) (n := ms) (Nat.le_refl _) hsn ?_
  unfold jm_rf at h
  dsimp only at hd h
  split at h
  · rename_i hn
    subst hn
    split at h
    · split at h
      · rename_i hr
        cases h
        exact W.iret hx hb (hrt.trans hr) (fun t ht hW => ⟨⟨_, G, hP, hlen, rfl, by rw [ht]; exact hR⟩, hS.F ht⟩) hS.2.2 hd
      · rename_i ty hr
        split at h
        · rename_i hnar
          cases h
          exact W.zret hx hb (hrt.trans hr) hnar (fun t ht hW => ⟨⟨_, G, hP, hlen, rfl, by rw [ht]; exact hR⟩, hS.F ht⟩) hS.2.2 hd
        · cases h
      · cases h
    · split at h
      · rename_i hr
        cases h
        exact W.lret hx hb (hrt.trans hr) (fun t ht hW => ⟨⟨_, G, hP, hlen, rfl, by rw [ht]; exact hR⟩, hS.F ht⟩) hS.2.2 hd
      · cases h
    · split at h
      · rename_i hr
        cases h
        exact W.vret hx hb (hrt.trans hr) (fun t ht hW => ⟨⟨_, G, hP, hlen, rfl, by rw [ht]; exact hR⟩, hS.F ht⟩) hS.2.2 hd
      · cases h
    · cases h
  · cases h
end JM8
end
section
/-! ===== calls ===== -/
/-- a call: the callee, its arguments (a receiver first), what stays on the stack -/
def jm_sp (n : Nat) (S : List Value) : List Value × List Value := ((S.take n).reverse, S.drop n)
def jm_cs (r : List Value) : Nat := (r.map fun v => v.category).sum
def jm_rok (G : jm_h) (M1 : jm_M) (b : Nat) : Bool := if jm_rc M1 = 100 then decide (b = 4) else (match jm_g G b with
  | some (.inr (ci, _)) => decide (ci = jm_rc M1)
  | _ => false)
def jm_cf (TB : List jm_M) (e : jm_I) (G : jm_h) (S : List Value) : Option (jm_M × List Value × List Value) := match e.1 with
  | .invokestatic _ => if e.2.1 = 3 ∧ e.2.2.2.1 < 2 then (match TB[e.2.2.1]? with
    | some M1 => if jm_kd M1 = 0 ∧ jm_na M1 ≤ S.length ∧ jm_cs (S.drop (jm_na M1)) ≤ 8 then some (M1, (S.take (jm_na M1)).reverse, S.drop (jm_na M1)) else none
    | none => none) else none
  | .invokevirtual _ => if e.2.1 = 3 ∧ e.2.2.2.1 < 2 then (match TB[e.2.2.1]? with
    | some M1 => if jm_kd M1 = 1 ∧ jm_na M1 ≤ S.length then (match S.drop (jm_na M1) with
      | .ref b :: r => if jm_cs r ≤ 8 ∧ jm_rok G M1 b = true then some (M1, .ref b :: (S.take (jm_na M1)).reverse, r) else none
      | _ => none) else none
    | none => none) else none
  | .invokespecial _ => if e.2.1 = 3 ∧ e.2.2.2.1 < 2 then (match TB[e.2.2.1]? with
    | some M1 => if jm_kd M1 = 2 ∧ jm_na M1 ≤ S.length then (match S.drop (jm_na M1) with
      | .ref b :: r => if jm_cs r ≤ 8 ∧ 8 ≤ b then some (M1, .ref b :: (S.take (jm_na M1)).reverse, r) else none
      | _ => none) else none
    | none => none) else none
  | _ => none
theorem jm_cs_cv (h0 : Nat) (ex : Nat → Nat) (r : List Value) : ((r.map (jm_cv h0 ex)).map fun v => v.category).sum = jm_cs r := by
  unfold jm_cs
  congr 1
  rw [List.map_map]
  apply List.map_congr_left
  intro v _
  exact jm_cv_cat h0 ex v
theorem jm_Pc_blind {D : va_G} {h0 : Nat} {ex : Nat → Nat} {ka : Nat → ClassId} {Ls : Nat} {xs : Nat → Int32} {As : List Value} {G : jm_h} : FrameBlind (jm_Pc D h0 ex ka Ls xs As G) := by
  intro a U g mk h
  obtain ⟨h1, h2, h3, h4, h5⟩ := h
  exact ⟨h1, h2, h3, va_K.moved (u := U) (U := U.calling g mk a) (Vm.Alike.refl U.vm) h4, jm_X_call h5⟩
theorem jm_goodIn (M1 : jm_M) (h : Cond.code (jm_y M1) (jm_b M1) (jm_mx M1) (jm_rt M1) ∈ jm_tbl) : GoodIn jm_tbl (Cond.code (jm_y M1) (jm_b M1) (jm_mx M1) (jm_rt M1) :: jm_tbl) := by
  intro w hw
  rcases List.mem_cons.mp hw with rfl | hw
  · exact ⟨h, jm_tbl_good h⟩
  · exact ⟨hw, jm_tbl_good hw⟩
section JM9
variable {p : Program} {l : Launch} {e : Env} {R : Room} {s : State} {m : MethodId} {args : Array Value} {below : List Frame} {meth : Method} {c : Code} {D : va_G} {h0 : Nat} {ex : Nat → Nat} {ka : Nat → ClassId} {Ls : Nat} {xs : Nat → Int32} {M : jm_M} {n0 : Nat} {Q : State → Prop} {i : jm_I} {pc : Nat} {L : List (Option Value)} {S : List Value} {G : jm_h} {cn sn : Nat} {st : jm_St} {YN : List MethodName} {TB : List jm_M}
/-- behind a call -/
theorem jm_cont {H : Heap} {locs : List Loc} {ls : Array Slot} {mc ms : Nat} {st0 rest : List Value} {a : Array Value} {Post : Option Value → jm_h → Prop}
    (hr : va_Run p l e R s m args below meth c H locs cn sn mc ms (F0 m pc ls st0) (rest.map (jm_cv h0 ex)) (jm_Qc D h0 ex ka mc G Post a) (fun q => h0 ≤ q)) (hS : va_S (fun q => h0 ≤ q) s.heap H locs) (hl : jm_L h0 ex ls (jm_mx M) L) (hlen : jm_len G = n0 + cn)
    (k : ∀ (v : Option Value) (G1 : jm_h), Post v G1 → jm_len G1 = jm_len G + mc → jm_W p l e R s m args below meth c D h0 ex ka M n0 Q (pc + 3, L, v.toList ++ rest, G1, cn + mc, sn + ms)) : W p l e R s m args below meth c H locs cn sn Q (F0 m pc ls st0) := by
  intro T hT X
  obtain ⟨v, st₀, t, T', L', e0, X', hL, e1, e2, ⟨⟨v1, G1, hP, hlen1, ho, hR1⟩, hz, hk⟩, go⟩ := hr T hT X
  cases ho
  rw [e0] at hz hk
  have hS1 : va_S (fun q => h0 ≤ q) s.heap T'.heap (locs ++ L') := by
    rw [e1]
    refine ⟨Nat.le_trans hS.1 hz, fun q h1 h2 => (hk q (Nat.lt_of_lt_of_le h1 hS.1) h2).trans (hS.2.1 q h1 h2), fun q hq => ?_⟩
    rcases List.mem_append.mp hq with h | h
    · exact hS.2.2 q h
    · exact hL q h
  obtain ⟨t2, a1, b1⟩ := k v1 G1 hP hlen1 (show jm_len G1 = n0 + (cn + mc) by omega) T'.heap (locs ++ L') ls (by rw [e1]; exact hR1) hS1 hl T' rfl X'
  refine ⟨t2, go t2 ?_, b1⟩
  have : (v1.toList ++ rest).map (jm_cv h0 ex) = (v1.map (jm_cv h0 ex)).toList ++ rest.map (jm_cv h0 ex) := by cases v1 <;> simp
  dsimp only at a1
  rw [this] at a1
  exact a1
set_option maxHeartbeats 8000000 in
theorem jm_call_ok {d mc ms : Nat} {M1 : jm_M} {As rest : List Value} {Post : Option Value → jm_h → Prop} (hTB : ∀ (k : Nat) (M' : jm_M), TB[k]? = some M' → jm_ok YN M') (hYN : YN = TB.map jm_y) (C0 : jm_C p s m args meth c D h0 ex ka Ls xs M n0) (hc : jm_ck YN M pc i = true) (h : jm_cf TB i G S = some (M1, As, rest))
    (hT : jm_T Ls xs d M1 As G mc ms Post) (hfr : d + 1 ≤ R.frames) (hlo : 64 * d + 64 ≤ R.locals) (hcc : cn + mc ≤ R.cells) (hss : sn + ms ≤ R.slots)
    (k : ∀ (v : Option Value) (G1 : jm_h), Post v G1 → jm_len G1 = jm_len G + mc → jm_W p l e R s m args below meth c D h0 ex ka M n0 Q (pc + 3, L, v.toList ++ rest, G1, cn + mc, sn + ms)) : jm_W p l e R s m args below meth c D h0 ex ka M n0 Q (pc, L, S, G, cn, sn) := by
  have hd := jm_ck_dec hc
  obtain ⟨hx, hb, hml, hown, hts, hrt, hlk, hnm, hK, hz, hX⟩ := C0
  obtain ⟨ins, n, la, lb, po⟩ := i
  unfold jm_ck at hc
  rw [Bool.and_eq_true] at hc
  obtain ⟨-, hc⟩ := hc
  intro hlen H locs ls hR hS hl
  change jm_len G = n0 + cn at hlen
  change jm_R D h0 ex ka G H at hR
  change jm_L h0 ex ls (jm_mx M) L at hl
  show W p l e R s m args below meth c H locs cn sn Q (F0 m pc ls (S.map (jm_cv h0 ex)))
  refine jm_size hz hlen hR hS (fun hsz => ?_)
  have hPre : ∀ U : State, U.heap = H → s.WarmedH U.vm → jm_Pc D h0 ex ka Ls xs As G (As.map (jm_cv h0 ex)).toArray U := fun U hU hW => ⟨rfl, by rw [hU]; exact hsz, by rw [hU]; exact hR, va_K.moved hW.alike hK, jm_X_to hX hS hU hW⟩
  have fix : CallFix p m c (jm_b M) (jm_mx M) s args jm_tbl (jm_y M).cls := ⟨hx, hb, hml, hown, hts⟩
  have key : ∀ (M2 : jm_M), TB[la]? = some M2 → YN[la]? = some (jm_y M2) ∧ jm_ok YN M2 := fun M2 h2 => ⟨by rw [hYN, List.getElem?_map, h2]; rfl, hTB _ _ h2⟩
  have base : ∀ (M2 : jm_M) (idx : Nat), jm_ok YN M2 → (Cond.methodLink (jm_y M).cls idx (jm_y M2)).before args s = true → CallB R s args (jm_y M).cls idx (jm_y M2) (jm_b M2) (jm_mx M2) (jm_rt M2) (Cond.code (jm_y M2) (jm_b M2) (jm_mx M2) (jm_rt M2) :: jm_tbl) (jm_room d mc ms) mc ms (jm_na M2) := by
    intro M2 idx ok hlink
    obtain ⟨o1, o2, o3, o4, o5, o6, -⟩ := ok
    exact callB_of (jm_na M2) hts (jm_goodIn M2 o1) rfl rfl rfl (hts _ o2) hlink ⟨o4.1, o4.2, o5⟩ ⟨hfr, by show 8 + (jm_mx M2 + 11) + 64 * d ≤ R.locals; omega⟩
  have nest : ∀ (M2 : jm_M) (idx : Nat), jm_ok YN M2 → (Cond.methodLinkNest (jm_y M).cls idx (jm_y M2) "FallMarket").before args s = true → va_CN R s args (jm_y M).cls idx (jm_y M2) "FallMarket" (jm_b M2) (jm_mx M2) (jm_rt M2) (Cond.code (jm_y M2) (jm_b M2) (jm_mx M2) (jm_rt M2) :: jm_tbl) (jm_room d mc ms) mc ms (jm_na M2) := by
    intro M2 idx ok hlink
    obtain ⟨o1, o2, o3, o4, o5, o6, -⟩ := ok
    refine ⟨⟨rfl, rfl, hfr, by show 8 + (jm_mx M2 + 11) + 64 * d ≤ R.locals; omega, pay_in hts (jm_goodIn M2 o1), List.mem_cons_self⟩, hts _ o1, hts _ o2, o4, fun sig hsig => ?_, hlink⟩
    rw [hsig] at o5
    exact (Option.some.inj o5).symm
  unfold jm_cf at h
  dsimp only at hd h hc
  split at h
  · split at h
    · rename_i hn
      obtain ⟨hn, hlb⟩ := hn
      subst hn
      split at h
      · rename_i M2 hM2
        split at h
        · rename_i hcond
          obtain ⟨hkd, hna, hcs⟩ := hcond
          cases h
          obtain ⟨hy, hok⟩ := key _ hM2
          dsimp only at hc
          have hlb2 : ¬ lb = 2 := by omega
          rw [if_neg hlb2, hy] at hc
          dsimp only at hc
          have hstk : S.map (jm_cv h0 ex) = (((S.take (jm_na M1)).reverse).map (jm_cv h0 ex)).reverse ++ (S.drop (jm_na M1)).map (jm_cv h0 ex) := by rw [← List.map_reverse, List.reverse_reverse, ← List.map_append, List.take_append_drop]
          have hlenA : (((S.take (jm_na M1)).reverse).map (jm_cv h0 ex)).length = jm_na M1 := by simp; omega
          by_cases h1 : lb = 1
          · rw [if_pos h1] at hc
            exact jm_cont (va_runSN (g := F0 m pc ls (S.map (jm_cv h0 ex))) (As := ((S.take (jm_na M1)).reverse).map (jm_cv h0 ex)) (rest := (S.drop (jm_na M1)).map (jm_cv h0 ex)) fix (hT l D h0 ex ka) ⟨nest M1 _ hok (jm_atn_use hc hX.2.2.2.2.2.2.2.2), hts _ (hok.2.2.2.2.2.2.1 hkd), trivial⟩ ⟨jm_Pc_blind, hPre⟩ rfl hlenA hl.1 hstk (lv_room (by rw [jm_cs_cv]; exact hcs)) hd ⟨hcc, hss⟩) hS hl hlen k
          · rw [if_neg h1] at hc
            exact jm_cont (va_runS (g := F0 m pc ls (S.map (jm_cv h0 ex))) (As := ((S.take (jm_na M1)).reverse).map (jm_cv h0 ex)) (rest := (S.drop (jm_na M1)).map (jm_cv h0 ex)) fix (hT l D h0 ex ka) ⟨base M1 _ hok (hts _ (jm_at_mem hc)), hts _ (hok.2.2.2.2.2.2.1 hkd)⟩ ⟨jm_Pc_blind, hPre⟩ rfl hlenA hl.1 hstk (lv_room (by rw [jm_cs_cv]; exact hcs)) hd ⟨hcc, hss⟩) hS hl hlen k
        · cases h
      · cases h
    · cases h
  · split at h
    · rename_i hn
      obtain ⟨hn, hlb⟩ := hn
      subst hn
      split at h
      · rename_i M2 hM2
        split at h
        · rename_i hcond
          obtain ⟨hkd, hna⟩ := hcond
          split at h
          · rename_i b r hdrop
            split at h
            · rename_i hcond2
              obtain ⟨hcs, hrok⟩ := hcond2
              cases h
              obtain ⟨hy, hok⟩ := key _ hM2
              dsimp only at hc
              rw [hy] at hc
              dsimp only at hc
              obtain ⟨w1, w2, w3⟩ := hok.2.2.2.2.2.2.2.1 hkd
              have hb6 : ¬ b = 6 := by
                unfold jm_rok at hrok
                split at hrok
                · have h4 := of_decide_eq_true hrok
                  exact fun e => by rw [h4] at e; exact absurd e (by decide)
                · split at hrok
                  · rename_i hg
                    have h8 := jm_g_ge hg
                    exact fun e => by rw [e] at h8; exact absurd h8 (by decide)
                  · cases hrok
              have hstk : S.map (jm_cv h0 ex) = (((S.take (jm_na M1)).reverse).map (jm_cv h0 ex)).reverse ++ .ref (jm_ad h0 ex b) :: rest.map (jm_cv h0 ex) := by
                rw [← List.map_reverse, List.reverse_reverse, show Value.ref (jm_ad h0 ex b) = jm_cv h0 ex (.ref b) from (jm_cvr hb6).symm, ← List.map_cons, ← hdrop, ← List.map_append, List.take_append_drop]
              have hlenA : (((S.take (jm_na M1)).reverse).map (jm_cv h0 ex)).length = jm_na M1 := by simp; omega
              have hPre' : ∀ U : State, U.heap = H → s.WarmedH U.vm → jm_Pc D h0 ex ka Ls xs (.ref b :: (S.take (jm_na M1)).reverse) G (Value.ref (jm_ad h0 ex b) :: ((S.take (jm_na M1)).reverse).map (jm_cv h0 ex)).toArray U := by
                rw [← jm_cvr (h0 := h0) (ex := ex) hb6]
                exact hPre
              have hrecv : ∃ cellB : Cell, H[jm_ad h0 ex b]? = some cellB ∧ cellB.vm.isStatics = false ∧ s.vm.findClass (jm_y M1).cls = some cellB.cls := by
                unfold jm_rok at hrok
                by_cases h100 : jm_rc M1 = 100
                · rw [if_pos h100] at hrok
                  have hb4 := of_decide_eq_true hrok
                  subst hb4
                  rcases w3 with ⟨-, w3⟩ | w3
                  · obtain ⟨cell, c1, c2, c3, -⟩ := (hX.2.2.2.2.2.1.1).kept hS.2.1
                    exact ⟨cell, c1, c2, by rw [w3]; exact c3⟩
                  · rw [h100] at w3
                    simp [vwCl] at w3
                · rw [if_neg h100] at hrok
                  split at hrok
                  · rename_i ci fs hg
                    have hci := of_decide_eq_true hrok
                    rcases w3 with ⟨w3, -⟩ | w3
                    · exact absurd w3 h100
                    · cases hq : vwCl[jm_rc M1]? with
                      | none => rw [hq] at w3; cases w3
                      | some q =>
                        rw [hq] at w3
                        have w3 : q.1 = (jm_y M1).cls := Option.some.inj w3
                        have := va_recv (ci := ci) (q0 := jm_fi b) hK hR.2 (by rw [hci]; exact hq) (jm_at_w hR hg)
                        rw [jm_g_ad hg, ← w3]
                        exact this
                  · cases hrok
              by_cases h1 : lb = 1
              · rw [if_pos h1] at hc
                exact jm_cont (va_runVN (C := (jm_y M1).cls) (b := jm_ad h0 ex b) (g := F0 m pc ls (S.map (jm_cv h0 ex))) (As := ((S.take (jm_na M1)).reverse).map (jm_cv h0 ex)) (rest := rest.map (jm_cv h0 ex)) fix (hT l D h0 ex ka) ⟨nest M1 _ hok (jm_atn_use hc hX.2.2.2.2.2.2.2.2), hts _ w1, hts _ w2⟩ ⟨jm_Pc_blind, hrecv, hPre'⟩ rfl hlenA hl.1 hstk (lv_room (by rw [jm_cs_cv]; exact hcs)) hd ⟨hcc, hss⟩) hS hl hlen k
              · rw [if_neg h1] at hc
                exact jm_cont (va_runV (C := (jm_y M1).cls) (b := jm_ad h0 ex b) (g := F0 m pc ls (S.map (jm_cv h0 ex))) (As := ((S.take (jm_na M1)).reverse).map (jm_cv h0 ex)) (rest := rest.map (jm_cv h0 ex)) fix (hT l D h0 ex ka) ⟨base M1 _ hok (hts _ (jm_at_mem hc)), hts _ w1, hts _ w2⟩ ⟨jm_Pc_blind, hrecv, hPre'⟩ rfl hlenA hl.1 hstk (lv_room (by rw [jm_cs_cv]; exact hcs)) hd ⟨hcc, hss⟩) hS hl hlen k
            · cases h
          · cases h
        · cases h
      · cases h
    · cases h
  · split at h
    · rename_i hn
      obtain ⟨hn, hlb⟩ := hn
      subst hn
      split at h
      · rename_i M2 hM2
        split at h
        · rename_i hcond
          obtain ⟨hkd, hna⟩ := hcond
          split at h
          · rename_i b r hdrop
            split at h
            · rename_i hcs
              obtain ⟨hcs, hb8⟩ := hcs
              cases h
              have hb6 : ¬ b = 6 := fun e => by subst e; exact absurd hb8 (by decide)
              obtain ⟨hy, hok⟩ := key _ hM2
              dsimp only at hc
              have hlb2 : ¬ lb = 2 := by omega
              rw [if_neg hlb2, hy] at hc
              dsimp only at hc
              obtain ⟨w1, w2, w3⟩ := hok.2.2.2.2.2.2.2.2.1 hkd
              have hstk : S.map (jm_cv h0 ex) = (((S.take (jm_na M1)).reverse).map (jm_cv h0 ex)).reverse ++ .ref (jm_ad h0 ex b) :: rest.map (jm_cv h0 ex) := by
                rw [← List.map_reverse, List.reverse_reverse, show Value.ref (jm_ad h0 ex b) = jm_cv h0 ex (.ref b) from (jm_cvr hb6).symm, ← List.map_cons, ← hdrop, ← List.map_append, List.take_append_drop]
              have hlenA : (((S.take (jm_na M1)).reverse).map (jm_cv h0 ex)).length = jm_na M1 := by simp; omega
              have hPre' : ∀ U : State, U.heap = H → s.WarmedH U.vm → jm_Pc D h0 ex ka Ls xs (.ref b :: (S.take (jm_na M1)).reverse) G (Value.ref (jm_ad h0 ex b) :: ((S.take (jm_na M1)).reverse).map (jm_cv h0 ex)).toArray U := by
                rw [← jm_cvr (h0 := h0) (ex := ex) hb6]
                exact hPre
              by_cases h1 : lb = 1
              · rw [if_pos h1] at hc
                have hb := nest M1 _ hok (jm_atn_use hc hX.2.2.2.2.2.2.2.2)
                have hM := hT l D h0 ex ka
                rw [w3] at hb hM
                exact jm_cont (va_runIN (b := jm_ad h0 ex b) (g := F0 m pc ls (S.map (jm_cv h0 ex))) (As := ((S.take (jm_na M1)).reverse).map (jm_cv h0 ex)) (rest := rest.map (jm_cv h0 ex)) fix hM ⟨hb, w2, hts _ w1⟩ ⟨jm_Pc_blind, hPre'⟩ rfl hlenA hl.1 hstk (lv_room (by rw [jm_cs_cv]; exact hcs)) hd ⟨hcc, hss⟩) hS hl hlen k
              · rw [if_neg h1] at hc
                have hb := base M1 _ hok (hts _ (jm_at_mem hc))
                have hM := hT l D h0 ex ka
                rw [w3] at hb hM
                exact jm_cont (va_runI (b := jm_ad h0 ex b) (g := F0 m pc ls (S.map (jm_cv h0 ex))) (As := ((S.take (jm_na M1)).reverse).map (jm_cv h0 ex)) (rest := rest.map (jm_cv h0 ex)) fix hM ⟨hb, w2, hts _ w1⟩ ⟨jm_Pc_blind, hPre'⟩ rfl hlenA hl.1 hstk (lv_room (by rw [jm_cs_cv]; exact hcs)) hd ⟨hcc, hss⟩) hS hl hlen k
            · cases h
          · cases h
        · cases h
      · cases h
    · cases h
  · cases h
end JM9
end
section
/-! ===== Object's constructor, arraycopy; the whole step; runs ===== -/
def jm_cpy (f g : List Int32) (sp dp n : Nat) : List Int32 := (List.range (Nat.max (dp + n) g.length)).map fun k => bif Nat.ble dp k && Nat.ble (k + 1) (dp + n) then f.getD (sp + (k - dp)) 0 else g.getD k 0
theorem jm_cpy_eq (f g : List Int32) (sp dp n : Nat) : va_cpy (fun j => f.getD j 0) (fun j => g.getD j 0) sp dp n = fun j => (jm_cpy f g sp dp n).getD j 0 := by
  funext k
  unfold va_cpy jm_cpy
  rw [List.getD_eq_getElem?_getD, List.getElem?_map]
  by_cases hk : k < Nat.max (dp + n) g.length
  · rw [List.getElem?_range hk]
    show _ = (bif Nat.ble dp k && Nat.ble (k + 1) (dp + n) then f.getD (sp + (k - dp)) 0 else g.getD k 0)
    cases hb : Nat.ble dp k && Nat.ble (k + 1) (dp + n) with
    | true =>
      rw [Bool.and_eq_true] at hb
      have h1 := Nat.le_of_ble_eq_true hb.1
      have h2 := Nat.le_of_ble_eq_true hb.2
      rw [if_pos ⟨h1, by omega⟩]
      rfl
    | false =>
      rw [if_neg]
      · rfl
      · rintro ⟨h1, h2⟩
        rw [Nat.ble_eq_true_of_le h1, Nat.ble_eq_true_of_le (show k + 1 ≤ dp + n by omega)] at hb
        cases hb
  · have hm : dp + n ≤ k ∧ g.length ≤ k := by
      have := Nat.not_lt.mp hk
      exact ⟨Nat.le_trans (Nat.le_max_left _ _) this, Nat.le_trans (Nat.le_max_right _ _) this⟩
    rw [List.getElem?_eq_none (by simpa using Nat.not_lt.mp hk), if_neg (by omega)]
    show g.getD k 0 = 0
    rw [List.getD_eq_getElem?_getD, List.getElem?_eq_none hm.2]
    rfl
def jm_d3 (e : jm_I) (pc : Nat) (L : List (Option Value)) (S : List Value) (G : jm_h) (q : Nat × Nat) : Option jm_St := match e.1 with
  | .invokespecial _ => if e.2.1 = 3 ∧ e.2.2.2.1 = 2 then (match S with
    | .ref a :: r => if jm_cs r ≤ 8 ∧ 8 ≤ a then some (pc + 3, L, r, G, q) else none
    | _ => none) else none
  | .invokestatic _ => if e.2.1 = 3 ∧ e.2.2.2.1 = 2 then (match S with
    | .int n :: .int dp :: .ref a1 :: .int sp :: .ref a0 :: r => (match jm_g G a0, jm_g G a1 with
      | some (.inl (k0, n0, .inl f)), some (.inl (k1, n1, .inl g)) => if (k0 = 0 ∧ k1 = 0) ∧ (¬ sp < 0 ∧ ¬ dp < 0 ∧ ¬ n < 0) ∧ (sp.toNatClampNeg + n.toNatClampNeg ≤ n0 ∧ dp.toNatClampNeg + n.toNatClampNeg ≤ n1) ∧ jm_cs r ≤ 8 then some (pc + 3, L, r, jm_s G a1 (.inl (0, n1, .inl (jm_cpy f g sp.toNatClampNeg dp.toNatClampNeg n.toNatClampNeg))), q) else none
      | _, _ => none)
    | _ => none) else none
  | _ => none
theorem jm_wcopy : Cond.native arraycopyName ∈ jm_tbl ∧ Cond.static arraycopyName ∈ jm_tbl ∧ Cond.initialized "java/lang/System" ∈ jm_tbl := ⟨jm_tbl_mem (by decide +kernel) (by decide +kernel), jm_tbl_mem (by decide +kernel) (by decide +kernel), jm_tbl_mem (by decide +kernel) (by decide +kernel)⟩
theorem jm_winit : Cond.instanceMethod objectInit ∈ jm_tbl ∧ Cond.code objectInit ⟨#[0xb1]⟩ 1 none ∈ jm_tbl := ⟨jm_tbl_mem (by decide +kernel) (by decide +kernel), jm_tbl_mem (List.mem_of_getElem? (i := 120) rfl) rfl⟩
def jm_step (M : jm_M) (Ls : Nat) (xs : Nat → Int32) (bc bs : Nat) (e : jm_I) (pc : Nat) (L : List (Option Value)) (S : List Value) (G : jm_h) (q : Nat × Nat) : Option jm_St :=
  match jm_a1 e.1 e.2.1 pc L S G q with
  | some r => some r
  | none => match jm_d1 e pc L S G q with
    | some r => some r
    | none => match jm_b1 e.1 e.2.1 pc L S G q with
      | some r => some r
      | none => match jm_c1 e.1 e.2.1 pc L S G q with
        | some r => some r
        | none => match jm_a2 (jm_mx M) e.1 e.2.1 pc L S G q with
          | some r => some r
          | none => match jm_d2 M Ls xs bc bs e pc L S G q with
            | some r => some r
            | none => match jm_b2 e.1 e.2.1 pc L S G q with
              | some r => some r
              | none => jm_d3 e pc L S G q
section JM10
variable {p : Program} {l : Launch} {e : Env} {R : Room} {s : State} {m : MethodId} {args : Array Value} {below : List Frame} {meth : Method} {c : Code} {D : va_G} {h0 : Nat} {ex : Nat → Nat} {ka : Nat → ClassId} {Ls : Nat} {xs : Nat → Int32} {M : jm_M} {n0 : Nat} {Q : State → Prop} {i : jm_I} {pc : Nat} {L : List (Option Value)} {S : List Value} {G : jm_h} {cn sn : Nat} {st : jm_St} {YN : List MethodName} {TB : List jm_M}
set_option maxHeartbeats 4000000 in
theorem jm_d3_ok (C0 : jm_C p s m args meth c D h0 ex ka Ls xs M n0) (hfr : 1 ≤ R.frames) (hlo : 64 ≤ R.locals) (hc : jm_ck YN M pc i = true) (h : jm_d3 i pc L S G (cn, sn) = some st) (k : jm_W p l e R s m args below meth c D h0 ex ka M n0 Q st) : jm_W p l e R s m args below meth c D h0 ex ka M n0 Q (pc, L, S, G, cn, sn) := by
  have hd := jm_ck_dec hc
  obtain ⟨hx, hb, hml, hown, hts, hrt, hlk, hnm, hK, hz, hX⟩ := C0
  obtain ⟨ins, n, la, lb, po⟩ := i
  unfold jm_ck at hc
  rw [Bool.and_eq_true] at hc
  obtain ⟨-, hc⟩ := hc
  intro hlen H locs ls hR hS hl
  change jm_len G = n0 + cn at hlen
  change jm_R D h0 ex ka G H at hR
  change jm_L h0 ex ls (jm_mx M) L at hl
  unfold jm_d3 at h
  dsimp only at hd hc h
  split at h
  · split at h
    · rename_i hn
      obtain ⟨hn, hlb⟩ := hn
      subst hn
      split at h
      · rename_i a r
        split at h
        · rename_i hcs
          obtain ⟨hcs, ha8⟩ := hcs
          cases h
          dsimp only at hc
          rw [if_pos hlb] at hc
          show W p l e R s m args below meth c H locs cn sn Q (F0 m pc ls (jm_cv h0 ex (.ref a) :: r.map (jm_cv h0 ex)))
          rw [jm_cvr (fun e => by subst e; exact absurd ha8 (by decide))]
          have hroom := lv_room (m := m) (pc := pc) (ls := ls) (rest := .ref (jm_ad h0 ex a) :: r.map (jm_cv h0 ex)) (st := r.map (jm_cv h0 ex)) (by rw [jm_cs_cv]; exact hcs)
          exact W.objInit hx hb hown (hts _ (jm_at_mem hc)) (hts _ jm_winit.1) (hts _ jm_winit.2) rfl (by rw [hml]; exact hl.1) rfl hd hfr (by omega) (k hlen H locs ls hR hS hl)
        · cases h
      · cases h
    · cases h
  · split at h
    · rename_i hn
      obtain ⟨hn, hlb⟩ := hn
      subst hn
      split at h
      · rename_i nn dp a1 sp a0 r
        split at h
        · rename_i k0 m0 f k1 m1 g hg0 hg1
          split at h
          · rename_i hcond
            obtain ⟨⟨hk0, hk1⟩, ⟨b1, b2, b3⟩, ⟨b4, b5⟩, hcs⟩ := hcond
            subst hk0
            subst hk1
            cases h
            dsimp only at hc
            rw [if_pos hlb] at hc
            show W p l e R s m args below meth c H locs cn sn Q (F0 m pc ls (.int nn :: .int dp :: jm_cv h0 ex (.ref a1) :: .int sp :: jm_cv h0 ex (.ref a0) :: r.map (jm_cv h0 ex)))
            rw [jm_ref hg0, jm_ref hg1]
            refine va_copyi hx hb (by rw [hml]; exact hl.1.symm) hown (hts _ (jm_at_mem hc)) (hts _ jm_wcopy.1) (hts _ jm_wcopy.2.1) (hts _ jm_wcopy.2.2) hK hR.2 (jm_D h0 ex ka G) hS (jm_fi a0) (jm_fi a1) 0 0 (jm_at_w hR hg0) (jm_at_w hR hg1) rfl rfl rfl b1 b2 b3 b4 b5 (fun _ _ => rfl) hfr ?_ hd (fun H1 locs1 hP1 _ hS1 => ?_)
            · rw [jm_cs_cv]
              have : nativeFrameWords "java/lang/System" "arraycopy" 5 = 7 := by decide
              omega
            · rw [jm_cpy_eq] at hP1
              exact k (by rw [jm_s_len]; exact hlen) H1 locs1 ls (jm_R_set (d1 := .inl (0, m1, .inl (jm_cpy f g sp.toNatClampNeg dp.toNatClampNeg nn.toNatClampNeg))) hR hg1 hP1) hS1 hl
          · cases h
        · cases h
      · cases h
    · cases h
  · cases h
theorem jm_step_ok {bc bs : Nat} (C0 : jm_C p s m args meth c D h0 ex ka Ls xs M n0) (hbc : bc ≤ R.cells) (hbs : bs ≤ R.slots) (hfr : 1 ≤ R.frames) (hlo : 64 ≤ R.locals) (hc : jm_ck YN M pc i = true) (h : jm_step M Ls xs bc bs i pc L S G (cn, sn) = some st) (k : jm_W p l e R s m args below meth c D h0 ex ka M n0 Q st) : jm_W p l e R s m args below meth c D h0 ex ka M n0 Q (pc, L, S, G, cn, sn) := by
  have hd := jm_ck_dec hc
  unfold jm_step at h
  split at h
  · rename_i h1
    cases h
    exact jm_a1_ok C0 hd h1 k
  · split at h
    · rename_i h1
      cases h
      exact jm_d1_ok C0 hc h1 k
    · split at h
      · rename_i h1
        cases h
        exact jm_b1_ok C0 hd h1 k
      · split at h
        · rename_i h1
          cases h
          exact jm_c1_ok C0 hd h1 k
        · split at h
          · rename_i h1
            cases h
            exact jm_a2_ok C0 hd h1 k
          · split at h
            · rename_i h1
              cases h
              exact jm_d2_ok C0 hbc hbs hc h1 k
            · split at h
              · rename_i h1
                cases h
                exact jm_b2_ok C0 hd h1 k
              · exact jm_d3_ok C0 hfr hlo hc h k
end JM10
/-- a run from a state to the method's end: answer, cells, how many were made -/
def jm_ev (TB : List jm_M) (BG : List (Nat × Nat)) (Ls : Nat) (xs : Nat → Int32) : Nat → Nat → jm_M → Nat → Nat → Nat → List (Option Value) → List Value → jm_h → Nat → Nat → Option (Option Value × jm_h × Nat × Nat)
  | 0, _, _, _, _, _, _, _, _, _, _ => none
  | n + 1, d, M, bc, bs, pc, L, S, G, cn, sn => match jm_in M pc with
    | none => none
    | some e => match jm_step M Ls xs bc bs e pc L S G (cn, sn) with
      | some (pc', L', S', G', cn', sn') => jm_ev TB BG Ls xs n d M bc bs pc' L' S' G' cn' sn'
      | none => match jm_rf M e S with
        | some v => some (v, G, cn, sn)
        | none => match d with
          | 0 => none
          | d' + 1 => match jm_cf TB e G S, BG[e.2.2.1]? with
            | some (M1, As, rest), some (mc, ms) => if (jm_e1 As).length ≤ jm_mx M1 ∧ cn + mc ≤ bc ∧ sn + ms ≤ bs then (match jm_ev TB BG Ls xs n d' M1 mc ms 0 (jm_ent (jm_mx M1) As) [] G 0 0 with
              | some (v, G1, c1, s1) => if c1 = mc ∧ s1 ≤ ms then jm_ev TB BG Ls xs n d M bc bs (pc + 3) L (v.toList ++ rest) G1 (cn + mc) (sn + ms) else none
              | none => none) else none
            | _, _ => none
set_option maxHeartbeats 4000000 in
theorem jm_ev_ok {TB : List jm_M} {YN : List MethodName} {BG : List (Nat × Nat)} {Ls : Nat} {xs : Nat → Int32} (hTB : ∀ (k : Nat) (M' : jm_M), TB[k]? = some M' → jm_ok YN M') (hYN : YN = TB.map jm_y) :
    ∀ (n d : Nat) (M : jm_M) (bc bs pc : Nat) (L : List (Option Value)) (S : List Value) (G : jm_h) (cn sn : Nat) (v : Option Value) (G1 : jm_h) (c1 s1 : Nat), jm_tck YN M 0 (jm_tb M) = true → jm_ev TB BG Ls xs n d M bc bs pc L S G cn sn = some (v, G1, c1, s1) →
      ∀ {p : Program} {l : Launch} {e : Env} {s : State} {m : MethodId} {args : Array Value} {below : List Frame} {meth : Method} {c : Code} {D : va_G} {h0 : Nat} {ex : Nat → Nat} {ka : Nat → ClassId} {G0 : jm_h} {Post : Option Value → jm_h → Prop}, jm_C p s m args meth c D h0 ex ka Ls xs M (jm_len G0) → c1 = bc → s1 ≤ bs → Post v G1 →
      jm_W p l e (jm_room (d + 1) bc bs) s m args below meth c D h0 ex ka M (jm_len G0) (MQ below (jm_Qc D h0 ex ka bc G0 Post) args s bc bs (fun q => h0 ≤ q)) (pc, L, S, G, cn, sn) := by
  intro n
  induction n with
  | zero => intro d M bc bs pc L S G cn sn v G1 c1 s1 _ h; cases h
  | succ n ih =>
    intro d M bc bs pc L S G cn sn v G1 c1 s1 htc h p l e s m args below meth c D h0 ex ka G0 Post C0 hc1 hs1 hP
    rw [jm_ev] at h
    split at h
    · cases h
    · rename_i i hi
      have hc := jm_in_ck htc hi
      split at h
      · rename_i pc' L' S' G' cn' sn' hst
        exact jm_step_ok C0 (Nat.le_refl _) (Nat.le_refl _) (show 1 ≤ d + 1 by omega) (show 64 ≤ 64 * (d + 1) by omega) hc hst (ih d M bc bs pc' L' S' G' cn' sn' v G1 c1 s1 htc h C0 hc1 hs1 hP)
      · split at h
        · rename_i w hw
          cases h
          exact jm_ret_ok C0 hc hw hc1 hs1 hP
        · split at h
          · cases h
          · rename_i d'
            split at h
            · rename_i M1 As rest mc ms hcf hbg
              split at h
              · rename_i hcond
                obtain ⟨hA, hm1, hm2⟩ := hcond
                split at h
                · rename_i w G2 c2 s2 hev
                  split at h
                  · rename_i hcond2
                    obtain ⟨rfl, hs2⟩ := hcond2
                    have hM1 : jm_ok YN M1 := by
                      unfold jm_cf at hcf
                      have gen : ∀ {k : Nat} {X : jm_M}, TB[k]? = some X → jm_ok YN X := fun h => hTB _ _ h
                      split at hcf
                      · split at hcf
                        · split at hcf
                          · rename_i hq
                            split at hcf
                            · cases hcf; exact gen hq
                            · cases hcf
                          · cases hcf
                        · cases hcf
                      · split at hcf
                        · split at hcf
                          · rename_i hq
                            split at hcf
                            · split at hcf
                              · split at hcf
                                · cases hcf; exact gen hq
                                · cases hcf
                              · cases hcf
                            · cases hcf
                          · cases hcf
                        · cases hcf
                      · split at hcf
                        · split at hcf
                          · rename_i hq
                            split at hcf
                            · split at hcf
                              · split at hcf
                                · cases hcf; exact gen hq
                                · cases hcf
                              · cases hcf
                            · cases hcf
                          · cases hcf
                        · cases hcf
                      · cases hcf
                    have hT : jm_T Ls xs (d' + 1) M1 As G c2 ms (fun v G => v = w ∧ G = G2) := by
                      refine jm_T_intro hM1 hA (fun p l e s m args below meth c D h0 ex ka C1 => ?_)
                      exact ih d' M1 c2 ms 0 _ [] G 0 0 w G2 c2 s2 hM1.2.2.2.2.2.2.2.2.2 hev C1 rfl hs2 ⟨rfl, rfl⟩
                    refine jm_call_ok hTB hYN C0 hc hcf hT (show d' + 1 + 1 ≤ d' + 1 + 1 by omega) (show 64 * (d' + 1) + 64 ≤ 64 * (d' + 1 + 1) by omega) hm1 hm2 (fun v1 G3 hq hlen3 => ?_)
                    obtain ⟨rfl, rfl⟩ := hq
                    exact ih (d' + 1) M bc bs (pc + 3) L _ _ _ _ v G1 c1 s1 htc h C0 hc1 hs1 hP
                  · cases h
                · cases h
              · cases h
            · cases h
end
section
/-! ===== a run with symbols: numbers and arrays that are not known, told by a list of equations; branches by a list of bits; what was assumed is gathered ===== -/
abbrev sy_v : Type := Value ⊕ (Nat ⊕ Nat)
abbrev sy_a : Type := (List Int32 ⊕ List Int64) ⊕ (Nat ⊕ Nat)
abbrev sy_c : Type := (Nat × Nat × sy_a) ⊕ (Nat × List sy_v)
abbrev sy_g : Type := List sy_c ⊕ Unit
abbrev sy_h : Type := sy_g × sy_g
abbrev sy_d : Type := Value ⊕ (List Int32 ⊕ List Int64)
abbrev sy_e : Type := Nat × List sy_v × List sy_a
abbrev sy_p : Type := Nat × sy_v × sy_v
def sy_i (F : Nat → sy_d) (k : Nat) : Int32 := match F k with
  | .inl (.int x) => x
  | _ => 0
def sy_l (F : Nat → sy_d) (k : Nat) : Int64 := match F k with
  | .inl (.long x) => x
  | _ => 0
def sy_dv (F : Nat → sy_d) (x : sy_v) : Value := match x with
  | .inl v => v
  | .inr (.inl k) => .int (sy_i F k)
  | .inr (.inr k) => .long (sy_l F k)
def sy_ai (F : Nat → sy_d) (k : Nat) : List Int32 := match F k with
  | .inr (.inl x) => x
  | _ => []
def sy_al (F : Nat → sy_d) (k : Nat) : List Int64 := match F k with
  | .inr (.inr x) => x
  | _ => []
def sy_da (F : Nat → sy_d) (a : sy_a) : List Int32 ⊕ List Int64 := match a with
  | .inl l => l
  | .inr (.inl k) => .inl (sy_ai F k)
  | .inr (.inr k) => .inr (sy_al F k)
def sy_dc (F : Nat → sy_d) (c : sy_c) : jm_c := match c with
  | .inl (k, n, a) => .inl (k, n, sy_da F a)
  | .inr (ci, fs) => .inr (ci, fs.map (sy_dv F))
def sy_dg (F : Nat → sy_d) (X : List jm_c) (g : sy_g) : List jm_c := match g with
  | .inl l => l.map (sy_dc F)
  | .inr _ => X
def sy_dh (F : Nat → sy_d) (X1 X2 : List jm_c) (G : sy_h) : jm_h := (sy_dg F X1 G.1, sy_dg F X2 G.2)
def sy_ty (x : sy_v) : Nat := match x with
  | .inl (.int _) => 0
  | .inl (.long _) => 1
  | .inl (.ref _) => 2
  | .inl _ => 3
  | .inr (.inl _) => 0
  | .inr (.inr _) => 1
theorem sy_ty0 {F : Nat → sy_d} {x : sy_v} (h : sy_ty x = 0) : ∃ a, sy_dv F x = .int a := by
  unfold sy_ty at h
  split at h <;> first | exact ⟨_, rfl⟩ | (exfalso; omega)
theorem sy_ty1 {F : Nat → sy_d} {x : sy_v} (h : sy_ty x = 1) : ∃ a, sy_dv F x = .long a := by
  unfold sy_ty at h
  split at h <;> first | exact ⟨_, rfl⟩ | (exfalso; omega)
/-- numbers out of numbers -/
def sy_o2 (op : Nat) (v w : Value) : Value := match v, w with
  | .int x, .int y => if op = 0 then .int (x + y) else if op = 1 then .int (x - y) else if op = 2 then .int (x * y) else if op = 3 then .int (x &&& y) else if op = 4 then .int (x ||| y) else if op = 5 then .int (x ^^^ y)
    else if op = 6 then .int (x <<< (y &&& 31)) else if op = 7 then .int (x >>> (y &&& 31)) else if op = 8 then .int (x.toUInt32 >>> (y.toUInt32 &&& Int32.toUInt32 31)).toInt32 else if op = 9 then .int (x / y) else .int (x - x / y * y)
  | .long x, .long y => if op = 12 then .long (x + y) else if op = 13 then .long (x - y) else if op = 14 then .long (x * y) else if op = 15 then .long (x / y) else if op = 16 then .long (x - x / y * y) else .int (lg_cmp x y)
  | _, _ => .null
def sy_o1 (op : Nat) (v : Value) : Value := match v with
  | .int x => if op = 20 then .int (0 - x) else if op = 21 then .long x.toInt64 else if op = 22 then .int x.toInt8.toInt32 else if op = 23 then .int (x.toUInt32 % 65536).toInt32 else .int (vp_nar .boolean x)
  | .long x => .int x.toInt32
  | _ => .null
def sy_rd (l : List Int32 ⊕ List Int64) (v : Value) : Value := match l, v with
  | .inl l, .int i => .int (l.getD i.toNatClampNeg 0)
  | .inr l, .int i => .long (l.getD i.toNatClampNeg 0)
  | _, _ => .null
def sy_up (l : List Int32 ⊕ List Int64) (v w : Value) : List Int32 ⊕ List Int64 := match l, v, w with
  | .inl l, .int i, .int x => .inl (jm_upd l i.toNatClampNeg x)
  | .inr l, .int i, .long x => .inr (jm_updL l i.toNatClampNeg x)
  | l, _, _ => l
def sy_cp (f g : List Int32 ⊕ List Int64) (sp dp n : Value) : List Int32 ⊕ List Int64 := match f, g, sp, dp, n with
  | .inl f, .inl g, .int sp, .int dp, .int n => .inl (jm_cpy f g sp.toNatClampNeg dp.toNatClampNeg n.toNatClampNeg)
  | _, g, _, _, _ => g
def sy_sem (F : Nat → sy_d) (e : sy_e) : sy_d := match e.2.1, e.2.2 with
  | [x, y], [] => .inl (sy_o2 e.1 (sy_dv F x) (sy_dv F y))
  | [x], [] => .inl (sy_o1 e.1 (sy_dv F x))
  | [i], [a] => .inl (sy_rd (sy_da F a) (sy_dv F i))
  | [i, x], [a] => .inr (sy_up (sy_da F a) (sy_dv F i) (sy_dv F x))
  | [sp, dp, n], [f, g] => .inr (sy_cp (sy_da F f) (sy_da F g) (sy_dv F sp) (sy_dv F dp) (sy_dv F n))
  | _, _ => .inl .null
def sy_sat (F : Nat → sy_d) (nv : Nat) (T : List sy_e) : Prop := ∀ (k : Nat) (e : sy_e), T[k]? = some e → F (nv + k) = sy_sem F e
/-- what a branch, a bound assumes -/
def sy_ps (F : Nat → sy_d) (p : sy_p) : Prop := match sy_dv F p.2.1, sy_dv F p.2.2 with
  | .int a, .int b => if p.1 = 0 then a = b else if p.1 = 1 then ¬ a = b else if p.1 = 2 then a < b else if p.1 = 3 then ¬ a < b else if p.1 = 4 then a ≤ b else if p.1 = 5 then ¬ a ≤ b else (a = 0 ∨ a = 1)
  | .int a, .ref n => jm_out a n = false
  | .long a, .long b => if p.1 = 1 then ¬ a = b else False
  | _, _ => False
abbrev sy_x : Type := List sy_e × List sy_p × List Bool
theorem sy_sat_pre {F : Nat → sy_d} {nv : Nat} {T r : List sy_e} (h : sy_sat F nv (T ++ r)) : sy_sat F nv T := by
  intro k e hk
  exact h k e (by rw [List.getElem?_append_left (List.getElem?_eq_some_iff.mp hk).1]; exact hk)
theorem sy_sat_last {F : Nat → sy_d} {nv : Nat} {T r : List sy_e} {e : sy_e} (h : sy_sat F nv (T ++ [e] ++ r)) : F (nv + T.length) = sy_sem F e := by
  refine h T.length e ?_
  rw [List.append_assoc, List.getElem?_append_right (Nat.le_refl _)]
  simp
/-- a number out of two: computed, if both are known; else a new equation -/
def sy_a2 (nv op ty : Nat) (x y : sy_v) (T : List sy_e) : sy_v × List sy_e := match x, y with
  | .inl v, .inl w => (.inl (sy_o2 op v w), T)
  | _, _ => (if ty = 0 then .inr (.inl (nv + T.length)) else .inr (.inr (nv + T.length)), T ++ [(op, [x, y], [])])
def sy_a1 (nv op ty : Nat) (x : sy_v) (T : List sy_e) : sy_v × List sy_e := match x with
  | .inl v => (.inl (sy_o1 op v), T)
  | _ => (if ty = 0 then .inr (.inl (nv + T.length)) else .inr (.inr (nv + T.length)), T ++ [(op, [x], [])])
theorem sy_new {F : Nat → sy_d} {nv ty : Nat} {T r : List sy_e} {e : sy_e} {v : Value} (hs : sy_sat F nv (T ++ [e] ++ r)) (he : sy_sem F e = .inl v) (hv : (ty = 0 ∧ ∃ a, v = .int a) ∨ (ty ≠ 0 ∧ ∃ a, v = .long a)) : sy_dv F (if ty = 0 then .inr (.inl (nv + T.length)) else .inr (.inr (nv + T.length))) = v := by
  have h := sy_sat_last hs
  rw [he] at h
  rcases hv with ⟨h0, a, rfl⟩ | ⟨h0, a, rfl⟩
  · rw [if_pos h0]
    simp [sy_dv, sy_i, h]
  · rw [if_neg h0]
    simp [sy_dv, sy_l, h]
theorem sy_a2_ok {F : Nat → sy_d} {nv op ty : Nat} {x y z : sy_v} {T T1 r : List sy_e} (h : sy_a2 nv op ty x y T = (z, T1)) (hs : sy_sat F nv (T1 ++ r)) (hv : (ty = 0 ∧ ∃ a, sy_o2 op (sy_dv F x) (sy_dv F y) = .int a) ∨ (ty ≠ 0 ∧ ∃ a, sy_o2 op (sy_dv F x) (sy_dv F y) = .long a)) : sy_dv F z = sy_o2 op (sy_dv F x) (sy_dv F y) := by
  unfold sy_a2 at h
  split at h
  · cases h; rfl
  · cases h
    exact sy_new hs rfl hv
theorem sy_a1_ok {F : Nat → sy_d} {nv op ty : Nat} {x z : sy_v} {T T1 r : List sy_e} (h : sy_a1 nv op ty x T = (z, T1)) (hs : sy_sat F nv (T1 ++ r)) (hv : (ty = 0 ∧ ∃ a, sy_o1 op (sy_dv F x) = .int a) ∨ (ty ≠ 0 ∧ ∃ a, sy_o1 op (sy_dv F x) = .long a)) : sy_dv F z = sy_o1 op (sy_dv F x) := by
  unfold sy_a1 at h
  split at h
  · cases h; rfl
  · cases h
    exact sy_new hs rfl hv
theorem sy_a2_pre {nv op ty : Nat} {x y z : sy_v} {T T1 : List sy_e} (h : sy_a2 nv op ty x y T = (z, T1)) : ∃ r, T1 = T ++ r := by
  unfold sy_a2 at h
  split at h <;> cases h
  · exact ⟨[], (List.append_nil _).symm⟩
  · exact ⟨_, rfl⟩
theorem sy_a1_pre {nv op ty : Nat} {x z : sy_v} {T T1 : List sy_e} (h : sy_a1 nv op ty x T = (z, T1)) : ∃ r, T1 = T ++ r := by
  unfold sy_a1 at h
  split at h <;> cases h
  · exact ⟨[], (List.append_nil _).symm⟩
  · exact ⟨_, rfl⟩
end
section
/-! ===== the step with symbols: local variables, the stack, numbers, branches ===== -/
abbrev sy_St : Type := Nat × List (Option sy_v) × List sy_v × sy_h × Nat × Nat
def sy_dL (F : Nat → sy_d) (L : List (Option sy_v)) : List (Option Value) := L.map (Option.map (sy_dv F))
def sy_dS (F : Nat → sy_d) (S : List sy_v) : List Value := S.map (sy_dv F)
def sy_cat (x : sy_v) : Nat := match x with
  | .inl v => v.category
  | .inr (.inl _) => 1
  | .inr (.inr _) => 2
theorem sy_cat_ok (F : Nat → sy_d) (x : sy_v) : (sy_dv F x).category = sy_cat x := by
  unfold sy_cat
  split <;> rfl
def sy_ld (L : List (Option sy_v)) (i : Nat) : Option sy_v := (L[i]?).join
theorem sy_ld_ok {F : Nat → sy_d} {L : List (Option sy_v)} {i : Nat} : jm_ld (sy_dL F L) i = (sy_ld L i).map (sy_dv F) := by
  unfold jm_ld sy_ld sy_dL
  rw [List.getElem?_map]
  cases L[i]? with
  | none => rfl
  | some o => cases o <;> rfl
def sy_cl (L : List (Option sy_v)) (i : Nat) : List (Option sy_v) := match i with
  | 0 => L
  | j + 1 => match sy_ld L j with
    | some v => if sy_cat v = 2 then L.set j none else L
    | none => L
theorem sy_cl_ok {F : Nat → sy_d} {L : List (Option sy_v)} {i : Nat} : jm_cl (sy_dL F L) i = sy_dL F (sy_cl L i) := by
  unfold jm_cl sy_cl
  cases i with
  | zero => rfl
  | succ j =>
    dsimp only
    rw [sy_ld_ok]
    cases sy_ld L j with
    | none => rfl
    | some v =>
      dsimp only [Option.map]
      rw [sy_cat_ok]
      split
      · unfold sy_dL; rw [List.map_set]; rfl
      · rfl
def sy_st1 (L : List (Option sy_v)) (i : Nat) (v : sy_v) : List (Option sy_v) := (sy_cl L i).set i (some v)
def sy_st2 (L : List (Option sy_v)) (i : Nat) (v : sy_v) : List (Option sy_v) := ((sy_cl L i).set i (some v)).set (i + 1) none
theorem sy_st1_ok {F : Nat → sy_d} {L : List (Option sy_v)} {i : Nat} {v : sy_v} : jm_st1 (sy_dL F L) i (sy_dv F v) = sy_dL F (sy_st1 L i v) := by
  unfold jm_st1 sy_st1
  rw [sy_cl_ok]
  unfold sy_dL
  rw [List.map_set]
  rfl
theorem sy_st2_ok {F : Nat → sy_d} {L : List (Option sy_v)} {i : Nat} {v : sy_v} : jm_st2 (sy_dL F L) i (sy_dv F v) = sy_dL F (sy_st2 L i v) := by
  unfold jm_st2 sy_st2
  rw [sy_cl_ok]
  unfold sy_dL
  rw [List.map_set, List.map_set]
  rfl
section SYS
variable {M : jm_M} {Ls : Nat} {xs : Nat → Int32} {bc bs : Nat} {e : jm_I} {pc : Nat} {L : List (Option Value)} {S : List Value} {G : jm_h} {q : Nat × Nat} {r : jm_St}
theorem jm_step_a1 (h : jm_a1 e.1 e.2.1 pc L S G q = some r) : jm_step M Ls xs bc bs e pc L S G q = some r := by
  unfold jm_step
  rw [h]
theorem jm_step_d1 (h1 : jm_a1 e.1 e.2.1 pc L S G q = none) (h : jm_d1 e pc L S G q = some r) : jm_step M Ls xs bc bs e pc L S G q = some r := by
  unfold jm_step
  rw [h1, h]
theorem jm_step_b1 (h1 : jm_a1 e.1 e.2.1 pc L S G q = none) (h2 : jm_d1 e pc L S G q = none) (h : jm_b1 e.1 e.2.1 pc L S G q = some r) : jm_step M Ls xs bc bs e pc L S G q = some r := by
  unfold jm_step
  rw [h1, h2, h]
theorem jm_step_c1 (h1 : jm_a1 e.1 e.2.1 pc L S G q = none) (h2 : jm_d1 e pc L S G q = none) (h3 : jm_b1 e.1 e.2.1 pc L S G q = none) (h : jm_c1 e.1 e.2.1 pc L S G q = some r) : jm_step M Ls xs bc bs e pc L S G q = some r := by
  unfold jm_step
  rw [h1, h2, h3, h]
theorem jm_step_a2 (h1 : jm_a1 e.1 e.2.1 pc L S G q = none) (h2 : jm_d1 e pc L S G q = none) (h3 : jm_b1 e.1 e.2.1 pc L S G q = none) (h4 : jm_c1 e.1 e.2.1 pc L S G q = none) (h : jm_a2 (jm_mx M) e.1 e.2.1 pc L S G q = some r) : jm_step M Ls xs bc bs e pc L S G q = some r := by
  unfold jm_step
  rw [h1, h2, h3, h4, h]
theorem jm_step_d2 (h1 : jm_a1 e.1 e.2.1 pc L S G q = none) (h2 : jm_d1 e pc L S G q = none) (h3 : jm_b1 e.1 e.2.1 pc L S G q = none) (h4 : jm_c1 e.1 e.2.1 pc L S G q = none) (h5 : jm_a2 (jm_mx M) e.1 e.2.1 pc L S G q = none) (h : jm_d2 M Ls xs bc bs e pc L S G q = some r) : jm_step M Ls xs bc bs e pc L S G q = some r := by
  unfold jm_step
  rw [h1, h2, h3, h4, h5, h]
theorem jm_step_b2 (h1 : jm_a1 e.1 e.2.1 pc L S G q = none) (h2 : jm_d1 e pc L S G q = none) (h3 : jm_b1 e.1 e.2.1 pc L S G q = none) (h4 : jm_c1 e.1 e.2.1 pc L S G q = none) (h5 : jm_a2 (jm_mx M) e.1 e.2.1 pc L S G q = none) (h6 : jm_d2 M Ls xs bc bs e pc L S G q = none) (h : jm_b2 e.1 e.2.1 pc L S G q = some r) : jm_step M Ls xs bc bs e pc L S G q = some r := by
  unfold jm_step
  rw [h1, h2, h3, h4, h5, h6, h]
theorem jm_step_d3 (h1 : jm_a1 e.1 e.2.1 pc L S G q = none) (h2 : jm_d1 e pc L S G q = none) (h3 : jm_b1 e.1 e.2.1 pc L S G q = none) (h4 : jm_c1 e.1 e.2.1 pc L S G q = none) (h5 : jm_a2 (jm_mx M) e.1 e.2.1 pc L S G q = none) (h6 : jm_d2 M Ls xs bc bs e pc L S G q = none) (h7 : jm_b2 e.1 e.2.1 pc L S G q = none) (h : jm_d3 e pc L S G q = some r) : jm_step M Ls xs bc bs e pc L S G q = some r := by
  unfold jm_step
  rw [h1, h2, h3, h4, h5, h6, h7, h]
end SYS
def sy_1 (mx : Nat) (ins : Instr) (n pc : Nat) (L : List (Option sy_v)) (S : List sy_v) (G : sy_h) (q : Nat × Nat) : Option sy_St := match ins with
  | .iconst k => if n = 1 then some (pc + 1, L, .inl (.int (Int32.ofInt k)) :: S, G, q) else none
  | .bipush k => if n = 2 then some (pc + 2, L, .inl (.int (Int8.ofInt k).toInt32) :: S, G, q) else none
  | .sipush k => if n = 3 then some (pc + 3, L, .inl (.int (Int16.ofInt k).toInt32) :: S, G, q) else none
  | .lconst k => if n = 1 then some (pc + 1, L, .inl (.long (Int64.ofNat (k : Nat))) :: S, G, q) else none
  | .iload_n k => if n = 1 then (match sy_ld L (k : Nat) with
    | some x => if sy_ty x = 0 then some (pc + 1, L, x :: S, G, q) else none
    | none => none) else none
  | .iload k => if n = 2 then (match sy_ld L k with
    | some x => if sy_ty x = 0 then some (pc + 2, L, x :: S, G, q) else none
    | none => none) else none
  | .lload_n k => if n = 1 then (match sy_ld L (k : Nat) with
    | some x => if sy_ty x = 1 then some (pc + 1, L, x :: S, G, q) else none
    | none => none) else none
  | .lload k => if n = 2 then (match sy_ld L k with
    | some x => if sy_ty x = 1 then some (pc + 2, L, x :: S, G, q) else none
    | none => none) else none
  | .aload_n k => if n = 1 then (match sy_ld L (k : Nat) with
    | some (.inl (.ref x)) => if x = 6 then none else some (pc + 1, L, .inl (.ref x) :: S, G, q)
    | _ => none) else none
  | .aload k => if n = 2 then (match sy_ld L k with
    | some (.inl (.ref x)) => if x = 6 then none else some (pc + 2, L, .inl (.ref x) :: S, G, q)
    | _ => none) else none
  | .istore_n k => if n = 1 ∧ (k : Nat) < mx then (match S with
    | x :: r => if sy_ty x = 0 then some (pc + 1, sy_st1 L (k : Nat) x, r, G, q) else none
    | [] => none) else none
  | .istore k => if n = 2 ∧ k < mx then (match S with
    | x :: r => if sy_ty x = 0 then some (pc + 2, sy_st1 L k x, r, G, q) else none
    | [] => none) else none
  | .lstore_n k => if n = 1 ∧ (k : Nat) + 1 < mx then (match S with
    | x :: r => if sy_ty x = 1 then some (pc + 1, sy_st2 L (k : Nat) x, r, G, q) else none
    | [] => none) else none
  | .lstore k => if n = 2 ∧ k + 1 < mx then (match S with
    | x :: r => if sy_ty x = 1 then some (pc + 2, sy_st2 L k x, r, G, q) else none
    | [] => none) else none
  | .astore_n k => if n = 1 ∧ (k : Nat) < mx then (match S with
    | .inl (.ref x) :: r => if x = 6 then none else some (pc + 1, sy_st1 L (k : Nat) (.inl (.ref x)), r, G, q)
    | _ => none) else none
  | .astore k => if n = 2 ∧ k < mx then (match S with
    | .inl (.ref x) :: r => if x = 6 then none else some (pc + 2, sy_st1 L k (.inl (.ref x)), r, G, q)
    | _ => none) else none
  | .dup => if n = 1 then (match S with
    | x :: r => if sy_ty x = 0 ∨ sy_ty x = 2 then some (pc + 1, L, x :: x :: r, G, q) else none
    | [] => none) else none
  | .pop => if n = 1 then (match S with
    | x :: r => if sy_ty x = 0 ∨ sy_ty x = 2 then some (pc + 1, L, r, G, q) else none
    | [] => none) else none
  | .dup2 => if n = 1 then (match S with
    | x :: .inl (.ref y) :: r => if sy_ty x = 0 then some (pc + 1, L, x :: .inl (.ref y) :: x :: .inl (.ref y) :: r, G, q) else none
    | _ => none) else none
  | .goto off => if n = 3 then (match jm_tg pc off with
    | some t => some (t, L, S, G, q)
    | none => none) else none
  | _ => none
theorem sy_ty2 {F : Nat → sy_d} {x : sy_v} (h : sy_ty x = 2) : ∃ a, x = .inl (.ref a) := by
  unfold sy_ty at h
  split at h <;> first | exact ⟨_, rfl⟩ | (exfalso; omega)
theorem sy_dvl (F : Nat → sy_d) (v : Value) : sy_dv F (.inl v) = v := rfl
section SY1
variable {M : jm_M} {Ls : Nat} {xs : Nat → Int32} {bc bs : Nat} {ins : Instr} {n la lb po pc : Nat} {L : List (Option sy_v)} {S : List sy_v} {G : sy_h} {q : Nat × Nat} {st : sy_St} {F : Nat → sy_d} {X1 X2 : List jm_c}
def sy_ds (F : Nat → sy_d) (X1 X2 : List jm_c) (st : sy_St) : jm_St := (st.1, sy_dL F st.2.1, sy_dS F st.2.2.1, sy_dh F X1 X2 st.2.2.2.1, st.2.2.2.2)
set_option maxHeartbeats 8000000 in
theorem sy_1_ok (h : sy_1 (jm_mx M) ins n pc L S G q = some st) : jm_step M Ls xs bc bs (ins, n, la, lb, po) pc (sy_dL F L) (sy_dS F S) (sy_dh F X1 X2 G) q = some (sy_ds F X1 X2 st) := by
  unfold sy_1 at h
  split at h
  · split at h
    · rename_i hn
      subst hn
      cases h
      exact jm_step_a1 rfl
    · cases h
  · split at h
    · rename_i hn
      subst hn
      cases h
      exact jm_step_a1 rfl
    · cases h
  · split at h
    · rename_i hn
      subst hn
      cases h
      exact jm_step_a1 rfl
    · cases h
  · split at h
    · rename_i hn
      subst hn
      cases h
      exact jm_step_a1 rfl
    · cases h
  · split at h
    · rename_i hn
      subst hn
      split at h
      · rename_i x hx
        split at h
        · rename_i ht
          cases h
          obtain ⟨a, ha⟩ := sy_ty0 (F := F) ht
          refine jm_step_a1 ?_
          simp only [jm_a1, sy_ld_ok, hx, Option.map_some, ha, if_pos]
          simp only [sy_ds, sy_dS, List.map_cons, ha]
        · cases h
      · cases h
    · cases h
  · split at h
    · rename_i hn
      subst hn
      split at h
      · rename_i x hx
        split at h
        · rename_i ht
          cases h
          obtain ⟨a, ha⟩ := sy_ty0 (F := F) ht
          refine jm_step_a1 ?_
          simp only [jm_a1, sy_ld_ok, hx, Option.map_some, ha, if_pos]
          simp only [sy_ds, sy_dS, List.map_cons, ha]
        · cases h
      · cases h
    · cases h
  · split at h
    · rename_i hn
      subst hn
      split at h
      · rename_i x hx
        split at h
        · rename_i ht
          cases h
          obtain ⟨a, ha⟩ := sy_ty1 (F := F) ht
          refine jm_step_a1 ?_
          simp only [jm_a1, sy_ld_ok, hx, Option.map_some, ha, if_pos]
          simp only [sy_ds, sy_dS, List.map_cons, ha]
        · cases h
      · cases h
    · cases h
  · split at h
    · rename_i hn
      subst hn
      split at h
      · rename_i x hx
        split at h
        · rename_i ht
          cases h
          obtain ⟨a, ha⟩ := sy_ty1 (F := F) ht
          refine jm_step_a1 ?_
          simp only [jm_a1, sy_ld_ok, hx, Option.map_some, ha, if_pos]
          simp only [sy_ds, sy_dS, List.map_cons, ha]
        · cases h
      · cases h
    · cases h
  · split at h
    · rename_i hn
      subst hn
      split at h
      · rename_i x hx
        split at h
        · cases h
        · rename_i h6
          cases h
          refine jm_step_a1 ?_
          simp only [jm_a1, sy_ld_ok, hx, Option.map_some, sy_dvl, if_pos, if_neg h6]
          rfl
      · cases h
    · cases h
  · split at h
    · rename_i hn
      subst hn
      split at h
      · rename_i x hx
        split at h
        · cases h
        · rename_i h6
          cases h
          refine jm_step_a1 ?_
          simp only [jm_a1, sy_ld_ok, hx, Option.map_some, sy_dvl, if_pos, if_neg h6]
          rfl
      · cases h
    · cases h
  · split at h
    · rename_i hn
      split at h
      · rename_i x r
        split at h
        · rename_i ht
          cases h
          obtain ⟨a, ha⟩ := sy_ty0 (F := F) ht
          refine jm_step_a2 rfl rfl (by unfold jm_b1; split <;> rfl) rfl ?_
          simp only [jm_a2, sy_dS, List.map_cons, ha, if_pos hn]
          rw [← ha, sy_st1_ok]
          rfl
        · cases h
      · cases h
    · cases h
  · split at h
    · rename_i hn
      split at h
      · rename_i x r
        split at h
        · rename_i ht
          cases h
          obtain ⟨a, ha⟩ := sy_ty0 (F := F) ht
          refine jm_step_a2 rfl rfl (by unfold jm_b1; split <;> rfl) rfl ?_
          simp only [jm_a2, sy_dS, List.map_cons, ha, if_pos hn]
          rw [← ha, sy_st1_ok]
          rfl
        · cases h
      · cases h
    · cases h
  · split at h
    · rename_i hn
      split at h
      · rename_i x r
        split at h
        · rename_i ht
          cases h
          obtain ⟨a, ha⟩ := sy_ty1 (F := F) ht
          refine jm_step_a2 rfl rfl (by unfold jm_b1; split <;> rfl) rfl ?_
          simp only [jm_a2, sy_dS, List.map_cons, ha, if_pos hn]
          rw [← ha, sy_st2_ok]
          rfl
        · cases h
      · cases h
    · cases h
  · split at h
    · rename_i hn
      split at h
      · rename_i x r
        split at h
        · rename_i ht
          cases h
          obtain ⟨a, ha⟩ := sy_ty1 (F := F) ht
          refine jm_step_a2 rfl rfl (by unfold jm_b1; split <;> rfl) rfl ?_
          simp only [jm_a2, sy_dS, List.map_cons, ha, if_pos hn]
          rw [← ha, sy_st2_ok]
          rfl
        · cases h
      · cases h
    · cases h
  · split at h
    · rename_i hn
      split at h
      · rename_i x r
        split at h
        · cases h
        · rename_i h6
          cases h
          refine jm_step_a2 rfl rfl (by unfold jm_b1; split <;> rfl) rfl ?_
          simp only [jm_a2, sy_dS, List.map_cons, sy_dvl, if_pos hn, if_neg h6]
          rw [show Value.ref x = sy_dv F (.inl (.ref x)) from rfl, sy_st1_ok]
          rfl
      · cases h
    · cases h
  · split at h
    · rename_i hn
      split at h
      · rename_i x r
        split at h
        · cases h
        · rename_i h6
          cases h
          refine jm_step_a2 rfl rfl (by unfold jm_b1; split <;> rfl) rfl ?_
          simp only [jm_a2, sy_dS, List.map_cons, sy_dvl, if_pos hn, if_neg h6]
          rw [show Value.ref x = sy_dv F (.inl (.ref x)) from rfl, sy_st1_ok]
          rfl
      · cases h
    · cases h
  · split at h
    · rename_i hn
      split at h
      · rename_i x r
        split at h
        · rename_i ht
          cases h
          refine jm_step_a2 rfl rfl (by unfold jm_b1; split <;> rfl) rfl ?_
          rcases ht with ht | ht
          · obtain ⟨a, ha⟩ := sy_ty0 (F := F) ht
            simp only [jm_a2, sy_dS, List.map_cons, ha, if_pos hn, sy_ds]
          · obtain ⟨a, ha⟩ := sy_ty2 (F := F) ht
            subst ha
            simp only [jm_a2, sy_dS, List.map_cons, sy_dvl, if_pos hn, sy_ds]
        · cases h
      · cases h
    · cases h
  · split at h
    · rename_i hn
      split at h
      · rename_i x r
        split at h
        · rename_i ht
          cases h
          refine jm_step_a2 rfl rfl (by unfold jm_b1; split <;> rfl) rfl ?_
          rcases ht with ht | ht
          · obtain ⟨a, ha⟩ := sy_ty0 (F := F) ht
            simp only [jm_a2, sy_dS, List.map_cons, ha, if_pos hn, sy_ds]
          · obtain ⟨a, ha⟩ := sy_ty2 (F := F) ht
            subst ha
            simp only [jm_a2, sy_dS, List.map_cons, sy_dvl, if_pos hn, sy_ds]
        · cases h
      · cases h
    · cases h
  · split at h
    · rename_i hn
      split at h
      · rename_i x y r
        split at h
        · rename_i ht
          cases h
          refine jm_step_a2 rfl rfl (by unfold jm_b1; split <;> rfl) rfl ?_
          obtain ⟨a, ha⟩ := sy_ty0 (F := F) ht
          simp only [jm_a2, sy_dS, List.map_cons, ha, sy_dvl, if_pos hn, sy_ds]
        · cases h
      · cases h
    · cases h
  · split at h
    · rename_i hn
      split at h
      · rename_i t ht
        cases h
        refine jm_step_c1 rfl rfl (by unfold jm_b1; split <;> rfl) ?_
        simp only [jm_c1, if_pos hn, ht]
        rfl
      · cases h
    · cases h
  · cases h
end SY1
end
section
/-! ===== numbers and branches, with symbols ===== -/
def sy_op (ins : Instr) : Option (Nat × Nat × Nat) := match ins with
  | .iadd => some (0, 0, 0)
  | .isub => some (1, 0, 0)
  | .imul => some (2, 0, 0)
  | .iand => some (3, 0, 0)
  | .ior => some (4, 0, 0)
  | .ixor => some (5, 0, 0)
  | .ishl => some (6, 0, 0)
  | .ishr => some (7, 0, 0)
  | .iushr => some (8, 0, 0)
  | .ladd => some (12, 1, 1)
  | .lsub => some (13, 1, 1)
  | .lmul => some (14, 1, 1)
  | .lcmp => some (17, 1, 0)
  | _ => none
def sy_op1 (ins : Instr) : Option (Nat × Nat × Nat) := match ins with
  | .ineg => some (20, 0, 0)
  | .i2l => some (21, 0, 1)
  | .i2b => some (22, 0, 0)
  | .i2c => some (23, 0, 0)
  | .l2i => some (25, 1, 0)
  | _ => none
def sy_opd (ins : Instr) : Option (Nat × Nat) := match ins with
  | .idiv => some (9, 0)
  | .irem => some (10, 0)
  | .ldiv => some (15, 1)
  | .lrem => some (16, 1)
  | _ => none
def sy_zero (t : Nat) : sy_v := if t = 0 then .inl (.int 0) else .inl (.long 0)
def sy_2 (nv : Nat) (ins : Instr) (n pc : Nat) (L : List (Option sy_v)) (S : List sy_v) (G : sy_h) (q : Nat × Nat) (x : sy_x) : Option (sy_St × sy_x) :=
  if n = 1 then (match sy_op ins with
  | some o => (match S with
    | b :: a :: r => if sy_ty a = o.2.1 ∧ sy_ty b = o.2.1 then some ((pc + 1, L, (sy_a2 nv o.1 o.2.2 a b x.1).1 :: r, G, q), (sy_a2 nv o.1 o.2.2 a b x.1).2, x.2) else none
    | _ => none)
  | none => (match sy_op1 ins with
    | some o => (match S with
      | a :: r => if sy_ty a = o.2.1 then some ((pc + 1, L, (sy_a1 nv o.1 o.2.2 a x.1).1 :: r, G, q), (sy_a1 nv o.1 o.2.2 a x.1).2, x.2) else none
      | _ => none)
    | none => (match sy_opd ins with
      | some o => (match S with
        | b :: a :: r => if sy_ty a = o.2 ∧ sy_ty b = o.2 then some ((pc + 1, L, (sy_a2 nv o.1 o.2 a b x.1).1 :: r, G, q), (sy_a2 nv o.1 o.2 a b x.1).2, x.2.1 ++ [(1, b, sy_zero o.2)], x.2.2) else none
        | _ => none)
      | none => none)))
  else none
section SY2
variable {M : jm_M} {Ls : Nat} {xs : Nat → Int32} {bc bs : Nat} {ins : Instr} {n la lb po pc : Nat} {q : Nat × Nat} {F : Nat → sy_d} {X1 X2 : List jm_c}
variable {L0 : List (Option Value)} {r0 : List Value} {G0 : jm_h}
theorem sy_op_ok {o : Nat × Nat × Nat} (h : sy_op ins = some o) {v w : Value} (hv : (o.2.1 = 0 ∧ (∃ a, v = .int a) ∧ ∃ b, w = .int b) ∨ (o.2.1 = 1 ∧ (∃ a, v = .long a) ∧ ∃ b, w = .long b)) :
    jm_step M Ls xs bc bs (ins, 1, la, lb, po) pc L0 (w :: v :: r0) G0 q = some (pc + 1, L0, sy_o2 o.1 v w :: r0, G0, q) ∧ ((o.2.2 = 0 ∧ ∃ a, sy_o2 o.1 v w = .int a) ∨ (o.2.2 ≠ 0 ∧ ∃ a, sy_o2 o.1 v w = .long a)) := by
  unfold sy_op at h
  split at h
  · cases h
    rcases hv with ⟨h0, ⟨a, rfl⟩, ⟨b, rfl⟩⟩ | ⟨h0, ⟨a, rfl⟩, ⟨b, rfl⟩⟩
    · exact ⟨jm_step_b1 rfl rfl rfl, Or.inl ⟨rfl, _, rfl⟩⟩
    · exact absurd h0 (by decide)
  · cases h
    rcases hv with ⟨h0, ⟨a, rfl⟩, ⟨b, rfl⟩⟩ | ⟨h0, ⟨a, rfl⟩, ⟨b, rfl⟩⟩
    · exact ⟨jm_step_b1 rfl rfl rfl, Or.inl ⟨rfl, _, rfl⟩⟩
    · exact absurd h0 (by decide)
  · cases h
    rcases hv with ⟨h0, ⟨a, rfl⟩, ⟨b, rfl⟩⟩ | ⟨h0, ⟨a, rfl⟩, ⟨b, rfl⟩⟩
    · exact ⟨jm_step_b1 rfl rfl rfl, Or.inl ⟨rfl, _, rfl⟩⟩
    · exact absurd h0 (by decide)
  · cases h
    rcases hv with ⟨h0, ⟨a, rfl⟩, ⟨b, rfl⟩⟩ | ⟨h0, ⟨a, rfl⟩, ⟨b, rfl⟩⟩
    · exact ⟨jm_step_b1 rfl rfl rfl, Or.inl ⟨rfl, _, rfl⟩⟩
    · exact absurd h0 (by decide)
  · cases h
    rcases hv with ⟨h0, ⟨a, rfl⟩, ⟨b, rfl⟩⟩ | ⟨h0, ⟨a, rfl⟩, ⟨b, rfl⟩⟩
    · exact ⟨jm_step_b1 rfl rfl rfl, Or.inl ⟨rfl, _, rfl⟩⟩
    · exact absurd h0 (by decide)
  · cases h
    rcases hv with ⟨h0, ⟨a, rfl⟩, ⟨b, rfl⟩⟩ | ⟨h0, ⟨a, rfl⟩, ⟨b, rfl⟩⟩
    · exact ⟨jm_step_b1 rfl rfl rfl, Or.inl ⟨rfl, _, rfl⟩⟩
    · exact absurd h0 (by decide)
  · cases h
    rcases hv with ⟨h0, ⟨a, rfl⟩, ⟨b, rfl⟩⟩ | ⟨h0, ⟨a, rfl⟩, ⟨b, rfl⟩⟩
    · exact ⟨jm_step_b1 rfl rfl rfl, Or.inl ⟨rfl, _, rfl⟩⟩
    · exact absurd h0 (by decide)
  · cases h
    rcases hv with ⟨h0, ⟨a, rfl⟩, ⟨b, rfl⟩⟩ | ⟨h0, ⟨a, rfl⟩, ⟨b, rfl⟩⟩
    · exact ⟨jm_step_b1 rfl rfl rfl, Or.inl ⟨rfl, _, rfl⟩⟩
    · exact absurd h0 (by decide)
  · cases h
    rcases hv with ⟨h0, ⟨a, rfl⟩, ⟨b, rfl⟩⟩ | ⟨h0, ⟨a, rfl⟩, ⟨b, rfl⟩⟩
    · exact ⟨jm_step_b1 rfl rfl rfl, Or.inl ⟨rfl, _, rfl⟩⟩
    · exact absurd h0 (by decide)
  · cases h
    rcases hv with ⟨h0, ⟨a, rfl⟩, ⟨b, rfl⟩⟩ | ⟨h0, ⟨a, rfl⟩, ⟨b, rfl⟩⟩
    · exact absurd h0 (by decide)
    · exact ⟨jm_step_b2 rfl rfl rfl rfl rfl rfl rfl, Or.inr ⟨by decide, _, rfl⟩⟩
  · cases h
    rcases hv with ⟨h0, ⟨a, rfl⟩, ⟨b, rfl⟩⟩ | ⟨h0, ⟨a, rfl⟩, ⟨b, rfl⟩⟩
    · exact absurd h0 (by decide)
    · exact ⟨jm_step_b2 rfl rfl rfl rfl rfl rfl rfl, Or.inr ⟨by decide, _, rfl⟩⟩
  · cases h
    rcases hv with ⟨h0, ⟨a, rfl⟩, ⟨b, rfl⟩⟩ | ⟨h0, ⟨a, rfl⟩, ⟨b, rfl⟩⟩
    · exact absurd h0 (by decide)
    · exact ⟨jm_step_b2 rfl rfl rfl rfl rfl rfl rfl, Or.inr ⟨by decide, _, rfl⟩⟩
  · cases h
    rcases hv with ⟨h0, ⟨a, rfl⟩, ⟨b, rfl⟩⟩ | ⟨h0, ⟨a, rfl⟩, ⟨b, rfl⟩⟩
    · exact absurd h0 (by decide)
    · exact ⟨jm_step_b2 rfl rfl rfl rfl rfl rfl rfl, Or.inl ⟨rfl, _, rfl⟩⟩
  · cases h
theorem sy_op1_ok {o : Nat × Nat × Nat} (h : sy_op1 ins = some o) {v : Value} (hv : (o.2.1 = 0 ∧ (∃ a, v = .int a)) ∨ (o.2.1 = 1 ∧ (∃ a, v = .long a))) :
    jm_step M Ls xs bc bs (ins, 1, la, lb, po) pc L0 (v :: r0) G0 q = some (pc + 1, L0, sy_o1 o.1 v :: r0, G0, q) ∧ ((o.2.2 = 0 ∧ ∃ a, sy_o1 o.1 v = .int a) ∨ (o.2.2 ≠ 0 ∧ ∃ a, sy_o1 o.1 v = .long a)) := by
  unfold sy_op1 at h
  split at h
  · cases h
    rcases hv with ⟨h0, ⟨a, rfl⟩⟩ | ⟨h0, ⟨a, rfl⟩⟩
    · exact ⟨jm_step_b1 rfl rfl rfl, Or.inl ⟨rfl, _, rfl⟩⟩
    · exact absurd h0 (by decide)
  · cases h
    rcases hv with ⟨h0, ⟨a, rfl⟩⟩ | ⟨h0, ⟨a, rfl⟩⟩
    · exact ⟨jm_step_b2 rfl rfl rfl rfl rfl rfl rfl, Or.inr ⟨by decide, _, rfl⟩⟩
    · exact absurd h0 (by decide)
  · cases h
    rcases hv with ⟨h0, ⟨a, rfl⟩⟩ | ⟨h0, ⟨a, rfl⟩⟩
    · exact ⟨jm_step_b2 rfl rfl rfl rfl rfl rfl rfl, Or.inl ⟨rfl, _, rfl⟩⟩
    · exact absurd h0 (by decide)
  · cases h
    rcases hv with ⟨h0, ⟨a, rfl⟩⟩ | ⟨h0, ⟨a, rfl⟩⟩
    · exact ⟨jm_step_b2 rfl rfl rfl rfl rfl rfl rfl, Or.inl ⟨rfl, _, rfl⟩⟩
    · exact absurd h0 (by decide)
  · cases h
    rcases hv with ⟨h0, ⟨a, rfl⟩⟩ | ⟨h0, ⟨a, rfl⟩⟩
    · exact absurd h0 (by decide)
    · exact ⟨jm_step_b2 rfl rfl rfl rfl rfl rfl rfl, Or.inl ⟨rfl, _, rfl⟩⟩
  · cases h
theorem sy_opd_ok {o : Nat × Nat} (h : sy_opd ins = some o) {v w : Value} (hv : (o.2 = 0 ∧ (∃ a, v = .int a) ∧ ∃ b, w = .int b ∧ ¬ b = 0) ∨ (o.2 = 1 ∧ (∃ a, v = .long a) ∧ ∃ b, w = .long b ∧ ¬ b = 0)) :
    jm_step M Ls xs bc bs (ins, 1, la, lb, po) pc L0 (w :: v :: r0) G0 q = some (pc + 1, L0, sy_o2 o.1 v w :: r0, G0, q) ∧ ((o.2 = 0 ∧ ∃ a, sy_o2 o.1 v w = .int a) ∨ (o.2 ≠ 0 ∧ ∃ a, sy_o2 o.1 v w = .long a)) := by
  unfold sy_opd at h
  split at h
  · cases h
    rcases hv with ⟨h0, ⟨a, rfl⟩, ⟨b, rfl, hb⟩⟩ | ⟨h0, ⟨a, rfl⟩, ⟨b, rfl, hb⟩⟩
    · exact ⟨jm_step_b1 rfl rfl (if_neg hb), Or.inl ⟨rfl, _, rfl⟩⟩
    · exact absurd h0 (by decide)
  · cases h
    rcases hv with ⟨h0, ⟨a, rfl⟩, ⟨b, rfl, hb⟩⟩ | ⟨h0, ⟨a, rfl⟩, ⟨b, rfl, hb⟩⟩
    · exact ⟨jm_step_b1 rfl rfl (if_neg hb), Or.inl ⟨rfl, _, rfl⟩⟩
    · exact absurd h0 (by decide)
  · cases h
    rcases hv with ⟨h0, ⟨a, rfl⟩, ⟨b, rfl, hb⟩⟩ | ⟨h0, ⟨a, rfl⟩, ⟨b, rfl, hb⟩⟩
    · exact absurd h0 (by decide)
    · exact ⟨jm_step_b2 rfl rfl rfl rfl rfl rfl (if_neg hb), Or.inr ⟨by decide, _, rfl⟩⟩
  · cases h
    rcases hv with ⟨h0, ⟨a, rfl⟩, ⟨b, rfl, hb⟩⟩ | ⟨h0, ⟨a, rfl⟩, ⟨b, rfl, hb⟩⟩
    · exact absurd h0 (by decide)
    · exact ⟨jm_step_b2 rfl rfl rfl rfl rfl rfl (if_neg hb), Or.inr ⟨by decide, _, rfl⟩⟩
  · cases h
end SY2
theorem sy_op_ty {ins : Instr} {o : Nat × Nat × Nat} (h : sy_op ins = some o) : o.2.1 = 0 ∨ o.2.1 = 1 := by
  unfold sy_op at h
  split at h <;> first | (cases h; first | exact Or.inl rfl | exact Or.inr rfl) | cases h
theorem sy_op1_ty {ins : Instr} {o : Nat × Nat × Nat} (h : sy_op1 ins = some o) : o.2.1 = 0 ∨ o.2.1 = 1 := by
  unfold sy_op1 at h
  split at h <;> first | (cases h; first | exact Or.inl rfl | exact Or.inr rfl) | cases h
theorem sy_opd_ty {ins : Instr} {o : Nat × Nat} (h : sy_opd ins = some o) : o.2 = 0 ∨ o.2 = 1 := by
  unfold sy_opd at h
  split at h <;> first | (cases h; first | exact Or.inl rfl | exact Or.inr rfl) | cases h
section SY2b
variable {M : jm_M} {Ls : Nat} {xs : Nat → Int32} {bc bs : Nat} {ins : Instr} {n la lb po pc nv : Nat} {L : List (Option sy_v)} {S : List sy_v} {G : sy_h} {q : Nat × Nat} {st : sy_St} {x y : sy_x} {F : Nat → sy_d} {X1 X2 : List jm_c} {r : List sy_e}
set_option maxHeartbeats 4000000 in
theorem sy_2_ok (h : sy_2 nv ins n pc L S G q x = some (st, y)) : (∃ r, y.1 = x.1 ++ r) ∧ (∃ r, y.2.1 = x.2.1 ++ r) ∧ ∀ (F : Nat → sy_d) (X1 X2 : List jm_c) (r : List sy_e), sy_sat F nv (y.1 ++ r) → (∀ p ∈ y.2.1, sy_ps F p) →
    jm_step M Ls xs bc bs (ins, n, la, lb, po) pc (sy_dL F L) (sy_dS F S) (sy_dh F X1 X2 G) q = some (sy_ds F X1 X2 st) := by
  unfold sy_2 at h
  split at h
  · rename_i hn
    subst hn
    split at h
    · rename_i o ho
      split at h
      · rename_i b a r0
        split at h
        · rename_i hty
          cases h
          obtain ⟨⟨z, T1⟩, hz⟩ : ∃ z, sy_a2 nv o.1 o.2.2 a b x.1 = z := ⟨_, rfl⟩
          rw [hz]
          refine ⟨sy_a2_pre hz, ⟨[], (List.append_nil _).symm⟩, fun F X1 X2 r hs hp => ?_⟩
          have hv : (o.2.1 = 0 ∧ (∃ c, sy_dv F a = .int c) ∧ ∃ c, sy_dv F b = .int c) ∨ (o.2.1 = 1 ∧ (∃ c, sy_dv F a = .long c) ∧ ∃ c, sy_dv F b = .long c) := by
            rcases sy_op_ty ho with e | e
            · exact Or.inl ⟨e, sy_ty0 (hty.1.trans e), sy_ty0 (hty.2.trans e)⟩
            · exact Or.inr ⟨e, sy_ty1 (hty.1.trans e), sy_ty1 (hty.2.trans e)⟩
          obtain ⟨k1, k2⟩ := sy_op_ok (M := M) (Ls := Ls) (xs := xs) (bc := bc) (bs := bs) (la := la) (lb := lb) (po := po) (pc := pc) (q := q) (L0 := sy_dL F L) (r0 := sy_dS F r0) (G0 := sy_dh F X1 X2 G) ho hv
          have hd := sy_a2_ok hz hs k2
          refine k1.trans ?_
          rw [← hd]
          rfl
        · cases h
      · cases h
    · split at h
      · rename_i o ho
        split at h
        · rename_i a r0
          split at h
          · rename_i hty
            cases h
            obtain ⟨⟨z, T1⟩, hz⟩ : ∃ z, sy_a1 nv o.1 o.2.2 a x.1 = z := ⟨_, rfl⟩
            rw [hz]
            refine ⟨sy_a1_pre hz, ⟨[], (List.append_nil _).symm⟩, fun F X1 X2 r hs hp => ?_⟩
            have hv : (o.2.1 = 0 ∧ (∃ c, sy_dv F a = .int c)) ∨ (o.2.1 = 1 ∧ (∃ c, sy_dv F a = .long c)) := by
              rcases sy_op1_ty ho with e | e
              · exact Or.inl ⟨e, sy_ty0 (hty.trans e)⟩
              · exact Or.inr ⟨e, sy_ty1 (hty.trans e)⟩
            obtain ⟨k1, k2⟩ := sy_op1_ok (M := M) (Ls := Ls) (xs := xs) (bc := bc) (bs := bs) (la := la) (lb := lb) (po := po) (pc := pc) (q := q) (L0 := sy_dL F L) (r0 := sy_dS F r0) (G0 := sy_dh F X1 X2 G) ho hv
            have hd := sy_a1_ok hz hs k2
            refine k1.trans ?_
            rw [← hd]
            rfl
          · cases h
        · cases h
      · split at h
        · rename_i o ho
          split at h
          · rename_i b a r0
            split at h
            · rename_i hty
              cases h
              obtain ⟨⟨z, T1⟩, hz⟩ : ∃ z, sy_a2 nv o.1 o.2 a b x.1 = z := ⟨_, rfl⟩
              rw [hz]
              refine ⟨sy_a2_pre hz, ⟨_, rfl⟩, fun F X1 X2 r hs hp => ?_⟩
              have hb := hp (1, b, sy_zero o.2) (List.mem_append_right _ List.mem_cons_self)
              have hv : (o.2 = 0 ∧ (∃ c, sy_dv F a = .int c) ∧ ∃ c, sy_dv F b = .int c ∧ ¬ c = 0) ∨ (o.2 = 1 ∧ (∃ c, sy_dv F a = .long c) ∧ ∃ c, sy_dv F b = .long c ∧ ¬ c = 0) := by
                rcases sy_opd_ty ho with e | e
                · obtain ⟨c, hc⟩ := sy_ty0 (F := F) (hty.2.trans e)
                  refine Or.inl ⟨e, sy_ty0 (hty.1.trans e), c, hc, ?_⟩
                  rw [e] at hb
                  simpa [sy_ps, hc, sy_zero, sy_dvl] using hb
                · obtain ⟨c, hc⟩ := sy_ty1 (F := F) (hty.2.trans e)
                  refine Or.inr ⟨e, sy_ty1 (hty.1.trans e), c, hc, ?_⟩
                  rw [e] at hb
                  simpa [sy_ps, hc, sy_zero, sy_dvl] using hb
              obtain ⟨k1, k2⟩ := sy_opd_ok (M := M) (Ls := Ls) (xs := xs) (bc := bc) (bs := bs) (la := la) (lb := lb) (po := po) (pc := pc) (q := q) (L0 := sy_dL F L) (r0 := sy_dS F r0) (G0 := sy_dh F X1 X2 G) ho hv
              have hd := sy_a2_ok hz hs k2
              refine k1.trans ?_
              rw [← hd]
              rfl
            · cases h
          · cases h
        · cases h
  · cases h
end SY2b
/-- which branch -/
def sy_bt (k : Jvm.ClassFile.Cond) (a b : Int32) : Bool := match k with
  | .eq => decide (a = b)
  | .ne => !decide (a = b)
  | .lt => decide (a < b)
  | .ge => decide (b ≤ a)
  | .gt => decide (b < a)
  | .le => decide (a ≤ b)
def sy_bk (k : Jvm.ClassFile.Cond) (t : Bool) (x y : sy_v) : sy_p := match k with
  | .eq => (bif t then 0 else 1, x, y)
  | .ne => (bif t then 1 else 0, x, y)
  | .lt => (bif t then 2 else 3, x, y)
  | .ge => (bif t then 4 else 5, y, x)
  | .gt => (bif t then 2 else 3, y, x)
  | .le => (bif t then 4 else 5, x, y)
theorem sy_bk_ok {F : Nat → sy_d} {k : Jvm.ClassFile.Cond} {t : Bool} {x y : sy_v} {a b : Int32} (hx : sy_dv F x = .int a) (hy : sy_dv F y = .int b) (h : sy_ps F (sy_bk k t x y)) : sy_bt k a b = t := by
  cases k <;> cases t <;> simp_all [sy_bk, sy_bt, sy_ps]
/-- a branch: both numbers known, or by the next bit -/
def sy_br (k : Jvm.ClassFile.Cond) (x y : sy_v) (P : List sy_p) (O : List Bool) : Option (Bool × List sy_p × List Bool) := match x, y with
  | .inl (.int a), .inl (.int b) => some (sy_bt k a b, P, O)
  | _, _ => (match O with
    | t :: O1 => some (t, P ++ [sy_bk k t x y], O1)
    | [] => none)
def sy_3 (ins : Instr) (n pc : Nat) (L : List (Option sy_v)) (S : List sy_v) (G : sy_h) (q : Nat × Nat) (x : sy_x) : Option (sy_St × sy_x) := match ins with
  | .ifCond k off => if n = 3 then (match S, jm_tg pc off with
    | a :: r, some t => if sy_ty a = 0 then (match sy_br k a (.inl (.int 0)) x.2.1 x.2.2 with
      | some (b, P1, O1) => some ((bif b then t else pc + 3, L, r, G, q), x.1, P1, O1)
      | none => none) else none
    | _, _ => none) else none
  | .if_icmp k off => if n = 3 then (match S, jm_tg pc off with
    | b :: a :: r, some t => if sy_ty a = 0 ∧ sy_ty b = 0 then (match sy_br k a b x.2.1 x.2.2 with
      | some (b, P1, O1) => some ((bif b then t else pc + 3, L, r, G, q), x.1, P1, O1)
      | none => none) else none
    | _, _ => none) else none
  | .tableswitch dflt lo hi offs => (match S with
    | .inl (.int v) :: r => if v.toInt < lo ∨ hi < v.toInt then (match jm_tg pc dflt with
        | some t => some ((t, L, r, G, q), x)
        | none => none)
      else (match offs[(v.toInt - lo).toNat]? with
        | some off => (match jm_tg pc off with
          | some t => some ((t, L, r, G, q), x)
          | none => none)
        | none => none)
    | .inr (.inl a) :: r => if (Int32.ofInt lo).toInt = lo ∧ (Int32.ofInt hi).toInt = hi then (match x.2.2, jm_tg pc dflt with
        | b :: O1, some t => some ((t, L, r, G, q), x.1, x.2.1 ++ [bif b then (2, .inr (.inl a), .inl (.int (Int32.ofInt lo))) else (2, .inl (.int (Int32.ofInt hi)), .inr (.inl a))], O1)
        | _, _ => none) else none
    | _ => none)
  | .iinc k d => none
  | _ => none
theorem sy_br_ok {k : Jvm.ClassFile.Cond} {x y : sy_v} {P P1 : List sy_p} {O O1 : List Bool} {t : Bool} (h : sy_br k x y P O = some (t, P1, O1)) : (∃ r, P1 = P ++ r) ∧ ∀ (F : Nat → sy_d) (a b : Int32), sy_dv F x = .int a → sy_dv F y = .int b → (∀ p ∈ P1, sy_ps F p) → sy_bt k a b = t := by
  unfold sy_br at h
  split at h
  · cases h
    exact ⟨⟨[], (List.append_nil _).symm⟩, fun F a b hx hy _ => by cases hx; cases hy; rfl⟩
  · split at h
    · cases h
      exact ⟨⟨_, rfl⟩, fun F a b hx hy hp => sy_bk_ok hx hy (hp _ (List.mem_append_right _ List.mem_cons_self))⟩
    · cases h
theorem sy_if {c : Prop} (hc : Decidable c) {α : Type} {t : Bool} {a b : α} (h : @decide c hc = t) : (@ite α c hc a b) = (bif t then a else b) := by
  cases t with
  | true => rw [if_pos (of_decide_eq_true h)]; rfl
  | false => rw [if_neg (of_decide_eq_false h)]; rfl
section SY3
variable {M : jm_M} {Ls : Nat} {xs : Nat → Int32} {bc bs : Nat} {ins : Instr} {n la lb po pc nv : Nat} {L : List (Option sy_v)} {S : List sy_v} {G : sy_h} {q : Nat × Nat} {st : sy_St} {x y : sy_x}
theorem sy_c1_if {k : Jvm.ClassFile.Cond} {off : Int} {t : Nat} {b : Bool} {a : Int32} {L0 : List (Option Value)} {r0 : List Value} {G0 : jm_h} (ht : jm_tg pc off = some t) (hb : sy_bt k a 0 = b) : jm_c1 (.ifCond k off) 3 pc L0 (.int a :: r0) G0 q = some (bif b then t else pc + 3, L0, r0, G0, q) := by
  simp only [jm_c1, if_pos, ht]
  cases k <;> simp only [sy_bt] at hb <;> subst hb <;> dsimp only <;> congr 2 <;> first | exact sy_if _ rfl | (rw [Bool.cond_not]; exact sy_if _ rfl)
theorem sy_c1_icmp {k : Jvm.ClassFile.Cond} {off : Int} {t : Nat} {b : Bool} {a c : Int32} {L0 : List (Option Value)} {r0 : List Value} {G0 : jm_h} (ht : jm_tg pc off = some t) (hb : sy_bt k a c = b) : jm_c1 (.if_icmp k off) 3 pc L0 (.int c :: .int a :: r0) G0 q = some (bif b then t else pc + 3, L0, r0, G0, q) := by
  simp only [jm_c1, if_pos, ht]
  cases k <;> simp only [sy_bt] at hb <;> subst hb <;> dsimp only <;> congr 2 <;> first | exact sy_if _ rfl | (rw [Bool.cond_not]; exact sy_if _ rfl)
set_option maxHeartbeats 4000000 in
theorem sy_3_ok (h : sy_3 ins n pc L S G q x = some (st, y)) : (∃ r, y.1 = x.1 ++ r) ∧ (∃ r, y.2.1 = x.2.1 ++ r) ∧ ∀ (F : Nat → sy_d) (X1 X2 : List jm_c), (∀ p ∈ y.2.1, sy_ps F p) →
    jm_step M Ls xs bc bs (ins, n, la, lb, po) pc (sy_dL F L) (sy_dS F S) (sy_dh F X1 X2 G) q = some (sy_ds F X1 X2 st) := by
  unfold sy_3 at h
  split at h
  · split at h
    · rename_i hn
      subst hn
      split at h
      · rename_i a r t ht
        split at h
        · rename_i hty
          split at h
          · rename_i b P1 O1 hbr
            cases h
            obtain ⟨k1, k2⟩ := sy_br_ok hbr
            refine ⟨⟨[], (List.append_nil _).symm⟩, k1, fun F X1 X2 hp => ?_⟩
            obtain ⟨v, hv⟩ := sy_ty0 (F := F) hty
            refine jm_step_c1 rfl rfl rfl ?_
            show jm_c1 _ _ pc (sy_dL F L) (sy_dv F a :: sy_dS F r) _ q = _
            rw [hv]
            exact sy_c1_if ht (k2 F v 0 hv rfl hp)
          · cases h
        · cases h
      · cases h
    · cases h
  · split at h
    · rename_i hn
      subst hn
      split at h
      · rename_i a c r t ht
        split at h
        · rename_i hty
          split at h
          · rename_i b P1 O1 hbr
            cases h
            obtain ⟨k1, k2⟩ := sy_br_ok hbr
            refine ⟨⟨[], (List.append_nil _).symm⟩, k1, fun F X1 X2 hp => ?_⟩
            obtain ⟨v, hv⟩ := sy_ty0 (F := F) hty.1
            obtain ⟨w, hw⟩ := sy_ty0 (F := F) hty.2
            refine jm_step_c1 rfl rfl rfl ?_
            show jm_c1 _ _ pc (sy_dL F L) (sy_dv F a :: sy_dv F c :: sy_dS F r) _ q = _
            rw [hv, hw]
            exact sy_c1_icmp ht (k2 F v w hv hw hp)
          · cases h
        · cases h
      · cases h
    · cases h
  · rename_i dflt lo hi offs
    split at h
    · rename_i v r
      split at h
      · rename_i hc
        split at h
        · rename_i t ht
          cases h
          refine ⟨⟨[], (List.append_nil _).symm⟩, ⟨[], (List.append_nil _).symm⟩, fun F X1 X2 hp => ?_⟩
          refine jm_step_c1 rfl rfl (by unfold jm_b1; split <;> rfl) ?_
          show jm_c1 _ _ pc (sy_dL F L) (.int v :: sy_dS F r) _ q = _
          simp only [jm_c1, if_pos hc, ht]
          rfl
        · cases h
      · rename_i hc
        split at h
        · rename_i off ho
          split at h
          · rename_i t ht
            cases h
            refine ⟨⟨[], (List.append_nil _).symm⟩, ⟨[], (List.append_nil _).symm⟩, fun F X1 X2 hp => ?_⟩
            refine jm_step_c1 rfl rfl (by unfold jm_b1; split <;> rfl) ?_
            show jm_c1 _ _ pc (sy_dL F L) (.int v :: sy_dS F r) _ q = _
            simp only [jm_c1, if_neg hc, ho, ht]
            rfl
          · cases h
        · cases h
    · rename_i a r
      split at h
      · rename_i hfit
        split at h
        · rename_i b O1 t hO ht
          cases h
          refine ⟨⟨[], (List.append_nil _).symm⟩, ⟨_, rfl⟩, fun F X1 X2 hp => ?_⟩
          have h1 := hp _ (List.mem_append_right _ List.mem_cons_self)
          refine jm_step_c1 rfl rfl (by unfold jm_b1; split <;> rfl) ?_
          show jm_c1 _ _ pc (sy_dL F L) (.int (sy_i F a) :: sy_dS F r) _ q = _
          rw [jm_c1]
          rw [if_pos, ht]
          · rfl
          · cases b with
            | true =>
              left
              have h2 : sy_i F a < Int32.ofInt lo := h1
              rw [Int32.lt_iff_toInt_lt, hfit.1] at h2
              exact h2
            | false =>
              right
              have h2 : Int32.ofInt hi < sy_i F a := h1
              rw [Int32.lt_iff_toInt_lt, hfit.2] at h2
              exact h2
        · cases h
      · cases h
    · cases h
  · cases h
  · cases h
end SY3
end
section
/-! ===== the heap, with symbols ===== -/
def sy_gt (G : sy_h) (k : Nat) : Option sy_c := if k < 8 then none else if k < 1000 then (match G.1 with
    | .inl l => l[k - 8]?
    | .inr _ => none) else (match G.2 with
    | .inl l => l[k - 1000]?
    | .inr _ => none)
def sy_sg (g : sy_g) (i : Nat) (c : sy_c) : sy_g := match g with
  | .inl l => .inl (l.set i c)
  | .inr u => .inr u
def sy_st (G : sy_h) (k : Nat) (c : sy_c) : sy_h := if k < 1000 then (sy_sg G.1 (k - 8) c, G.2) else (G.1, sy_sg G.2 (k - 1000) c)
theorem sy_gt_ok {F : Nat → sy_d} {X1 X2 : List jm_c} {G : sy_h} {k : Nat} {c : sy_c} (h : sy_gt G k = some c) : jm_g (sy_dh F X1 X2 G) k = some (sy_dc F c) := by
  unfold sy_gt at h
  unfold jm_g
  split at h
  · cases h
  · rename_i h8
    rw [if_neg h8]
    split at h
    · rename_i h9
      rw [if_pos h9]
      split at h
      · rename_i l hl
        simp only [sy_dh, sy_dg, hl, List.getElem?_map, h, Option.map_some]
      · cases h
    · rename_i h9
      rw [if_neg h9]
      split at h
      · rename_i l hl
        simp only [sy_dh, sy_dg, hl, List.getElem?_map, h, Option.map_some]
      · cases h
theorem sy_st_ok {F : Nat → sy_d} {X1 X2 : List jm_c} {G : sy_h} {k : Nat} {c0 c : sy_c} (h : sy_gt G k = some c0) : jm_s (sy_dh F X1 X2 G) k (sy_dc F c) = sy_dh F X1 X2 (sy_st G k c) := by
  unfold sy_gt at h
  unfold jm_s sy_st
  split at h
  · cases h
  · split at h
    · rename_i h9
      rw [if_pos h9, if_pos h9]
      split at h
      · rename_i l hl
        simp only [sy_dh, sy_dg, hl, sy_sg, List.map_set]
      · cases h
    · rename_i h9
      rw [if_neg h9, if_neg h9]
      split at h
      · rename_i l hl
        simp only [sy_dh, sy_dg, hl, sy_sg, List.map_set]
      · cases h
/-- arrays of ints, of longs -/
def sy_ak (a : sy_a) : Nat := match a with
  | .inl (.inl _) => 0
  | .inl (.inr _) => 1
  | .inr (.inl _) => 0
  | .inr (.inr _) => 1
theorem sy_ak0 {F : Nat → sy_d} {a : sy_a} (h : sy_ak a = 0) : ∃ l, sy_da F a = .inl l := by
  unfold sy_ak at h
  split at h <;> first | exact ⟨_, rfl⟩ | (exfalso; omega)
theorem sy_ak1 {F : Nat → sy_d} {a : sy_a} (h : sy_ak a = 1) : ∃ l, sy_da F a = .inr l := by
  unfold sy_ak at h
  split at h <;> first | exact ⟨_, rfl⟩ | (exfalso; omega)
theorem sy_ak01 (a : sy_a) : sy_ak a = 0 ∨ sy_ak a = 1 := by
  unfold sy_ak
  split <;> simp
/-- what an array of which the writes are known holds at a place -/
def sy_rs (nv : Nat) (T : List sy_e) : Nat → sy_a → Nat → Option sy_v
  | 0, _, _ => none
  | n + 1, a, i => match a with
    | .inl (.inl l) => some (.inl (.int (l.getD i 0)))
    | .inl (.inr l) => some (.inl (.long (l.getD i 0)))
    | .inr (.inl k) => if nv ≤ k then (match T[k - nv]? with
      | some (_, [.inl (.int j), x], [b]) => if sy_ak b = 0 ∧ sy_ty x = 0 then (if j.toNatClampNeg = i then some x else sy_rs nv T n b i) else none
      | _ => none) else none
    | .inr (.inr k) => if nv ≤ k then (match T[k - nv]? with
      | some (_, [.inl (.int j), x], [b]) => if sy_ak b = 1 ∧ sy_ty x = 1 then (if j.toNatClampNeg = i then some x else sy_rs nv T n b i) else none
      | _ => none) else none
theorem sy_rs_ok {F : Nat → sy_d} {nv : Nat} {T : List sy_e} (hs : sy_sat F nv T) : ∀ (n : Nat) (a : sy_a) (i : Nat) (x : sy_v) (v : Int32), sy_rs nv T n a i = some x → v.toNatClampNeg = i → sy_rd (sy_da F a) (.int v) = sy_dv F x := by
  intro n
  induction n with
  | zero => intro a i x v h; cases h
  | succ n ih =>
    intro a i x v h hv
    unfold sy_rs at h
    split at h
    · cases h
      subst hv
      rfl
    · cases h
      subst hv
      rfl
    · rename_i k
      split at h
      · rename_i hk
        split at h
        · rename_i op j y b hT
          split at h
          · rename_i hc
            have he := hs (k - nv) _ hT
            rw [show nv + (k - nv) = k by omega] at he
            obtain ⟨lb, hlb⟩ := sy_ak0 (F := F) hc.1
            obtain ⟨z, hz⟩ := sy_ty0 (F := F) hc.2
            have hF : sy_ai F k = jm_upd lb j.toNatClampNeg z := by
              simp [sy_ai, he, sy_sem, hlb, hz, sy_dvl, sy_up]
            have hL : sy_rd (sy_da F (.inr (.inl k))) (.int v) = .int ((jm_upd lb j.toNatClampNeg z).getD v.toNatClampNeg 0) := by
              simp only [sy_da, sy_rd, hF]
            rw [hL, jm_upd_at]
            split at h
            · rename_i hji
              cases h
              rw [if_pos (by rw [hv, hji]), hz]
            · rename_i hji
              rw [if_neg (by rw [hv]; exact fun e => hji e.symm)]
              have := ih b i x v h hv
              rw [hlb] at this
              exact this
          · cases h
        · cases h
      · cases h
    · rename_i k
      split at h
      · rename_i hk
        split at h
        · rename_i op j y b hT
          split at h
          · rename_i hc
            have he := hs (k - nv) _ hT
            rw [show nv + (k - nv) = k by omega] at he
            obtain ⟨lb, hlb⟩ := sy_ak1 (F := F) hc.1
            obtain ⟨z, hz⟩ := sy_ty1 (F := F) hc.2
            have hF : sy_al F k = jm_updL lb j.toNatClampNeg z := by
              simp [sy_al, he, sy_sem, hlb, hz, sy_dvl, sy_up]
            have hL : sy_rd (sy_da F (.inr (.inr k))) (.int v) = .long ((jm_updL lb j.toNatClampNeg z).getD v.toNatClampNeg 0) := by
              simp only [sy_da, sy_rd, hF]
            rw [hL, jm_updL_at]
            split at h
            · rename_i hji
              cases h
              rw [if_pos (by rw [hv, hji]), hz]
            · rename_i hji
              rw [if_neg (by rw [hv]; exact fun e => hji e.symm)]
              have := ih b i x v h hv
              rw [hlb] at this
              exact this
          · cases h
        · cases h
      · cases h
/-- a place read -/
def sy_re (nv : Nat) (a : sy_a) (i : sy_v) (T : List sy_e) : sy_v × List sy_e :=
  match (match i with
    | .inl (.int v) => sy_rs nv T 100 a v.toNatClampNeg
    | _ => none) with
  | some x => (x, T)
  | none => (if sy_ak a = 0 then .inr (.inl (nv + T.length)) else .inr (.inr (nv + T.length)), T ++ [(30, [i], [a])])
theorem sy_re_pre {nv : Nat} {a : sy_a} {i z : sy_v} {T T1 : List sy_e} (h : sy_re nv a i T = (z, T1)) : ∃ r, T1 = T ++ r := by
  unfold sy_re at h
  split at h <;> cases h
  · exact ⟨[], (List.append_nil _).symm⟩
  · exact ⟨_, rfl⟩
theorem sy_re_ok {F : Nat → sy_d} {nv : Nat} {a : sy_a} {i z : sy_v} {T T1 r : List sy_e} {v : Int32} (h : sy_re nv a i T = (z, T1)) (hs : sy_sat F nv (T1 ++ r)) (hi : sy_dv F i = .int v) : sy_dv F z = sy_rd (sy_da F a) (.int v) := by
  unfold sy_re at h
  split at h
  · rename_i x hx
    cases h
    split at hx
    · rename_i w
      cases hi
      exact (sy_rs_ok (sy_sat_pre hs) 100 a _ z v hx rfl).symm
    · cases hx
  · cases h
    rcases sy_ak01 a with e | e
    · obtain ⟨l, hl⟩ := sy_ak0 (F := F) e
      have := sy_new (ty := sy_ak a) (v := sy_rd (sy_da F a) (.int v)) hs (by simp [sy_sem, hi]) (Or.inl ⟨e, _, by rw [hl]; rfl⟩)
      exact this
    · obtain ⟨l, hl⟩ := sy_ak1 (F := F) e
      have := sy_new (ty := sy_ak a) (v := sy_rd (sy_da F a) (.int v)) hs (by simp [sy_sem, hi]) (Or.inr ⟨by omega, _, by rw [hl]; rfl⟩)
      exact this
/-- a place written -/
def sy_wr (nv : Nat) (a : sy_a) (i x : sy_v) (T : List sy_e) : sy_a × List sy_e := match a, i, x with
  | .inl l, .inl v, .inl w => (.inl (sy_up l v w), T)
  | _, _, _ => (if sy_ak a = 0 then .inr (.inl (nv + T.length)) else .inr (.inr (nv + T.length)), T ++ [(40, [i, x], [a])])
theorem sy_wr_pre {nv : Nat} {a b : sy_a} {i x : sy_v} {T T1 : List sy_e} (h : sy_wr nv a i x T = (b, T1)) : ∃ r, T1 = T ++ r := by
  unfold sy_wr at h
  split at h <;> cases h
  · exact ⟨[], (List.append_nil _).symm⟩
  · exact ⟨_, rfl⟩
theorem sy_wr_ok {F : Nat → sy_d} {nv : Nat} {a b : sy_a} {i x : sy_v} {T T1 r : List sy_e} (h : sy_wr nv a i x T = (b, T1)) (hs : sy_sat F nv (T1 ++ r)) : sy_da F b = sy_up (sy_da F a) (sy_dv F i) (sy_dv F x) := by
  unfold sy_wr at h
  split at h
  · cases h; rfl
  · cases h
    have he := sy_sat_last hs
    have hsem : sy_sem F (40, [i, x], [a]) = .inr (sy_up (sy_da F a) (sy_dv F i) (sy_dv F x)) := rfl
    rw [hsem] at he
    rcases sy_ak01 a with e | e
    · obtain ⟨l, hl⟩ := sy_ak0 (F := F) e
      rw [if_pos e]
      have h2 : ∃ l2, sy_up (sy_da F a) (sy_dv F i) (sy_dv F x) = .inl l2 := by
        rw [hl]
        unfold sy_up
        split <;> first | exact ⟨_, rfl⟩ | (rename_i h3 _ _; cases h3) | (rename_i h3; cases h3)
      obtain ⟨l2, h2⟩ := h2
      rw [h2] at he ⊢
      simp [sy_da, sy_ai, he]
    · obtain ⟨l, hl⟩ := sy_ak1 (F := F) e
      rw [if_neg (by omega)]
      have h2 : ∃ l2, sy_up (sy_da F a) (sy_dv F i) (sy_dv F x) = .inr l2 := by
        rw [hl]
        unfold sy_up
        split <;> first | exact ⟨_, rfl⟩ | (rename_i h3 _ _; cases h3) | (rename_i h3; cases h3)
      obtain ⟨l2, h2⟩ := h2
      rw [h2] at he ⊢
      simp [sy_da, sy_al, he]
/-- an index within -/
def sy_bd (i : sy_v) (N : Nat) (P : List sy_p) : Option (List sy_p) := match i with
  | .inl (.int v) => bif jm_out v N then none else some P
  | .inr (.inl k) => some (P ++ [(6, .inr (.inl k), .inl (.ref N))])
  | _ => none
theorem sy_bd_ok {i : sy_v} {N : Nat} {P P1 : List sy_p} (h : sy_bd i N P = some P1) : (∃ r, P1 = P ++ r) ∧ ∀ F : Nat → sy_d, (∀ p ∈ P1, sy_ps F p) → ∃ v, sy_dv F i = .int v ∧ jm_out v N = false := by
  unfold sy_bd at h
  split at h
  · rename_i v
    cases ho : jm_out v N with
    | true => rw [ho] at h; cases h
    | false =>
      rw [ho] at h
      cases h
      exact ⟨⟨[], (List.append_nil _).symm⟩, fun F _ => ⟨v, rfl, ho⟩⟩
  · rename_i k
    cases h
    exact ⟨⟨_, rfl⟩, fun F hp => ⟨sy_i F k, rfl, hp _ (List.mem_append_right _ List.mem_cons_self)⟩⟩
  · cases h
/-- a value that a field of a type may hold -/
def sy_pv (tc : Nat) (v : sy_v) (P : List sy_p) : Option (List sy_p) := match v with
  | .inl w => bif jm_pv tc w then some P else none
  | .inr (.inl k) => if tc = 0 then some P else if tc = 1 then some (P ++ [(6, .inr (.inl k), .inl (.int 0))]) else none
  | .inr (.inr _) => if tc = 2 then some P else none
theorem sy_pv_ok {tc : Nat} {v : sy_v} {P P1 : List sy_p} (h : sy_pv tc v P = some P1) : (∃ r, P1 = P ++ r) ∧ ∀ F : Nat → sy_d, (∀ p ∈ P1, sy_ps F p) → jm_pv tc (sy_dv F v) = true := by
  unfold sy_pv at h
  split at h
  · rename_i w
    cases ho : jm_pv tc w with
    | false => rw [ho] at h; cases h
    | true =>
      rw [ho] at h
      cases h
      exact ⟨⟨[], (List.append_nil _).symm⟩, fun F _ => ho⟩
  · rename_i k
    split at h
    · rename_i h0
      cases h
      exact ⟨⟨[], (List.append_nil _).symm⟩, fun F _ => by simp [sy_dv, jm_pv, h0]⟩
    · split at h
      · rename_i h1
        cases h
        refine ⟨⟨_, rfl⟩, fun F hp => ?_⟩
        have h2 : sy_i F k = 0 ∨ sy_i F k = 1 := hp _ (List.mem_append_right _ List.mem_cons_self)
        simp only [sy_dv, jm_pv, h1]
        rcases h2 with e | e <;> rw [e] <;> decide
      · cases h
  · split at h
    · rename_i h2
      cases h
      exact ⟨⟨[], (List.append_nil _).symm⟩, fun F _ => by simp [sy_dv, jm_pv, h2]⟩
    · cases h
end
section
/-! ===== fields and arrays, with symbols; the whole step ===== -/
def sy_4 (nv : Nat) (e : jm_I) (pc : Nat) (L : List (Option sy_v)) (S : List sy_v) (G : sy_h) (q : Nat × Nat) (x : sy_x) : Option (sy_St × sy_x) := match e.1 with
  | .getfield _ => if e.2.1 = 3 then (match S with
    | .inl (.ref a) :: r => if e.2.2.1 = 100 then (if a = 4 then some ((pc + 3, L, .inl (if e.2.2.2.1 = 0 then .int 0 else .ref 5) :: r, G, q), x) else none) else (match sy_gt G a with
      | some (.inr (ci, fs)) => if ci = e.2.2.1 then (match fs[e.2.2.2.1]? with
        | some v => some ((pc + 3, L, v :: r, G, q), x)
        | none => none) else none
      | _ => none)
    | _ => none) else none
  | .putfield _ => if e.2.1 = 3 then (match S with
    | v :: .inl (.ref a) :: r => (match sy_gt G a with
      | some (.inr (ci, fs)) => if ci = e.2.2.1 ∧ e.2.2.2.1 % 1000 < fs.length then (match sy_pv (e.2.2.2.1 / 1000 % 10) v x.2.1 with
        | some P1 => some ((pc + 3, L, r, sy_st G a (.inr (ci, fs.set (e.2.2.2.1 % 1000) v)), q), x.1, P1, x.2.2)
        | none => none) else none
      | _ => none)
    | _ => none) else none
  | .getstatic _ => if e.2.1 = 3 then (if e.2.2.1 = 3 then some ((pc + 3, L, .inl (.int 1) :: S, G, q), x) else if e.2.2.1 = 4 then some ((pc + 3, L, .inl (.ref 6) :: S, G, q), x) else if e.2.2.1 < 3 then some ((pc + 3, L, .inl (.ref (1 + e.2.2.1)) :: S, G, q), x) else none) else none
  | .ldc _ => if e.2.1 = 2 then some ((pc + 2, L, .inl (if e.2.2.2.1 = 0 then .int (Int32.ofNat e.2.2.1) else .ref 4) :: S, G, q), x) else none
  | .ldc_w _ => if e.2.1 = 3 then some ((pc + 3, L, .inl (.int (Int32.ofNat e.2.2.1)) :: S, G, q), x) else none
  | .ldc2_w _ => if e.2.1 = 3 then some ((pc + 3, L, .inl (.long (Int64.ofNat e.2.2.1)) :: S, G, q), x) else none
  | _ => none
def sy_5 (nv mx : Nat) (e : jm_I) (pc : Nat) (L : List (Option sy_v)) (S : List sy_v) (G : sy_h) (q : Nat × Nat) (x : sy_x) : Option (sy_St × sy_x) := match e.1 with
  | .iaload => if e.2.1 = 1 then (match S with
    | i :: .inl (.ref a) :: r => if a < 8 then (match i, jm_ea 0 (fun _ => 0) a with
        | .inl (.int v), some (kd, N, f) => if kd = 0 ∧ ¬ a = 0 then (bif jm_out v N then none else some ((pc + 1, L, .inl (.int (f v.toNatClampNeg)) :: r, G, q), x)) else none
        | _, _ => none)
      else (match sy_gt G a with
        | some (.inl (kd, N, c)) => if kd = 0 ∧ sy_ak c = 0 then (match sy_bd i N x.2.1 with
          | some P1 => some ((pc + 1, L, (sy_re nv c i x.1).1 :: r, G, q), (sy_re nv c i x.1).2, P1, x.2.2)
          | none => none) else none
        | _ => none)
    | _ => none) else none
  | .baload => if e.2.1 = 1 then (match S with
    | i :: .inl (.ref a) :: r => (match sy_gt G a with
        | some (.inl (kd, N, c)) => if (kd = 1 ∨ kd = 2) ∧ sy_ak c = 0 ∧ ¬ a < 8 then (match sy_bd i N x.2.1 with
          | some P1 => some ((pc + 1, L, (sy_re nv c i x.1).1 :: r, G, q), (sy_re nv c i x.1).2, P1, x.2.2)
          | none => none) else none
        | _ => none)
    | _ => none) else none
  | .laload => if e.2.1 = 1 then (match S with
    | i :: .inl (.ref a) :: r => (match sy_gt G a with
        | some (.inl (kd, N, c)) => if kd = 3 ∧ sy_ak c = 1 then (match sy_bd i N x.2.1 with
          | some P1 => some ((pc + 1, L, (sy_re nv c i x.1).1 :: r, G, q), (sy_re nv c i x.1).2, P1, x.2.2)
          | none => none) else none
        | _ => none)
    | _ => none) else none
  | .iastore => if e.2.1 = 1 then (match S with
    | v :: i :: .inl (.ref a) :: r => (match sy_gt G a with
        | some (.inl (kd, N, c)) => if kd = 0 ∧ sy_ak c = 0 ∧ sy_ty v = 0 then (match sy_bd i N x.2.1 with
          | some P1 => some ((pc + 1, L, r, sy_st G a (.inl (0, N, (sy_wr nv c i v x.1).1)), q), (sy_wr nv c i v x.1).2, P1, x.2.2)
          | none => none) else none
        | _ => none)
    | _ => none) else none
  | .bastore => if e.2.1 = 1 then (match S with
    | v :: i :: .inl (.ref a) :: r => (match sy_gt G a with
        | some (.inl (kd, N, c)) => if (kd = 1 ∨ kd = 2) ∧ sy_ak c = 0 ∧ sy_ty v = 0 then (match sy_bd i N x.2.1, sy_a1 nv (if kd = 1 then 22 else 24) 0 v x.1 with
          | some P1, (w, T1) => some ((pc + 1, L, r, sy_st G a (.inl (kd, N, (sy_wr nv c i w T1).1)), q), (sy_wr nv c i w T1).2, P1, x.2.2)
          | none, _ => none) else none
        | _ => none)
    | _ => none) else none
  | .lastore => if e.2.1 = 1 then (match S with
    | v :: i :: .inl (.ref a) :: r => (match sy_gt G a with
        | some (.inl (kd, N, c)) => if kd = 3 ∧ sy_ak c = 1 ∧ sy_ty v = 1 then (match sy_bd i N x.2.1 with
          | some P1 => some ((pc + 1, L, r, sy_st G a (.inl (3, N, (sy_wr nv c i v x.1).1)), q), (sy_wr nv c i v x.1).2, P1, x.2.2)
          | none => none) else none
        | _ => none)
    | _ => none) else none
  | .arraylength => if e.2.1 = 1 then (match S with
    | .inl (.ref a) :: r => if a < 8 then none else (match sy_gt G a with
        | some (.inl (kd, N, _)) => if kd < 4 then some ((pc + 1, L, .inl (.int (Int32.ofNat N)) :: r, G, q), x) else none
        | _ => none)
    | _ => none) else none
  | .iinc k d => if e.2.1 = 3 ∧ k < mx then (match sy_ld L k with
    | some v => if sy_ty v = 0 then some ((pc + 3, sy_st1 L k (sy_a2 nv 0 0 v (.inl (.int (Int32.ofInt d))) x.1).1, S, G, q), (sy_a2 nv 0 0 v (.inl (.int (Int32.ofInt d))) x.1).2, x.2) else none
    | none => none) else none
  | .invokestatic _ => if e.2.1 = 3 ∧ e.2.2.2.1 = 2 then (match S with
    | .inl (.int n) :: .inl (.int dp) :: .inl (.ref a1) :: .inl (.int sp) :: .inl (.ref a0) :: r => (match sy_gt G a0, sy_gt G a1 with
      | some (.inl (k0, n0, f)), some (.inl (k1, n1, g)) => if (k0 = 0 ∧ k1 = 0 ∧ sy_ak f = 0 ∧ sy_ak g = 0) ∧ (¬ sp < 0 ∧ ¬ dp < 0 ∧ ¬ n < 0) ∧ (sp.toNatClampNeg + n.toNatClampNeg ≤ n0 ∧ dp.toNatClampNeg + n.toNatClampNeg ≤ n1) ∧ (r.map sy_cat).sum ≤ 8 then (match f, g with
          | .inl f0, .inl g0 => some ((pc + 3, L, r, sy_st G a1 (.inl (0, n1, .inl (sy_cp f0 g0 (.int sp) (.int dp) (.int n)))), q), x)
          | _, _ => some ((pc + 3, L, r, sy_st G a1 (.inl (0, n1, .inr (.inl (nv + x.1.length)))), q), x.1 ++ [(42, [.inl (.int sp), .inl (.int dp), .inl (.int n)], [f, g])], x.2)) else none
      | _, _ => none)
    | _ => none) else none
  | _ => none
section SY4
variable {M : jm_M} {Ls : Nat} {xs : Nat → Int32} {bc bs : Nat} {i : jm_I} {pc nv : Nat} {L : List (Option sy_v)} {S : List sy_v} {G : sy_h} {q : Nat × Nat} {st : sy_St} {x y : sy_x}
set_option maxHeartbeats 8000000 in
theorem sy_4_ok (h : sy_4 nv i pc L S G q x = some (st, y)) : (∃ r, y.1 = x.1 ++ r) ∧ (∃ r, y.2.1 = x.2.1 ++ r) ∧ ∀ (F : Nat → sy_d) (X1 X2 : List jm_c), (∀ p ∈ y.2.1, sy_ps F p) →
    jm_step M Ls xs bc bs i pc (sy_dL F L) (sy_dS F S) (sy_dh F X1 X2 G) q = some (sy_ds F X1 X2 st) := by
  obtain ⟨ins, n, la, lb, po⟩ := i
  unfold sy_4 at h
  dsimp only at h
  split at h
  · split at h
    · rename_i hn
      subst hn
      split at h
      · rename_i a r
        split at h
        · rename_i h100
          split at h
          · rename_i ha
            cases h
            refine ⟨⟨[], (List.append_nil _).symm⟩, ⟨[], (List.append_nil _).symm⟩, fun F X1 X2 hp => jm_step_d1 rfl ?_⟩
            show jm_d1 _ pc (sy_dL F L) (.ref a :: sy_dS F r) _ q = _
            simp only [jm_d1, if_pos h100, if_pos ha]
            rfl
          · cases h
        · rename_i h100
          split at h
          · rename_i ci fs hg
            split at h
            · rename_i hci
              split at h
              · rename_i v hv
                cases h
                refine ⟨⟨[], (List.append_nil _).symm⟩, ⟨[], (List.append_nil _).symm⟩, fun F X1 X2 hp => jm_step_d1 rfl ?_⟩
                show jm_d1 _ pc (sy_dL F L) (.ref a :: sy_dS F r) _ q = _
                simp only [jm_d1, if_neg h100, sy_gt_ok hg, sy_dc, if_pos hci, List.getElem?_map, hv, Option.map_some]
                rfl
              · cases h
            · cases h
          · cases h
      · cases h
    · cases h
  · split at h
    · rename_i hn
      subst hn
      split at h
      · rename_i v a r
        split at h
        · rename_i ci fs hg
          split at h
          · rename_i hc
            split at h
            · rename_i P1 hpv
              cases h
              obtain ⟨k1, k2⟩ := sy_pv_ok hpv
              refine ⟨⟨[], (List.append_nil _).symm⟩, k1, fun F X1 X2 hp => jm_step_d1 rfl ?_⟩
              show jm_d1 _ pc (sy_dL F L) (sy_dv F v :: .ref a :: sy_dS F r) _ q = _
              have hcond : ci = la ∧ lb % 1000 < (fs.map (sy_dv F)).length ∧ jm_pv (lb / 1000 % 10) (sy_dv F v) = true := ⟨hc.1, by simpa using hc.2, k2 F hp⟩
              simp only [jm_d1, sy_gt_ok hg, sy_dc, if_pos hcond, if_pos]
              have : (.inr (ci, (fs.map (sy_dv F)).set (lb % 1000) (sy_dv F v)) : jm_c) = sy_dc F (.inr (ci, fs.set (lb % 1000) v)) := by simp only [sy_dc, List.map_set]
              rw [this, sy_st_ok hg]
              rfl
            · cases h
          · cases h
        · cases h
      · cases h
    · cases h
  · split at h
    · rename_i hn
      subst hn
      split at h
      · rename_i h3
        cases h
        refine ⟨⟨[], (List.append_nil _).symm⟩, ⟨[], (List.append_nil _).symm⟩, fun F X1 X2 hp => jm_step_d1 rfl ?_⟩
        simp only [jm_d1, if_pos h3]
        rfl
      · rename_i h3
        split at h
        · rename_i h4
          cases h
          refine ⟨⟨[], (List.append_nil _).symm⟩, ⟨[], (List.append_nil _).symm⟩, fun F X1 X2 hp => jm_step_d1 rfl ?_⟩
          simp only [jm_d1, if_neg h3, if_pos h4]
          rfl
        · rename_i h4
          split at h
          · rename_i h5
            cases h
            refine ⟨⟨[], (List.append_nil _).symm⟩, ⟨[], (List.append_nil _).symm⟩, fun F X1 X2 hp => jm_step_d1 rfl ?_⟩
            simp only [jm_d1, if_neg h3, if_neg h4, if_pos h5]
            rfl
          · cases h
    · cases h
  · split at h
    · rename_i hn
      subst hn
      cases h
      exact ⟨⟨[], (List.append_nil _).symm⟩, ⟨[], (List.append_nil _).symm⟩, fun F X1 X2 hp => jm_step_d1 rfl rfl⟩
    · cases h
  · split at h
    · rename_i hn
      subst hn
      cases h
      exact ⟨⟨[], (List.append_nil _).symm⟩, ⟨[], (List.append_nil _).symm⟩, fun F X1 X2 hp => jm_step_d1 rfl rfl⟩
    · cases h
  · split at h
    · rename_i hn
      subst hn
      cases h
      exact ⟨⟨[], (List.append_nil _).symm⟩, ⟨[], (List.append_nil _).symm⟩, fun F X1 X2 hp => jm_step_d1 rfl rfl⟩
    · cases h
  · cases h
end SY4
end
section
/-! ===== arrays with symbols, followed; the whole step with symbols ===== -/
theorem sy_ea {Ls : Nat} {xs : Nat → Int32} {a : Nat} (h : ¬ a = 0) : jm_ea Ls xs a = jm_ea 0 (fun _ => 0) a := by
  unfold jm_ea
  rw [if_neg h, if_neg h]
section SY5
variable {M : jm_M} {Ls : Nat} {xs : Nat → Int32} {bc bs : Nat} {i : jm_I} {pc nv : Nat} {L : List (Option sy_v)} {S : List sy_v} {G : sy_h} {q : Nat × Nat} {st : sy_St} {x y : sy_x}
theorem sy_bif {α : Type} {b : Bool} {r : α} {o : Option α} (hb : b = false) (h : o = some r) : (bif b then none else o) = some r := by
  rw [hb]; exact h
set_option maxHeartbeats 8000000 in
theorem sy_5_ok (h : sy_5 nv (jm_mx M) i pc L S G q x = some (st, y)) : (∃ r, y.1 = x.1 ++ r) ∧ (∃ r, y.2.1 = x.2.1 ++ r) ∧ ∀ (F : Nat → sy_d) (X1 X2 : List jm_c) (r : List sy_e), sy_sat F nv (y.1 ++ r) → (∀ p ∈ y.2.1, sy_ps F p) →
    jm_step M Ls xs bc bs i pc (sy_dL F L) (sy_dS F S) (sy_dh F X1 X2 G) q = some (sy_ds F X1 X2 st) := by
  obtain ⟨ins, n, la, lb, po⟩ := i
  unfold sy_5 at h
  dsimp only at h
  split at h
  · split at h
    · rename_i hn
      subst hn
      split at h
      · rename_i i a r
        split at h
        · rename_i ha8
          split at h
          · rename_i v kd N f hea
            split at h
            · rename_i hc
              cases ho : jm_out v N with
              | true => rw [ho] at h; cases h
              | false =>
                rw [ho] at h
                cases h
                refine ⟨⟨[], (List.append_nil _).symm⟩, ⟨[], (List.append_nil _).symm⟩, fun F X1 X2 r2 hs hp => jm_step_d2 rfl rfl rfl rfl rfl ?_⟩
                show jm_d2 M Ls xs bc bs _ pc (sy_dL F L) (.int v :: .ref a :: sy_dS F r) _ q = _
                simp only [jm_d2, if_pos ha8, sy_ea hc.2, hea, if_pos hc.1, if_pos]
                exact sy_bif ho rfl
            · cases h
          · cases h
        · rename_i ha8
          split at h
          · rename_i kd N c hg
            split at h
            · rename_i hc
              split at h
              · rename_i P1 hbd
                cases h
                obtain ⟨k1, k2⟩ := sy_bd_ok hbd
                obtain ⟨⟨z, T1⟩, hz⟩ : ∃ z, sy_re nv c i x.1 = z := ⟨_, rfl⟩
                rw [hz]
                refine ⟨sy_re_pre hz, k1, fun F X1 X2 r2 hs hp => jm_step_d2 rfl rfl rfl rfl rfl ?_⟩
                obtain ⟨v, hv, ho⟩ := k2 F hp
                obtain ⟨l, hl⟩ := sy_ak0 (F := F) hc.2
                have hd := sy_re_ok hz hs hv
                show jm_d2 M Ls xs bc bs _ pc (sy_dL F L) (sy_dv F i :: .ref a :: sy_dS F r) _ q = _
                rw [hv]
                simp only [jm_d2, if_neg ha8, sy_gt_ok hg, sy_dc, hl, if_pos hc.1, if_pos]
                refine sy_bif ho ?_
                simp only [sy_ds, sy_dS, List.map_cons, hd, hl, sy_rd]
              · cases h
            · cases h
          · cases h
      · cases h
    · cases h
  · split at h
    · rename_i hn
      subst hn
      split at h
      · rename_i i a r
        split at h
        · rename_i kd N c hg
          split at h
          · rename_i hc
            split at h
            · rename_i P1 hbd
              cases h
              obtain ⟨k1, k2⟩ := sy_bd_ok hbd
              obtain ⟨⟨z, T1⟩, hz⟩ : ∃ z, sy_re nv c i x.1 = z := ⟨_, rfl⟩
              rw [hz]
              refine ⟨sy_re_pre hz, k1, fun F X1 X2 r2 hs hp => jm_step_d2 rfl rfl rfl rfl rfl ?_⟩
              obtain ⟨v, hv, ho⟩ := k2 F hp
              obtain ⟨l, hl⟩ := sy_ak0 (F := F) hc.2.1
              have hd := sy_re_ok hz hs hv
              show jm_d2 M Ls xs bc bs _ pc (sy_dL F L) (sy_dv F i :: .ref a :: sy_dS F r) _ q = _
              rw [hv]
              simp only [jm_d2, if_neg hc.2.2, sy_gt_ok hg, sy_dc, hl, if_pos hc.1, if_pos]
              refine sy_bif ho ?_
              simp only [sy_ds, sy_dS, List.map_cons, hd, hl, sy_rd]
            · cases h
          · cases h
        · cases h
      · cases h
    · cases h
  · split at h
    · rename_i hn
      subst hn
      split at h
      · rename_i i a r
        split at h
        · rename_i kd N c hg
          split at h
          · rename_i hc
            split at h
            · rename_i P1 hbd
              cases h
              obtain ⟨k1, k2⟩ := sy_bd_ok hbd
              obtain ⟨⟨z, T1⟩, hz⟩ : ∃ z, sy_re nv c i x.1 = z := ⟨_, rfl⟩
              rw [hz]
              refine ⟨sy_re_pre hz, k1, fun F X1 X2 r2 hs hp => jm_step_d2 rfl rfl rfl rfl rfl ?_⟩
              obtain ⟨v, hv, ho⟩ := k2 F hp
              obtain ⟨l, hl⟩ := sy_ak1 (F := F) hc.2
              have hd := sy_re_ok hz hs hv
              show jm_d2 M Ls xs bc bs _ pc (sy_dL F L) (sy_dv F i :: .ref a :: sy_dS F r) _ q = _
              rw [hv]
              simp only [jm_d2, sy_gt_ok hg, sy_dc, hl, if_pos hc.1, if_pos]
              refine sy_bif ho ?_
              simp only [sy_ds, sy_dS, List.map_cons, hd, hl, sy_rd]
            · cases h
          · cases h
        · cases h
      · cases h
    · cases h
  · split at h
    · rename_i hn
      subst hn
      split at h
      · rename_i v i a r
        split at h
        · rename_i kd N c hg
          split at h
          · rename_i hc
            split at h
            · rename_i P1 hbd
              cases h
              obtain ⟨k1, k2⟩ := sy_bd_ok hbd
              obtain ⟨⟨z, T1⟩, hz⟩ : ∃ z, sy_wr nv c i v x.1 = z := ⟨_, rfl⟩
              rw [hz]
              refine ⟨sy_wr_pre hz, k1, fun F X1 X2 r2 hs hp => jm_step_d2 rfl rfl rfl rfl rfl ?_⟩
              obtain ⟨j, hj, ho⟩ := k2 F hp
              obtain ⟨l, hl⟩ := sy_ak0 (F := F) hc.2.1
              obtain ⟨w, hw⟩ := sy_ty0 (F := F) hc.2.2
              have hd := sy_wr_ok hz hs
              rw [hl, hj, hw] at hd
              show jm_d2 M Ls xs bc bs _ pc (sy_dL F L) (sy_dv F v :: sy_dv F i :: .ref a :: sy_dS F r) _ q = _
              rw [hj, hw]
              simp only [jm_d2, sy_gt_ok hg, sy_dc, hl, if_pos hc.1, if_pos]
              refine sy_bif ho ?_
              have : (.inl (0, N, .inl (jm_upd l j.toNatClampNeg w)) : jm_c) = sy_dc F (.inl (0, N, z)) := by simp only [sy_dc, hd]; rfl
              rw [this, sy_st_ok hg]
              rfl
            · cases h
          · cases h
        · cases h
      · cases h
    · cases h
  · split at h
    · rename_i hn
      subst hn
      split at h
      · rename_i v i a r
        split at h
        · rename_i kd N c hg
          split at h
          · rename_i hc
            split at h
            · rename_i P1 w1 T1 hbd hw1
              cases h
              obtain ⟨k1, k2⟩ := sy_bd_ok hbd
              obtain ⟨⟨z, T2⟩, hz⟩ : ∃ z, sy_wr nv c i w1 T1 = z := ⟨_, rfl⟩
              rw [hz]
              have hpre : ∃ r, T2 = x.1 ++ r := by
                obtain ⟨r1, e1⟩ := sy_a1_pre hw1
                obtain ⟨r2, e2⟩ := sy_wr_pre hz
                exact ⟨r1 ++ r2, by rw [e2, e1, List.append_assoc]⟩
              refine ⟨hpre, k1, fun F X1 X2 r2 hs hp => jm_step_d2 rfl rfl rfl rfl rfl ?_⟩
              obtain ⟨j, hj, ho⟩ := k2 F hp
              obtain ⟨l, hl⟩ := sy_ak0 (F := F) hc.2.1
              obtain ⟨w, hw⟩ := sy_ty0 (F := F) hc.2.2
              have hd := sy_wr_ok hz hs
              have hs1 : ∃ r3, sy_sat F nv (T1 ++ r3) := by
                obtain ⟨r3, e3⟩ := sy_wr_pre hz
                refine ⟨r3 ++ r2, ?_⟩
                rw [← List.append_assoc, ← e3]
                exact hs
              obtain ⟨r3, hs1⟩ := hs1
              have hw2 := sy_a1_ok (F := F) hw1 hs1 (Or.inl ⟨rfl, by rw [hw]; rcases hc.1 with e | e <;> subst e <;> exact ⟨_, rfl⟩⟩)
              rw [hw] at hw2
              rw [hl, hj, hw2] at hd
              show jm_d2 M Ls xs bc bs _ pc (sy_dL F L) (sy_dv F v :: sy_dv F i :: .ref a :: sy_dS F r) _ q = _
              rw [hj, hw]
              rcases hc.1 with e | e
              · subst e
                simp only [jm_d2, sy_gt_ok hg, sy_dc, hl, if_pos]
                refine sy_bif ho ?_
                have : (.inl (1, N, .inl (jm_upd l j.toNatClampNeg w.toInt8.toInt32)) : jm_c) = sy_dc F (.inl (1, N, z)) := by simp only [sy_dc, hd]; rfl
                rw [this, sy_st_ok hg]
                rfl
              · subst e
                simp only [jm_d2, sy_gt_ok hg, sy_dc, hl, if_pos]
                show (bif jm_out j N then none else _) = _
                refine sy_bif ho ?_
                have : (.inl (2, N, .inl (jm_upd l j.toNatClampNeg (vp_nar .boolean w))) : jm_c) = sy_dc F (.inl (2, N, z)) := by simp only [sy_dc, hd]; rfl
                rw [this, sy_st_ok hg]
                rfl
            · cases h
          · cases h
        · cases h
      · cases h
    · cases h
  · split at h
    · rename_i hn
      subst hn
      split at h
      · rename_i v i a r
        split at h
        · rename_i kd N c hg
          split at h
          · rename_i hc
            split at h
            · rename_i P1 hbd
              cases h
              obtain ⟨k1, k2⟩ := sy_bd_ok hbd
              obtain ⟨⟨z, T1⟩, hz⟩ : ∃ z, sy_wr nv c i v x.1 = z := ⟨_, rfl⟩
              rw [hz]
              refine ⟨sy_wr_pre hz, k1, fun F X1 X2 r2 hs hp => jm_step_d2 rfl rfl rfl rfl rfl ?_⟩
              obtain ⟨j, hj, ho⟩ := k2 F hp
              obtain ⟨l, hl⟩ := sy_ak1 (F := F) hc.2.1
              obtain ⟨w, hw⟩ := sy_ty1 (F := F) hc.2.2
              have hd := sy_wr_ok hz hs
              rw [hl, hj, hw] at hd
              show jm_d2 M Ls xs bc bs _ pc (sy_dL F L) (sy_dv F v :: sy_dv F i :: .ref a :: sy_dS F r) _ q = _
              rw [hj, hw]
              simp only [jm_d2, sy_gt_ok hg, sy_dc, hl, if_pos hc.1, if_pos]
              refine sy_bif ho ?_
              have : (.inl (3, N, .inr (jm_updL l j.toNatClampNeg w)) : jm_c) = sy_dc F (.inl (3, N, z)) := by simp only [sy_dc, hd]; rfl
              rw [this, sy_st_ok hg]
              rfl
            · cases h
          · cases h
        · cases h
      · cases h
    · cases h
  · split at h
    · rename_i hn
      subst hn
      split at h
      · rename_i a r
        split at h
        · cases h
        · rename_i ha8
          split at h
          · rename_i kd N c hg
            split at h
            · rename_i hk
              cases h
              refine ⟨⟨[], (List.append_nil _).symm⟩, ⟨[], (List.append_nil _).symm⟩, fun F X1 X2 r2 hs hp => jm_step_d2 rfl rfl rfl rfl rfl ?_⟩
              show jm_d2 M Ls xs bc bs _ pc (sy_dL F L) (.ref a :: sy_dS F r) _ q = _
              simp only [jm_d2, if_neg ha8, sy_gt_ok hg, sy_dc, if_pos hk, if_pos]
              rfl
            · cases h
          · cases h
      · cases h
    · cases h
  · rename_i k d
    split at h
    · rename_i hn
      split at h
      · rename_i v hv
        split at h
        · rename_i ht
          cases h
          obtain ⟨⟨z, T1⟩, hz⟩ : ∃ z, sy_a2 nv 0 0 v (.inl (.int (Int32.ofInt d))) x.1 = z := ⟨_, rfl⟩
          rw [hz]
          refine ⟨sy_a2_pre hz, ⟨[], (List.append_nil _).symm⟩, fun F X1 X2 r2 hs hp => jm_step_a2 rfl rfl (by unfold jm_b1; split <;> rfl) rfl ?_⟩
          obtain ⟨a, ha⟩ := sy_ty0 (F := F) ht
          have hd := sy_a2_ok (F := F) hz hs (Or.inl ⟨rfl, by rw [ha]; exact ⟨_, rfl⟩⟩)
          rw [ha] at hd
          simp only [jm_a2, sy_ld_ok, hv, Option.map_some, ha, if_pos hn]
          have : Value.int (a + Int32.ofInt d) = sy_dv F z := hd.symm
          rw [this, sy_st1_ok]
          rfl
        · cases h
      · cases h
    · cases h
  · rename_i idx
    split at h
    · rename_i hn
      split at h
      · rename_i nn dp a1 sp a0 r
        split at h
        · rename_i k0 n0 f k1 n1 g hg0 hg1
          split at h
          · rename_i hc
            have fin : ∀ (F : Nat → sy_d) (X1 X2 : List jm_c) (z : sy_a), sy_da F z = sy_cp (sy_da F f) (sy_da F g) (.int sp) (.int dp) (.int nn) → jm_step M Ls xs bc bs (.invokestatic idx, n, la, lb, po) pc (sy_dL F L) (sy_dS F (.inl (.int nn) :: .inl (.int dp) :: .inl (.ref a1) :: .inl (.int sp) :: .inl (.ref a0) :: r)) (sy_dh F X1 X2 G) q = some (sy_ds F X1 X2 (pc + 3, L, r, sy_st G a1 (.inl (0, n1, z)), q)) := by
              intro F X1 X2 z hzz
              obtain ⟨lf, hlf⟩ := sy_ak0 (F := F) hc.1.2.2.1
              obtain ⟨lg, hlg⟩ := sy_ak0 (F := F) hc.1.2.2.2
              rw [hlf, hlg] at hzz
              refine jm_step_d3 rfl rfl (by unfold jm_b1; split <;> rfl) rfl rfl rfl (by unfold jm_b2; split <;> rfl) ?_
              show jm_d3 _ pc (sy_dL F L) (.int nn :: .int dp :: .ref a1 :: .int sp :: .ref a0 :: sy_dS F r) _ q = _
              have hcs : jm_cs (sy_dS F r) ≤ 8 := by
                have : jm_cs (sy_dS F r) = (r.map sy_cat).sum := by
                  unfold jm_cs sy_dS
                  rw [List.map_map]
                  congr 1
                  exact List.map_congr_left (fun w _ => sy_cat_ok F w)
                rw [this]
                exact hc.2.2.2
              have hcond : (k0 = 0 ∧ k1 = 0) ∧ (¬ sp < 0 ∧ ¬ dp < 0 ∧ ¬ nn < 0) ∧ (sp.toNatClampNeg + nn.toNatClampNeg ≤ n0 ∧ dp.toNatClampNeg + nn.toNatClampNeg ≤ n1) ∧ jm_cs (sy_dS F r) ≤ 8 := ⟨⟨hc.1.1, hc.1.2.1⟩, hc.2.1, hc.2.2.1, hcs⟩
              simp only [jm_d3, if_pos hn, sy_gt_ok hg0, sy_gt_ok hg1, sy_dc, hlf, hlg, if_pos hcond]
              have : (.inl (0, n1, .inl (jm_cpy lf lg sp.toNatClampNeg dp.toNatClampNeg nn.toNatClampNeg)) : jm_c) = sy_dc F (.inl (0, n1, z)) := by simp only [sy_dc, hzz]; rfl
              rw [this, sy_st_ok hg1]
              rfl
            split at h
            · cases h
              exact ⟨⟨[], (List.append_nil _).symm⟩, ⟨[], (List.append_nil _).symm⟩, fun F X1 X2 r2 hs hp => fin F X1 X2 _ rfl⟩
            · cases h
              refine ⟨⟨_, rfl⟩, ⟨[], (List.append_nil _).symm⟩, fun F X1 X2 r2 hs hp => fin F X1 X2 _ ?_⟩
              have he := sy_sat_last hs
              obtain ⟨lf, hlf⟩ := sy_ak0 (F := F) hc.1.2.2.1
              obtain ⟨lg, hlg⟩ := sy_ak0 (F := F) hc.1.2.2.2
              have hsem : sy_sem F (42, [.inl (.int sp), .inl (.int dp), .inl (.int nn)], [f, g]) = .inr (sy_cp (sy_da F f) (sy_da F g) (.int sp) (.int dp) (.int nn)) := rfl
              rw [hsem, hlf, hlg] at he
              rw [hlf, hlg]
              simp only [sy_da, sy_ai, he, sy_cp]
          · cases h
        · cases h
      · cases h
    · cases h
  · cases h
end SY5
def sy_step (nv : Nat) (M : jm_M) (e : jm_I) (pc : Nat) (L : List (Option sy_v)) (S : List sy_v) (G : sy_h) (q : Nat × Nat) (x : sy_x) : Option (sy_St × sy_x) :=
  match sy_1 (jm_mx M) e.1 e.2.1 pc L S G q with
  | some r => some (r, x)
  | none => match sy_4 nv e pc L S G q x with
    | some r => some r
    | none => match sy_2 nv e.1 e.2.1 pc L S G q x with
      | some r => some r
      | none => match sy_3 e.1 e.2.1 pc L S G q x with
        | some r => some r
        | none => sy_5 nv (jm_mx M) e pc L S G q x
theorem sy_step_ok {M : jm_M} {Ls : Nat} {xs : Nat → Int32} {bc bs : Nat} {i : jm_I} {pc nv : Nat} {L : List (Option sy_v)} {S : List sy_v} {G : sy_h} {q : Nat × Nat} {st : sy_St} {x y : sy_x} (h : sy_step nv M i pc L S G q x = some (st, y)) : (∃ r, y.1 = x.1 ++ r) ∧ (∃ r, y.2.1 = x.2.1 ++ r) ∧ ∀ (F : Nat → sy_d) (X1 X2 : List jm_c) (r : List sy_e), sy_sat F nv (y.1 ++ r) → (∀ p ∈ y.2.1, sy_ps F p) →
    jm_step M Ls xs bc bs i pc (sy_dL F L) (sy_dS F S) (sy_dh F X1 X2 G) q = some (sy_ds F X1 X2 st) := by
  obtain ⟨ins, n, la, lb, po⟩ := i
  unfold sy_step at h
  split at h
  · rename_i r h1
    cases h
    exact ⟨⟨[], (List.append_nil _).symm⟩, ⟨[], (List.append_nil _).symm⟩, fun F X1 X2 r hs hp => sy_1_ok h1⟩
  · split at h
    · rename_i r h1
      cases h
      obtain ⟨k1, k2, k3⟩ := sy_4_ok (M := M) (Ls := Ls) (xs := xs) (bc := bc) (bs := bs) h1
      exact ⟨k1, k2, fun F X1 X2 r hs hp => k3 F X1 X2 hp⟩
    · split at h
      · rename_i r h1
        cases h
        exact sy_2_ok h1
      · split at h
        · rename_i r h1
          cases h
          obtain ⟨k1, k2, k3⟩ := sy_3_ok (M := M) (Ls := Ls) (xs := xs) (bc := bc) (bs := bs) (la := la) (lb := lb) (po := po) h1
          exact ⟨k1, k2, fun F X1 X2 r hs hp => k3 F X1 X2 hp⟩
        · exact sy_5_ok h
end
section
/-! ===== runs with symbols: to the method's end, or to a place ===== -/
def sy_e1 : List sy_v → List (Option sy_v)
  | [] => []
  | v :: r => if sy_cat v = 2 then some v :: none :: sy_e1 r else some v :: sy_e1 r
def sy_ent (mx : Nat) (As : List sy_v) : List (Option sy_v) := sy_e1 As ++ List.replicate (mx - (sy_e1 As).length) none
theorem sy_e1_ok (F : Nat → sy_d) : ∀ As : List sy_v, jm_e1 (As.map (sy_dv F)) = sy_dL F (sy_e1 As)
  | [] => rfl
  | v :: r => by
    rw [List.map_cons, jm_e1, sy_e1, sy_cat_ok, sy_e1_ok F r]
    split <;> rfl
theorem sy_ent_ok (F : Nat → sy_d) (mx : Nat) (As : List sy_v) : jm_ent mx (As.map (sy_dv F)) = sy_dL F (sy_ent mx As) := by
  unfold jm_ent sy_ent
  rw [sy_e1_ok]
  unfold sy_dL
  simp
def sy_rf (M : jm_M) (e : jm_I) (S : List sy_v) (P : List sy_p) : Option (Option sy_v × List sy_p) := if e.2.1 = 1 then (match e.1, S with
  | .ireturn, [v] => if sy_ty v = 0 then (match jm_rt M with
    | some .int => some (some v, P)
    | some ty => (match v with
      | .inl w => if narrow ty w = w then some (some v, P) else none
      | _ => if ty = .boolean then some (some v, P ++ [(6, v, .inl (.int 0))]) else none)
    | none => none) else none
  | .lreturn, [v] => if sy_ty v = 1 then (match jm_rt M with
    | some .long => some (some v, P)
    | _ => none) else none
  | .return_, [] => (match jm_rt M with
    | none => some (none, P)
    | _ => none)
  | _, _ => none) else none
set_option maxHeartbeats 4000000 in
theorem sy_rf_ok {M : jm_M} {e : jm_I} {S : List sy_v} {P P1 : List sy_p} {v : Option sy_v} (h : sy_rf M e S P = some (v, P1)) : (∃ r, P1 = P ++ r) ∧ ∀ F : Nat → sy_d, (∀ p ∈ P1, sy_ps F p) → jm_rf M e (sy_dS F S) = some (v.map (sy_dv F)) := by
  obtain ⟨ins, n, la, lb, po⟩ := e
  unfold sy_rf at h
  dsimp only at h
  split at h
  · rename_i hn
    subst hn
    split at h
    · rename_i v0
      split at h
      · rename_i ht
        split at h
        · rename_i hr
          cases h
          refine ⟨⟨[], (List.append_nil _).symm⟩, fun F _ => ?_⟩
          obtain ⟨a, ha⟩ := sy_ty0 (F := F) ht
          simp only [jm_rf, sy_dS, List.map_cons, List.map_nil, ha, hr, if_pos, Option.map_some]
        · rename_i ty hne hr
          split at h
          · rename_i w
            split at h
            · rename_i hw
              cases h
              refine ⟨⟨[], (List.append_nil _).symm⟩, fun F _ => ?_⟩
              obtain ⟨a, ha⟩ := sy_ty0 (F := F) ht
              have hwa : w = .int a := ha
              subst hwa
              simp only [jm_rf, sy_dS, List.map_cons, List.map_nil, sy_dvl, hr, if_pos, hw, Option.map_some]
            · cases h
          · split at h
            · rename_i hb
              cases h
              refine ⟨⟨_, rfl⟩, fun F hp => ?_⟩
              obtain ⟨a, ha⟩ := sy_ty0 (F := F) ht
              have h1 := hp _ (List.mem_append_right _ List.mem_cons_self)
              have h2 : a = 0 ∨ a = 1 := by
                unfold sy_ps at h1
                simp only [ha, sy_dvl] at h1
                simpa using h1
              subst hb
              have hnar : narrow .boolean (.int a) = .int a := by rcases h2 with e | e <;> subst e <;> rfl
              simp only [jm_rf, sy_dS, List.map_cons, List.map_nil, ha, hr, if_pos, Option.map_some]
              rw [if_pos hnar]
            · cases h
        · cases h
      · cases h
    · rename_i v0
      split at h
      · rename_i ht
        split at h
        · rename_i hr
          cases h
          refine ⟨⟨[], (List.append_nil _).symm⟩, fun F _ => ?_⟩
          obtain ⟨a, ha⟩ := sy_ty1 (F := F) ht
          simp only [jm_rf, sy_dS, List.map_cons, List.map_nil, ha, hr, if_pos, Option.map_some]
        · cases h
      · cases h
    · split at h
      · rename_i hr
        cases h
        refine ⟨⟨[], (List.append_nil _).symm⟩, fun F _ => ?_⟩
        simp only [jm_rf, sy_dS, List.map_nil, hr, if_pos, Option.map_none]
      · cases h
    · cases h
  · cases h
def sy_rok (G : sy_h) (M1 : jm_M) (b : Nat) : Bool := if jm_rc M1 = 100 then decide (b = 4) else (match sy_gt G b with
  | some (.inr (ci, _)) => decide (ci = jm_rc M1)
  | _ => false)
def sy_cf (TB : List jm_M) (e : jm_I) (G : sy_h) (S : List sy_v) : Option (jm_M × List sy_v × List sy_v) := match e.1 with
  | .invokestatic _ => if e.2.1 = 3 ∧ e.2.2.2.1 < 2 then (match TB[e.2.2.1]? with
    | some M1 => if jm_kd M1 = 0 ∧ jm_na M1 ≤ S.length ∧ ((S.drop (jm_na M1)).map sy_cat).sum ≤ 8 then some (M1, (S.take (jm_na M1)).reverse, S.drop (jm_na M1)) else none
    | none => none) else none
  | .invokevirtual _ => if e.2.1 = 3 ∧ e.2.2.2.1 < 2 then (match TB[e.2.2.1]? with
    | some M1 => if jm_kd M1 = 1 ∧ jm_na M1 ≤ S.length then (match S.drop (jm_na M1) with
      | .inl (.ref b) :: r => if (r.map sy_cat).sum ≤ 8 ∧ sy_rok G M1 b = true then some (M1, .inl (.ref b) :: (S.take (jm_na M1)).reverse, r) else none
      | _ => none) else none
    | none => none) else none
  | _ => none
theorem sy_cs_ok (F : Nat → sy_d) (r : List sy_v) : jm_cs (r.map (sy_dv F)) = (r.map sy_cat).sum := by
  unfold jm_cs
  rw [List.map_map]
  congr 1
  exact List.map_congr_left (fun w _ => sy_cat_ok F w)
theorem sy_rok_ok {F : Nat → sy_d} {X1 X2 : List jm_c} {G : sy_h} {M1 : jm_M} {b : Nat} (h : sy_rok G M1 b = true) : jm_rok (sy_dh F X1 X2 G) M1 b = true := by
  unfold sy_rok at h
  unfold jm_rok
  split at h
  · rename_i h1
    rw [if_pos h1]
    exact h
  · rename_i h1
    rw [if_neg h1]
    split at h
    · rename_i ci fs hg
      rw [sy_gt_ok hg]
      exact h
    · cases h
set_option maxHeartbeats 4000000 in
theorem sy_cf_ok {TB : List jm_M} {e : jm_I} {G : sy_h} {S As rest : List sy_v} {M1 : jm_M} (h : sy_cf TB e G S = some (M1, As, rest)) (F : Nat → sy_d) (X1 X2 : List jm_c) : jm_cf TB e (sy_dh F X1 X2 G) (sy_dS F S) = some (M1, As.map (sy_dv F), rest.map (sy_dv F)) := by
  obtain ⟨ins, n, la, lb, po⟩ := e
  unfold sy_cf at h
  dsimp only at h
  split at h
  · split at h
    · rename_i hn
      split at h
      · rename_i M2 hM
        split at h
        · rename_i hc
          cases h
          have hcond : jm_kd M1 = 0 ∧ jm_na M1 ≤ (sy_dS F S).length ∧ jm_cs ((sy_dS F S).drop (jm_na M1)) ≤ 8 := by
            refine ⟨hc.1, by simpa [sy_dS] using hc.2.1, ?_⟩
            rw [sy_dS, ← List.map_drop, sy_cs_ok]
            exact hc.2.2
          simp only [jm_cf, if_pos hn, hM, if_pos hcond]
          simp only [sy_dS, List.map_reverse, List.map_take, List.map_drop]
        · cases h
      · cases h
    · cases h
  · split at h
    · rename_i hn
      split at h
      · rename_i M2 hM
        split at h
        · rename_i hc
          split at h
          · rename_i b r hd
            split at h
            · rename_i hc2
              cases h
              have hcond : jm_kd M1 = 1 ∧ jm_na M1 ≤ (sy_dS F S).length := ⟨hc.1, by simpa [sy_dS] using hc.2⟩
              have hd2 : (sy_dS F S).drop (jm_na M1) = .ref b :: rest.map (sy_dv F) := by
                rw [sy_dS, ← List.map_drop, hd]
                rfl
              have hcond2 : jm_cs (rest.map (sy_dv F)) ≤ 8 ∧ jm_rok (sy_dh F X1 X2 G) M1 b = true := ⟨by rw [sy_cs_ok]; exact hc2.1, sy_rok_ok hc2.2⟩
              simp only [jm_cf, if_pos hn, hM, if_pos hcond, hd2, if_pos hcond2]
              simp only [sy_dS, List.map_cons, List.map_reverse, List.map_take, sy_dvl]
            · cases h
          · cases h
        · cases h
      · cases h
    · cases h
  · cases h
/-- a run to the method's end -/
def sy_ev (TB : List jm_M) (nv : Nat) : Nat → Nat → jm_M → Nat → List (Option sy_v) → List sy_v → sy_h → sy_x → Option (Option sy_v × sy_h × sy_x)
  | 0, _, _, _, _, _, _, _ => none
  | n + 1, d, M, pc, L, S, G, x => match jm_in M pc with
    | none => none
    | some e => match sy_step nv M e pc L S G (0, 0) x with
      | some ((pc', L', S', G', _), x') => sy_ev TB nv n d M pc' L' S' G' x'
      | none => match sy_rf M e S x.2.1 with
        | some (v, P1) => some (v, G, x.1, P1, x.2.2)
        | none => match d with
          | 0 => none
          | d' + 1 => match sy_cf TB e G S with
            | some (M1, As, rest) => if (sy_e1 As).length ≤ jm_mx M1 then (match sy_ev TB nv n d' M1 0 (sy_ent (jm_mx M1) As) [] G x with
              | some (v, G1, x1) => sy_ev TB nv n d M (pc + 3) L (v.toList ++ rest) G1 x1
              | none => none) else none
            | none => none
theorem sy_q {nv : Nat} {M : jm_M} {e : jm_I} {pc : Nat} {L : List (Option sy_v)} {S : List sy_v} {G : sy_h} {q : Nat × Nat} {x y : sy_x} {st : sy_St} (h : sy_step nv M e pc L S G q x = some (st, y)) : st.2.2.2.2 = q := by
  obtain ⟨k1, k2, k3⟩ := sy_step_ok (M := M) (Ls := 0) (xs := fun _ => 0) (bc := 0) (bs := 0) h
  unfold sy_step at h
  have tac1 : ∀ {r : sy_St}, sy_1 (jm_mx M) e.1 e.2.1 pc L S G q = some r → r.2.2.2.2 = q := by
    intro r h
    unfold sy_1 at h
    repeat' split at h
    all_goals first | (cases h; rfl) | cases h
  have tac4 : ∀ {r : sy_St × sy_x}, sy_4 nv e pc L S G q x = some r → r.1.2.2.2.2 = q := by
    intro r h
    unfold sy_4 at h
    repeat' split at h
    all_goals first | (cases h; rfl) | cases h
  have tac2 : ∀ {r : sy_St × sy_x}, sy_2 nv e.1 e.2.1 pc L S G q x = some r → r.1.2.2.2.2 = q := by
    intro r h
    unfold sy_2 at h
    repeat' split at h
    all_goals first | (cases h; rfl) | cases h
  have tac3 : ∀ {r : sy_St × sy_x}, sy_3 e.1 e.2.1 pc L S G q x = some r → r.1.2.2.2.2 = q := by
    intro r h
    unfold sy_3 at h
    repeat' split at h
    all_goals first | (cases h; rfl) | cases h
  have tac5 : ∀ {r : sy_St × sy_x}, sy_5 nv (jm_mx M) e pc L S G q x = some r → r.1.2.2.2.2 = q := by
    intro r h
    unfold sy_5 at h
    repeat' split at h
    all_goals first | (cases h; rfl) | cases h | (unfold cond at h; split at h <;> first | (cases h; rfl) | cases h)
  split at h
  · rename_i r h1; cases h; exact tac1 h1
  · split at h
    · rename_i r h1; cases h; exact tac4 h1
    · split at h
      · rename_i r h1; cases h; exact tac2 h1
      · split at h
        · rename_i r h1; cases h; exact tac3 h1
        · exact tac5 h
set_option maxHeartbeats 4000000 in
theorem sy_ev_ok {TB : List jm_M} {YN : List MethodName} {nv : Nat} {Ls : Nat} {xs : Nat → Int32} (hTB : ∀ (k : Nat) (M' : jm_M), TB[k]? = some M' → jm_ok YN M') (hYN : YN = TB.map jm_y) :
    ∀ (n d : Nat) (M : jm_M) (pc : Nat) (L : List (Option sy_v)) (S : List sy_v) (G : sy_h) (x : sy_x) (v : Option sy_v) (G1 : sy_h) (y : sy_x), jm_tck YN M 0 (jm_tb M) = true → sy_ev TB nv n d M pc L S G x = some (v, G1, y) →
      (∃ r, y.1 = x.1 ++ r) ∧ (∃ r, y.2.1 = x.2.1 ++ r) ∧ ∀ (F : Nat → sy_d) (X1 X2 : List jm_c) (r : List sy_e), sy_sat F nv (y.1 ++ r) → (∀ p ∈ y.2.1, sy_ps F p) →
      ∀ {p : Program} {l : Launch} {e : Env} {s : State} {m : MethodId} {args : Array Value} {below : List Frame} {meth : Method} {c : Code} {D : va_G} {h0 : Nat} {ex : Nat → Nat} {ka : Nat → ClassId} {G0 : jm_h} {Post : Option Value → jm_h → Prop}, jm_C p s m args meth c D h0 ex ka Ls xs M (jm_len G0) → Post (v.map (sy_dv F)) (sy_dh F X1 X2 G1) →
      jm_W p l e (jm_room (d + 1) 0 0) s m args below meth c D h0 ex ka M (jm_len G0) (MQ below (jm_Qc D h0 ex ka 0 G0 Post) args s 0 0 (fun q => h0 ≤ q)) (pc, sy_dL F L, sy_dS F S, sy_dh F X1 X2 G, 0, 0) := by
  intro n
  induction n with
  | zero => intro d M pc L S G x v G1 y _ h; cases h
  | succ n ih =>
    intro d M pc L S G x v G1 y htc h
    rw [sy_ev] at h
    split at h
    · cases h
    · rename_i i hi
      have hc := jm_in_ck htc hi
      split at h
      · rename_i pc' L' S' G' q' x' hst
        have hq : q' = (0, 0) := sy_q hst
        subst hq
        obtain ⟨⟨r1, a1⟩, ⟨r2, a2⟩, a3⟩ := sy_step_ok (M := M) (Ls := Ls) (xs := xs) (bc := 0) (bs := 0) hst
        obtain ⟨⟨r3, b1⟩, ⟨r4, b2⟩, b3⟩ := ih d M pc' L' S' G' x' v G1 y htc h
        refine ⟨⟨r1 ++ r3, by rw [b1, a1, List.append_assoc]⟩, ⟨r2 ++ r4, by rw [b2, a2, List.append_assoc]⟩, ?_⟩
        intro F X1 X2 r hs hp p l e s m args below meth c D h0 ex ka G0 Post C0 hP
        refine jm_step_ok C0 (Nat.le_refl 0) (Nat.le_refl 0) (show 1 ≤ d + 1 by omega) (show 64 ≤ 64 * (d + 1) by omega) hc (a3 F X1 X2 (r3 ++ r) ?_ (fun z hz => hp z (by rw [b2]; exact List.mem_append_left _ hz))) (b3 F X1 X2 r hs hp C0 hP)
        rw [← List.append_assoc, ← b1]
        exact hs
      · split at h
        · rename_i w P1 hw
          cases h
          obtain ⟨k1, k2⟩ := sy_rf_ok hw
          refine ⟨⟨[], (List.append_nil _).symm⟩, k1, ?_⟩
          intro F X1 X2 r hs hp p l e s m args below meth c D h0 ex ka G0 Post C0 hP
          exact jm_ret_ok C0 hc (k2 F hp) rfl (Nat.le_refl 0) hP
        · split at h
          · cases h
          · rename_i d'
            split at h
            · rename_i M1 As rest hcf
              split at h
              · rename_i hA
                split at h
                · rename_i w G2 x1 hev
                  have hM1 : jm_ok YN M1 := by
                    unfold sy_cf at hcf
                    have gen : ∀ {k : Nat} {X : jm_M}, TB[k]? = some X → jm_ok YN X := fun h => hTB _ _ h
                    split at hcf
                    · split at hcf
                      · split at hcf
                        · rename_i hq
                          split at hcf
                          · cases hcf; exact gen hq
                          · cases hcf
                        · cases hcf
                      · cases hcf
                    · split at hcf
                      · split at hcf
                        · rename_i hq
                          split at hcf
                          · split at hcf
                            · split at hcf
                              · cases hcf; exact gen hq
                              · cases hcf
                            · cases hcf
                          · cases hcf
                        · cases hcf
                      · cases hcf
                    · cases hcf
                  obtain ⟨⟨r1, a1⟩, ⟨r2, a2⟩, a3⟩ := ih d' M1 0 _ [] G x w G2 x1 hM1.2.2.2.2.2.2.2.2.2 hev
                  obtain ⟨⟨r3, b1⟩, ⟨r4, b2⟩, b3⟩ := ih (d' + 1) M (pc + 3) L _ G2 x1 v G1 y htc h
                  refine ⟨⟨r1 ++ r3, by rw [b1, a1, List.append_assoc]⟩, ⟨r2 ++ r4, by rw [b2, a2, List.append_assoc]⟩, ?_⟩
                  intro F X1 X2 r hs hp p l e s m args below meth c D h0 ex ka G0 Post C0 hP
                  have hs1 : sy_sat F nv (x1.1 ++ (r3 ++ r)) := by
                    rw [← List.append_assoc, ← b1]
                    exact hs
                  have hp1 : ∀ z ∈ x1.2.1, sy_ps F z := fun z hz => hp z (by rw [b2]; exact List.mem_append_left _ hz)
                  have hT : jm_T Ls xs (d' + 1) M1 (As.map (sy_dv F)) (sy_dh F X1 X2 G) 0 0 (fun v G => v = w.map (sy_dv F) ∧ G = sy_dh F X1 X2 G2) := by
                    refine jm_T_intro hM1 (by rw [sy_e1_ok]; simpa [sy_dL] using hA) (fun p l e s m args below meth c D h0 ex ka C1 => ?_)
                    rw [sy_ent_ok]
                    exact a3 F X1 X2 _ hs1 hp1 C1 ⟨rfl, rfl⟩
                  refine jm_call_ok hTB hYN C0 hc (sy_cf_ok hcf F X1 X2) hT (show d' + 1 + 1 ≤ d' + 1 + 1 by omega) (show 64 * (d' + 1) + 64 ≤ 64 * (d' + 1 + 1) by omega) (Nat.le_refl 0) (Nat.le_refl 0) (fun v1 G3 hq hlen3 => ?_)
                  obtain ⟨rfl, rfl⟩ := hq
                  have hb := b3 F X1 X2 r hs hp (l := l) (e := e) (below := below) C0 hP
                  have he : sy_dS F (w.toList ++ rest) = (w.map (sy_dv F)).toList ++ rest.map (sy_dv F) := by cases w <;> simp [sy_dS]
                  rw [he] at hb
                  exact hb
                · cases h
              · cases h
            · cases h
end
section
/-! ===== runs with symbols to a place of the method, or to a call ===== -/
def sy_go (TB : List jm_M) (nv : Nat) (sp sm : List Nat) : Nat → Nat → jm_M → Bool → Nat → List (Option sy_v) → List sy_v → sy_h → sy_x → Option ((Nat × List (Option sy_v) × List sy_v × sy_h) × sy_x)
  | 0, _, _, _, _, _, _, _, _ => none
  | n + 1, d, M, f, pc, L, S, G, x => bif !f && sp.contains pc then some ((pc, L, S, G), x) else match jm_in M pc with
    | none => none
    | some e => match sy_step nv M e pc L S G (0, 0) x with
      | some ((pc', L', S', G', _), x') => sy_go TB nv sp sm n d M false pc' L' S' G' x'
      | none => match d with
          | 0 => none
          | d' + 1 => match sy_cf TB e G S with
            | some (M1, As, rest) => bif sm.contains e.2.2.1 then some ((pc, L, S, G), x) else if (sy_e1 As).length ≤ jm_mx M1 then (match sy_ev TB nv n d' M1 0 (sy_ent (jm_mx M1) As) [] G x with
              | some (v, G1, x1) => sy_go TB nv sp sm n d M false (pc + 3) L (v.toList ++ rest) G1 x1
              | none => none) else none
            | none => none
theorem sy_cf_tb {TB : List jm_M} {YN : List MethodName} (hTB : ∀ (k : Nat) (M' : jm_M), TB[k]? = some M' → jm_ok YN M') {e : jm_I} {G : sy_h} {S As rest : List sy_v} {M1 : jm_M} (hcf : sy_cf TB e G S = some (M1, As, rest)) : jm_ok YN M1 := by
  unfold sy_cf at hcf
  have gen : ∀ {k : Nat} {X : jm_M}, TB[k]? = some X → jm_ok YN X := fun h => hTB _ _ h
  split at hcf
  · split at hcf
    · split at hcf
      · rename_i hq
        split at hcf
        · cases hcf; exact gen hq
        · cases hcf
      · cases hcf
    · cases hcf
  · split at hcf
    · split at hcf
      · rename_i hq
        split at hcf
        · split at hcf
          · split at hcf
            · cases hcf; exact gen hq
            · cases hcf
          · cases hcf
        · cases hcf
      · cases hcf
    · cases hcf
  · cases hcf
set_option maxHeartbeats 4000000 in
theorem sy_go_ok {TB : List jm_M} {YN : List MethodName} {nv : Nat} {sp sm : List Nat} {Ls : Nat} {xs : Nat → Int32} (hTB : ∀ (k : Nat) (M' : jm_M), TB[k]? = some M' → jm_ok YN M') (hYN : YN = TB.map jm_y) :
    ∀ (n d : Nat) (M : jm_M) (f : Bool) (pc : Nat) (L : List (Option sy_v)) (S : List sy_v) (G : sy_h) (x : sy_x) (pc1 : Nat) (L1 : List (Option sy_v)) (S1 : List sy_v) (G1 : sy_h) (y : sy_x), jm_tck YN M 0 (jm_tb M) = true → sy_go TB nv sp sm n d M f pc L S G x = some ((pc1, L1, S1, G1), y) →
      (∃ r, y.1 = x.1 ++ r) ∧ (∃ r, y.2.1 = x.2.1 ++ r) ∧ ∀ (F : Nat → sy_d) (X1 X2 : List jm_c) (r : List sy_e), sy_sat F nv (y.1 ++ r) → (∀ p ∈ y.2.1, sy_ps F p) →
      ∀ {p : Program} {l : Launch} {e : Env} {R : Room} {s : State} {m : MethodId} {args : Array Value} {below : List Frame} {meth : Method} {c : Code} {D : va_G} {h0 : Nat} {ex : Nat → Nat} {ka : Nat → ClassId} {n0 : Nat} {Q : State → Prop}, jm_C p s m args meth c D h0 ex ka Ls xs M n0 → d + 1 ≤ R.frames → 64 * (d + 1) ≤ R.locals →
      jm_W p l e R s m args below meth c D h0 ex ka M n0 Q (pc1, sy_dL F L1, sy_dS F S1, sy_dh F X1 X2 G1, 0, 0) →
      jm_W p l e R s m args below meth c D h0 ex ka M n0 Q (pc, sy_dL F L, sy_dS F S, sy_dh F X1 X2 G, 0, 0) := by
  intro n
  induction n with
  | zero => intro d M f pc L S G x pc1 L1 S1 G1 y _ h; cases h
  | succ n ih =>
    intro d M f pc L S G x pc1 L1 S1 G1 y htc h
    rw [sy_go] at h
    cases hf : (!f && sp.contains pc) with
    | true =>
      rw [hf] at h
      cases h
      exact ⟨⟨[], (List.append_nil _).symm⟩, ⟨[], (List.append_nil _).symm⟩, fun F X1 X2 r hs hp p l e R s m args below meth c D h0 ex ka n0 Q C0 hfr hlo k => k⟩
    | false =>
      rw [hf] at h
      dsimp only [cond] at h
      split at h
      · cases h
      · rename_i i hi
        have hc := jm_in_ck htc hi
        split at h
        · rename_i pc' L' S' G' q' x' hst
          have hq : q' = (0, 0) := sy_q hst
          subst hq
          obtain ⟨⟨r1, a1⟩, ⟨r2, a2⟩, a3⟩ := sy_step_ok (M := M) (Ls := Ls) (xs := xs) (bc := 0) (bs := 0) hst
          obtain ⟨⟨r3, b1⟩, ⟨r4, b2⟩, b3⟩ := ih d M false pc' L' S' G' x' pc1 L1 S1 G1 y htc h
          refine ⟨⟨r1 ++ r3, by rw [b1, a1, List.append_assoc]⟩, ⟨r2 ++ r4, by rw [b2, a2, List.append_assoc]⟩, ?_⟩
          intro F X1 X2 r hs hp p l e R s m args below meth c D h0 ex ka n0 Q C0 hfr hlo k
          refine jm_step_ok C0 (Nat.zero_le _) (Nat.zero_le _) (by omega) (by omega) hc (a3 F X1 X2 (r3 ++ r) ?_ (fun z hz => hp z (by rw [b2]; exact List.mem_append_left _ hz))) (b3 F X1 X2 r hs hp C0 hfr hlo k)
          rw [← List.append_assoc, ← b1]
          exact hs
        · split at h
          · cases h
          · rename_i d'
            split at h
            · rename_i M1 As rest hcf
              cases hsm : sm.contains i.2.2.1 with
              | true =>
                rw [hsm] at h
                cases h
                exact ⟨⟨[], (List.append_nil _).symm⟩, ⟨[], (List.append_nil _).symm⟩, fun F X1 X2 r hs hp p l e R s m args below meth c D h0 ex ka n0 Q C0 hfr hlo k => k⟩
              | false =>
                rw [hsm] at h
                dsimp only [cond] at h
                split at h
                · rename_i hA
                  split at h
                  · rename_i w G2 x1 hev
                    have hM1 : jm_ok YN M1 := sy_cf_tb hTB hcf
                    obtain ⟨⟨r1, a1⟩, ⟨r2, a2⟩, a3⟩ := sy_ev_ok (Ls := Ls) (xs := xs) hTB hYN n d' M1 0 _ [] G x w G2 x1 hM1.2.2.2.2.2.2.2.2.2 hev
                    obtain ⟨⟨r3, b1⟩, ⟨r4, b2⟩, b3⟩ := ih (d' + 1) M false (pc + 3) L _ G2 x1 pc1 L1 S1 G1 y htc h
                    refine ⟨⟨r1 ++ r3, by rw [b1, a1, List.append_assoc]⟩, ⟨r2 ++ r4, by rw [b2, a2, List.append_assoc]⟩, ?_⟩
                    intro F X1 X2 r hs hp p l e R s m args below meth c D h0 ex ka n0 Q C0 hfr hlo k
                    have hs1 : sy_sat F nv (x1.1 ++ (r3 ++ r)) := by
                      rw [← List.append_assoc, ← b1]
                      exact hs
                    have hp1 : ∀ z ∈ x1.2.1, sy_ps F z := fun z hz => hp z (by rw [b2]; exact List.mem_append_left _ hz)
                    have hT : jm_T Ls xs (d' + 1) M1 (As.map (sy_dv F)) (sy_dh F X1 X2 G) 0 0 (fun v G => v = w.map (sy_dv F) ∧ G = sy_dh F X1 X2 G2) := by
                      refine jm_T_intro hM1 (by rw [sy_e1_ok]; simpa [sy_dL] using hA) (fun p l e s m args below meth c D h0 ex ka C1 => ?_)
                      rw [sy_ent_ok]
                      exact a3 F X1 X2 _ hs1 hp1 C1 ⟨rfl, rfl⟩
                    refine jm_call_ok hTB hYN C0 hc (sy_cf_ok hcf F X1 X2) hT (by omega) (by omega) (Nat.zero_le _) (Nat.zero_le _) (fun v1 G3 hq hlen3 => ?_)
                    obtain ⟨rfl, rfl⟩ := hq
                    have hb := b3 F X1 X2 r hs hp (l := l) (e := e) (below := below) C0 hfr hlo k
                    have he : sy_dS F (w.toList ++ rest) = (w.map (sy_dv F)).toList ++ rest.map (sy_dv F) := by cases w <;> simp [sy_dS]
                    rw [he] at hb
                    exact hb
                  · cases h
                · cases h
            · cases h
/-- a contract out of a run -/
theorem sy_T {TB : List jm_M} {YN : List MethodName} {nv n d : Nat} {M : jm_M} {As : List sy_v} {G G1 : sy_h} {O O1 : List Bool} {T : List sy_e} {P : List sy_p} {v : Option sy_v} {Ls : Nat} {xs : Nat → Int32} (hTB : ∀ (k : Nat) (M' : jm_M), TB[k]? = some M' → jm_ok YN M') (hYN : YN = TB.map jm_y) (hM : jm_ok YN M) (hA : (sy_e1 As).length ≤ jm_mx M)
    (h : sy_ev TB nv n d M 0 (sy_ent (jm_mx M) As) [] G ([], [], O) = some (v, G1, T, P, O1)) (F : Nat → sy_d) (X1 X2 : List jm_c) (hs : sy_sat F nv T) (hp : ∀ p ∈ P, sy_ps F p) :
    jm_T Ls xs (d + 1) M (As.map (sy_dv F)) (sy_dh F X1 X2 G) 0 0 (fun w G' => w = v.map (sy_dv F) ∧ G' = sy_dh F X1 X2 G1) := by
  obtain ⟨-, -, a3⟩ := sy_ev_ok (Ls := Ls) (xs := xs) hTB hYN n d M 0 _ [] G _ v G1 _ hM.2.2.2.2.2.2.2.2.2 h
  refine jm_T_intro hM (by rw [sy_e1_ok]; simpa [sy_dL] using hA) (fun p l e s m args below meth c D h0 ex ka C1 => ?_)
  rw [sy_ent_ok]
  exact a3 F X1 X2 [] (by rw [List.append_nil]; exact hs) hp C1 ⟨rfl, rfl⟩
end
section
/-! ===== the methods, a row each ===== -/
def jm_YN : List MethodName := [⟨"FallMarket$Clock", "<init>", "(LFallMarket$Laws;)V"⟩, ⟨"FallMarket$Clock", "lot", "(II)I"⟩, ⟨"FallMarket$Clock", "mixed", "(II)I"⟩, ⟨"FallMarket$Clock", "passHour", "(LFallMarket$Text;LFallMarket$Ground;I)V"⟩, ⟨"FallMarket$Clock", "sellOrKeep", "(LFallMarket$Text;LFallMarket$Ground;I)V"⟩, ⟨"FallMarket$Clock", "letFall", "(LFallMarket$Text;LFallMarket$Ground;I)V"⟩, ⟨"FallMarket$Ground", "<init>", "()V"⟩, ⟨"FallMarket$Ground", "begin", "(LFallMarket$Text;)V"⟩, ⟨"FallMarket$Ground", "become", "(LFallMarket$Ground;)V"⟩, ⟨"FallMarket$Ground", "save", "([II)V"⟩, ⟨"FallMarket$Ground", "load", "([II)V"⟩, ⟨"FallMarket$Ground", "bits", "(II)I"⟩, ⟨"FallMarket$Ground", "howMany", "(II)I"⟩, ⟨"FallMarket$Ground", "nearest", "(LFallMarket$Text;II)I"⟩, ⟨"FallMarket$Ground", "firstAt", "(LFallMarket$Text;II)I"⟩, ⟨"FallMarket$Ground", "sell", "(III)V"⟩, ⟨"FallMarket$Laws", "<init>", "()V"⟩, ⟨"FallMarket$Laws", "setHour", "(LFallMarket$Text;II)V"⟩, ⟨"FallMarket$Laws", "setFruit", "(LFallMarket$Text;LFallMarket$Ground;I)V"⟩, ⟨"FallMarket$Laws", "settleRests", "(LFallMarket$Text;)V"⟩, ⟨"FallMarket$Laws", "bounced", "(LFallMarket$Text;I)I"⟩, ⟨"FallMarket$Laws", "told", "(LFallMarket$Text;I)I"⟩, ⟨"FallMarket$Laws", "worked", "(LFallMarket$Text;I)I"⟩, ⟨"FallMarket$Laws", "joined", "(III)I"⟩, ⟨"FallMarket$Outlook", "<init>", "(LFallMarket$Laws;)V"⟩, ⟨"FallMarket$Outlook", "lookAhead", "(LFallMarket$Text;LFallMarket$Ground;III)V"⟩, ⟨"FallMarket$Outlook", "weighCatches", "(LFallMarket$Text;LFallMarket$Ground;I)V"⟩, ⟨"FallMarket$Outlook", "meanWorth", "(I)J"⟩, ⟨"FallMarket$Outlook", "fallsInHour", "(LFallMarket$Text;LFallMarket$Ground;III)J"⟩, ⟨"FallMarket$Outlook", "inHundredths", "(JI)I"⟩, ⟨"FallMarket$Parser", "<init>", "(LFallMarket$Text;)V"⟩, ⟨"FallMarket$Parser", "parse", "([BILFallMarket$Text;)I"⟩, ⟨"FallMarket$Parser", "faultPlace", "()I"⟩, ⟨"FallMarket$Parser", "parseFruit", "()Z"⟩, ⟨"FallMarket$Parser", "parseBuyer", "()Z"⟩, ⟨"FallMarket$Parser", "parseSetting", "(I)Z"⟩, ⟨"FallMarket$Parser", "parseLaw", "(II)Z"⟩, ⟨"FallMarket$Parser", "parseIf", "(I)Z"⟩, ⟨"FallMarket$Parser", "parseSum", "(II)Z"⟩, ⟨"FallMarket$Parser", "parseProduct", "(II)Z"⟩, ⟨"FallMarket$Parser", "parseUnit", "(II)Z"⟩, ⟨"FallMarket$Parser", "takeName", "()Z"⟩, ⟨"FallMarket$Parser", "takeNumber", "(III)Z"⟩, ⟨"FallMarket$Parser", "take", "(I)Z"⟩, ⟨"FallMarket$Parser", "refuse", "(I)Z"⟩, ⟨"FallMarket$Parser", "markLater", "(I)V"⟩, ⟨"FallMarket$Text", "<init>", "()V"⟩, ⟨"FallMarket$Text", "clear", "()V"⟩, ⟨"FallMarket$Text", "addPlainLaw", "(II)V"⟩, ⟨"FallMarket$Text", "varCell", "(I)I"⟩, ⟨"FallMarket$Text", "emit", "(I)V"⟩, ⟨"FallMarket$Text", "patch", "(II)V"⟩, ⟨"FallMarket$Text", "addFruit", "([I)V"⟩, ⟨"FallMarket$Text", "addBuyer", "([I)V"⟩, ⟨"FallMarket$Tokens", "<init>", "()V"⟩, ⟨"FallMarket$Tokens", "kindAt", "(I)I"⟩, ⟨"FallMarket$Tokens", "startAt", "(I)I"⟩, ⟨"FallMarket$Tokens", "valueAt", "(I)J"⟩, ⟨"FallMarket$Tokens", "cut", "([BI)V"⟩, ⟨"FallMarket$Tokens", "cutOne", "(I[BII)I"⟩, ⟨"FallMarket$Tokens", "cutWord", "(I[BII)I"⟩, ⟨"FallMarket$Tokens", "cutNumber", "(I[BII)I"⟩, ⟨"FallMarket$Tokens", "wordKind", "(J)I"⟩, ⟨"FallMarket$Tokens", "withLetter", "(JI)J"⟩, ⟨"FallMarket$Tokens", "isBlank", "(I)Z"⟩, ⟨"FallMarket$Tokens", "isLetter", "(I)Z"⟩, ⟨"FallMarket$Tokens", "isDigit", "(I)Z"⟩, ⟨"FallMarket$Tokens", "isSign", "(I)Z"⟩, ⟨"FallMarket$Told", "<init>", "()V"⟩, ⟨"FallMarket$Told", "add", "(II)I"⟩, ⟨"FallMarket$Told", "rowCount", "(LFallMarket$Text;I)I"⟩, ⟨"FallMarket$Told", "fitting", "(LFallMarket$Text;I)I"⟩, ⟨"FallMarket$Told", "firstFitting", "(LFallMarket$Text;I)I"⟩, ⟨"FallMarket$Told", "widest", "(LFallMarket$Text;I)I"⟩, ⟨"FallMarket$Told", "isFit", "(LFallMarket$Text;II)Z"⟩, ⟨"FallMarket$Told", "alikeAhead", "(I)I"⟩, ⟨"FallMarket$Trail", "<init>", "()V"⟩, ⟨"FallMarket$Trail", "clear", "()V"⟩, ⟨"FallMarket$Trail", "remember", "(LFallMarket$Ground;)V"⟩, ⟨"FallMarket$Trail", "stepBack", "(LFallMarket$Ground;)Z"⟩, ⟨"FallMarket", "<init>", "()V"⟩, ⟨"FallMarket", "feed", "(IIIII)I"⟩, ⟨"FallMarket", "back", "(I)I"⟩, ⟨"FallMarket", "read", "()I"⟩, ⟨"FallMarket", "place", "()I"⟩, ⟨"FallMarket", "fruit", "(II)I"⟩, ⟨"FallMarket", "buyer", "(II)I"⟩, ⟨"FallMarket", "tells", "(II)I"⟩, ⟨"FallMarket", "go", "(II)Z"⟩, ⟨"FallMarket", "prop", "(IZ)Z"⟩, ⟨"FallMarket", "shake", "(I)I"⟩, ⟨"FallMarket", "hours", "(I)I"⟩, ⟨"FallMarket", "undo", "()Z"⟩, ⟨"FallMarket", "hangsOn", "(IIZ)I"⟩, ⟨"FallMarket", "mean", "(III)I"⟩, ⟨"FallMarket", "stand", "(III)I"⟩, ⟨"FallMarket", "props", "(II)I"⟩, ⟨"FallMarket", "shakes", "(II)I"⟩, ⟨"FallMarket", "passes", "(II)I"⟩, ⟨"FallMarket", "windIn", "(I)I"⟩, ⟨"FallMarket", "next", "(Z)I"⟩, ⟨"FallMarket", "catcher", "(I)I"⟩, ⟨"FallMarket", "then", "(III)I"⟩, ⟨"FallMarket", "paid", "(II)I"⟩, ⟨"FallMarket", "much", "(II)I"⟩, ⟨"FallMarket", "last", "(I)I"⟩, ⟨"FallMarket", "asleep", "()I"⟩, ⟨"FallMarket", "year", "(IIII)I"⟩, ⟨"FallMarket", "tell", "(II)I"⟩, ⟨"FallMarket", "forget", "()I"⟩, ⟨"FallMarket", "rows", "(I)I"⟩, ⟨"FallMarket", "sure", "(II)I"⟩, ⟨"FallMarket", "ask", "(I)I"⟩, ⟨"FallMarket", "hold", "(I)Z"⟩, ⟨"FallMarket", "restore", "(I)Z"⟩, ⟨"FallMarket", "count", "(I)I"⟩, ⟨"FallMarket", "append", "(I)V"⟩, ⟨"FallMarket", "begin", "()V"⟩, ⟨"FallMarket", "isFruit", "(I)Z"⟩, ⟨"FallMarket", "isBuyer", "(I)Z"⟩, ⟨"FallMarket", "lookAtNow", "(I)V"⟩, ⟨"FallMarket", "goAhead", "(I)V"⟩, ⟨"FallMarket", "catchesAt", "(II)J"⟩, ⟨"FallMarket", "boughtBits", "(I)I"⟩, ⟨"FallMarket", "heldSlots", "()I"⟩, ⟨"FallMarket", "allCoins", "()I"⟩, ⟨"FallMarket", "proppedBits", "()I"⟩, ⟨"FallMarket", "hangingRipeness", "()I"⟩, ⟨"FallMarket", "isWithin", "(III)Z"⟩, ⟨"FallMarket", "heldTo", "(III)I"⟩, ⟨"FallMarket", "highestFruit", "(I)I"⟩, ⟨"FallMarket", "commonDivisor", "(II)I"⟩, ⟨"FallMarketModel", "<init>", "()V"⟩, ⟨"FallMarketModel", "feed", "(IIIII)I"⟩, ⟨"FallMarketModel", "put", "(I)V"⟩, ⟨"FallMarketModel", "back", "(I)I"⟩, ⟨"FallMarketModel", "byteAt", "(I)I"⟩, ⟨"FallMarketModel", "isDigit", "(I)Z"⟩, ⟨"FallMarketModel", "isLetter", "(I)Z"⟩, ⟨"FallMarketModel", "appends", "(JI)J"⟩, ⟨"FallMarketModel", "word", "(IIIIIII)J"⟩, ⟨"FallMarketModel", "token", "(IIIJ)V"⟩, ⟨"FallMarketModel", "cut", "()V"⟩, ⟨"FallMarketModel", "sign", "(III)I"⟩, ⟨"FallMarketModel", "is", "(I)Z"⟩, ⟨"FallMarketModel", "fail", "(I)V"⟩, ⟨"FallMarketModel", "wrong", "(II)V"⟩, ⟨"FallMarketModel", "goesOn", "()V"⟩, ⟨"FallMarketModel", "must", "(I)V"⟩, ⟨"FallMarketModel", "plain", "(I)V"⟩, ⟨"FallMarketModel", "read", "()I"⟩, ⟨"FallMarketModel", "place", "()I"⟩, ⟨"FallMarketModel", "roomFor", "(II)V"⟩, ⟨"FallMarketModel", "toldInt", "(II)I"⟩, ⟨"FallMarketModel", "tellOne", "()V"⟩, ⟨"FallMarketModel", "named", "()I"⟩, ⟨"FallMarketModel", "ends", "(I)V"⟩, ⟨"FallMarketModel", "bounded", "(II)I"⟩, ⟨"FallMarketModel", "tellFruit", "()V"⟩, ⟨"FallMarketModel", "tellBuyer", "()V"⟩, ⟨"FallMarketModel", "tellLaw", "(I)V"⟩, ⟨"FallMarketModel", "term", "()V"⟩, ⟨"FallMarketModel", "emit", "(II)V"⟩, ⟨"FallMarketModel", "comesOut", "(Z)V"⟩, ⟨"FallMarketModel", "expression", "()V"⟩, ⟨"FallMarketModel", "unit", "()V"⟩, ⟨"FallMarketModel", "termOf", "(II)I"⟩, ⟨"FallMarketModel", "in", "(III)Z"⟩, ⟨"FallMarketModel", "held", "(III)I"⟩, ⟨"FallMarketModel", "isFruit", "(I)Z"⟩, ⟨"FallMarketModel", "isBuyer", "(I)Z"⟩, ⟨"FallMarketModel", "begins", "()V"⟩, ⟨"FallMarketModel", "keepsRow", "()V"⟩, ⟨"FallMarketModel", "copies", "()V"⟩, ⟨"FallMarketModel", "mixed", "(II)I"⟩, ⟨"FallMarketModel", "lotOf", "(I)I"⟩, ⟨"FallMarketModel", "bitsOf", "(I)I"⟩, ⟨"FallMarketModel", "bits", "(I)I"⟩, ⟨"FallMarketModel", "looks", "(II)V"⟩, ⟨"FallMarketModel", "asks", "(IIII)I"⟩, ⟨"FallMarketModel", "lawTells", "(I)I"⟩, ⟨"FallMarketModel", "windBy", "(II)I"⟩, ⟨"FallMarketModel", "looksAt", "(IIII)V"⟩, ⟨"FallMarketModel", "worthBy", "(IIIII)I"⟩, ⟨"FallMarketModel", "bouncesBy", "(IIII)I"⟩, ⟨"FallMarketModel", "hangsBy", "(IIIIIIII)I"⟩, ⟨"FallMarketModel", "off", "(II)I"⟩, ⟨"FallMarketModel", "catcherOf", "(II)I"⟩, ⟨"FallMarketModel", "sells", "(III)V"⟩, ⟨"FallMarketModel", "looksOn", "()V"⟩, ⟨"FallMarketModel", "lies", "(I)V"⟩, ⟨"FallMarketModel", "falls", "(I)V"⟩, ⟨"FallMarketModel", "hourGoes", "()V"⟩, ⟨"FallMarketModel", "goes", "(I)V"⟩, ⟨"FallMarketModel", "fruit", "(II)I"⟩, ⟨"FallMarketModel", "buyer", "(II)I"⟩, ⟨"FallMarketModel", "leftNow", "()I"⟩, ⟨"FallMarketModel", "tellsOf", "(IIII)I"⟩, ⟨"FallMarketModel", "blowsNow", "()I"⟩, ⟨"FallMarketModel", "tells", "(II)I"⟩, ⟨"FallMarketModel", "records", "()V"⟩, ⟨"FallMarketModel", "go", "(II)Z"⟩, ⟨"FallMarketModel", "prop", "(IZ)Z"⟩, ⟨"FallMarketModel", "shake", "(I)I"⟩, ⟨"FallMarketModel", "hours", "(I)I"⟩, ⟨"FallMarketModel", "undo", "()Z"⟩, ⟨"FallMarketModel", "fillsOdds", "(III)V"⟩, ⟨"FallMarketModel", "hundreds", "(I)J"⟩, ⟨"FallMarketModel", "fallsIn", "(I)J"⟩, ⟨"FallMarketModel", "isFew", "(II)Z"⟩, ⟨"FallMarketModel", "common", "(JJ)J"⟩, ⟨"FallMarketModel", "hangsOn", "(IIZ)I"⟩, ⟨"FallMarketModel", "meanAt", "(III)J"⟩, ⟨"FallMarketModel", "mean", "(III)I"⟩, ⟨"FallMarketModel", "stand", "(III)I"⟩, ⟨"FallMarketModel", "props", "(II)I"⟩, ⟨"FallMarketModel", "shakes", "(II)I"⟩, ⟨"FallMarketModel", "passes", "(II)I"⟩, ⟨"FallMarketModel", "isLong", "(I)Z"⟩, ⟨"FallMarketModel", "windIn", "(I)I"⟩, ⟨"FallMarketModel", "next", "(Z)I"⟩, ⟨"FallMarketModel", "catcher", "(I)I"⟩, ⟨"FallMarketModel", "then", "(III)I"⟩, ⟨"FallMarketModel", "paid", "(II)I"⟩, ⟨"FallMarketModel", "much", "(II)I"⟩, ⟨"FallMarketModel", "last", "(I)I"⟩, ⟨"FallMarketModel", "asleep", "()I"⟩, ⟨"FallMarketModel", "year", "(IIII)I"⟩, ⟨"FallMarketModel", "tell", "(II)I"⟩, ⟨"FallMarketModel", "forget", "()I"⟩, ⟨"FallMarketModel", "sevens", "(I)I"⟩, ⟨"FallMarketModel", "isRow", "(II)Z"⟩, ⟨"FallMarketModel", "fillsRows", "(I)V"⟩, ⟨"FallMarketModel", "rows", "(I)I"⟩, ⟨"FallMarketModel", "sure", "(II)I"⟩, ⟨"FallMarketModel", "ask", "(I)I"⟩, ⟨"FallMarketModel", "hold", "(I)Z"⟩, ⟨"FallMarketModel", "restore", "(I)Z"⟩, ⟨"FallMarketModel", "count", "(I)I"⟩, ⟨"java/lang/Integer", "bitCount", "(I)I"⟩, ⟨"java/lang/Math", "abs", "(I)I"⟩, ⟨"java/lang/Math", "max", "(II)I"⟩, ⟨"java/lang/Math", "max", "(JJ)J"⟩, ⟨"java/lang/Math", "min", "(II)I"⟩, ⟨"java/lang/String", "length", "()I"⟩, ⟨"java/lang/String", "charAt", "(I)C"⟩, ⟨"java/lang/String", "coder", "()B"⟩, ⟨"java/lang/String", "isLatin1", "()Z"⟩, ⟨"java/lang/String", "checkIndex", "(II)V"⟩, ⟨"java/lang/StringLatin1", "charAt", "([BI)C"⟩, ⟨"java/lang/StringUTF16", "getChar", "([BI)C"⟩, ⟨"java/lang/StringUTF16", "length", "([B)I"⟩, ⟨"java/lang/StringUTF16", "charAt", "([BI)C"⟩, ⟨"java/lang/StringUTF16", "checkIndex", "(I[B)V"⟩, ⟨"java/util/Arrays", "fill", "([II)V"⟩, ⟨"jdk/internal/util/Preconditions", "checkIndex", "(IILjava/util/function/BiFunction;)I"⟩]
/-- FallMarket$Clock.<init>(LFallMarket$Laws;)V -/
def jm_M0 : jm_M := (⟨"FallMarket$Clock", "<init>", "(LFallMarket$Laws;)V"⟩, prog_2_method_1_code, 2, none, [[some (.aload_n 0, 1, 0, 0, 0), some (.invokespecial 3, 3, 0, 2, 354), none, none, some (.aload_n 0, 1, 0, 0, 0), some (.aload_n 1, 1, 0, 0, 0), some (.putfield 9, 3, 0, 13000, 355), none, none, some (.return_, 1, 0, 0, 0)]], 1, 1, 2, 0)
/-- FallMarket$Clock.lot(II)I -/
def jm_M1 : jm_M := (⟨"FallMarket$Clock", "lot", "(II)I"⟩, prog_2_method_2_code, 2, some .int, [[some (.iload_n 0, 1, 0, 0, 0), some (.bipush 101, 2, 0, 0, 0), none, some (.invokestatic 15, 3, 2, 0, 805), none, none, some (.iload_n 1, 1, 0, 0, 0), some (.invokestatic 15, 3, 2, 0, 805), none, none, some (.iconst 1, 1, 0, 0, 0), some (.iushr, 1, 0, 0, 0), some (.bipush 100, 2, 0, 0, 0), none, some (.irem, 1, 0, 0, 0), some (.ireturn, 1, 0, 0, 0)]], 1, 2, 0, 0)
/-- FallMarket$Clock.mixed(II)I -/
def jm_M2 : jm_M := (⟨"FallMarket$Clock", "mixed", "(II)I"⟩, prog_2_method_3_code, 3, some .int, [[some (.iload_n 0, 1, 0, 0, 0), some (.iload_n 1, 1, 0, 0, 0), some (.ixor, 1, 0, 0, 0), some (.ldc 19, 2, 1103515245, 0, 808), none, some (.imul, 1, 0, 0, 0), some (.sipush 12345, 3, 0, 0, 0), none, none, some (.iadd, 1, 0, 0, 0), some (.istore_n 2, 1, 0, 0, 0), some (.iload_n 2, 1, 0, 0, 0), some (.iload_n 2, 1, 0, 0, 0), some (.bipush 15, 2, 0, 0, 0), none, some (.iushr, 1, 0, 0, 0)],
  [some (.ixor, 1, 0, 0, 0), some (.ireturn, 1, 0, 0, 0)]], 1, 2, 0, 0)
def jm_M3_r0 : List (Option jm_I) := [some (.aload_n 0, 1, 0, 0, 0), some (.getfield 9, 3, 0, 0, 355), none, none, some (.aload_n 1, 1, 0, 0, 0), some (.aload_n 2, 1, 0, 0, 0), some (.getfield 20, 3, 1, 0, 388), none, none, some (.aload_n 2, 1, 0, 0, 0), some (.iconst 0, 1, 0, 0, 0), some (.aload_n 1, 1, 0, 0, 0), some (.getfield 26, 3, 5, 0, 147), none, none, some (.invokevirtual 31, 3, 12, 0, 817)]
def jm_M3_r1 : List (Option jm_I) := [none, none, some (.invokevirtual 34, 3, 17, 0, 818), none, none, some (.iconst 0, 1, 0, 0, 0), some (.istore 4, 2, 0, 0, 0), none, some (.iload 4, 2, 0, 0, 0), none, some (.aload_n 1, 1, 0, 0, 0), some (.getfield 26, 3, 5, 0, 147), none, none, some (.if_icmp .ge 28, 3, 0, 0, 0)]
def jm_M3_r2 : List (Option jm_I) := [none, some (.aload_n 2, 1, 0, 0, 0), some (.getfield 40, 3, 1, 4, 401), none, none, some (.iload 4, 2, 0, 0, 0), none, some (.iaload, 1, 0, 0, 0), some (.iconst 1, 1, 0, 0, 0), some (.if_icmp .ne 11, 3, 0, 0, 0), none, none, some (.aload_n 0, 1, 0, 0, 0), some (.aload_n 1, 1, 0, 0, 0), some (.aload_n 2, 1, 0, 0, 0), some (.iload 4, 2, 0, 0, 0)]
def jm_M3_r3 : List (Option jm_I) := [none, some (.invokevirtual 44, 3, 4, 0, 819), none, none, some (.iinc 4 1, 3, 0, 0, 0), none, none, some (.goto (-31), 3, 0, 0, 0), none, none, some (.iconst 0, 1, 0, 0, 0), some (.istore 4, 2, 0, 0, 0), none, some (.iload 4, 2, 0, 0, 0), none, some (.aload_n 1, 1, 0, 0, 0)]
def jm_M3_r4 : List (Option jm_I) := [some (.getfield 26, 3, 5, 0, 147), none, none, some (.if_icmp .ge 97, 3, 0, 0, 0), none, none, some (.aload_n 2, 1, 0, 0, 0), some (.getfield 40, 3, 1, 4, 401), none, none, some (.iload 4, 2, 0, 0, 0), none, some (.iaload, 1, 0, 0, 0), some (.ifCond .ne 81, 3, 0, 0, 0)]
def jm_M3_r5 : List (Option jm_I) := [some (.aload_n 0, 1, 0, 0, 0), some (.getfield 9, 3, 0, 0, 355), none, none, some (.aload_n 1, 1, 0, 0, 0), some (.aload_n 2, 1, 0, 0, 0), some (.iload 4, 2, 0, 0, 0), none, some (.invokevirtual 48, 3, 18, 0, 823), none, none, some (.iload_n 3, 1, 0, 0, 0), some (.bipush 16, 2, 0, 0, 0), none, some (.aload_n 2, 1, 0, 0, 0), some (.getfield 20, 3, 1, 0, 388)]
def jm_M3_r6 : List (Option jm_I) := [none, none, some (.imul, 1, 0, 0, 0), some (.iload 4, 2, 0, 0, 0), none, some (.iadd, 1, 0, 0, 0), some (.invokestatic 51, 3, 1, 0, 833), none, none, some (.aload_n 0, 1, 0, 0, 0), some (.getfield 9, 3, 0, 0, 355), none, none, some (.aload_n 1, 1, 0, 0, 0), some (.iconst 2, 1, 0, 0, 0), some (.invokevirtual 54, 3, 21, 0, 824)]
def jm_M3_r7 : List (Option jm_I) := [none, none, some (.if_icmp .ge 14, 3, 0, 0, 0), none, none, some (.aload_n 0, 1, 0, 0, 0), some (.aload_n 1, 1, 0, 0, 0), some (.aload_n 2, 1, 0, 0, 0), some (.iload 4, 2, 0, 0, 0), none, some (.invokevirtual 58, 3, 5, 0, 834), none, none, some (.goto 33, 3, 0, 0, 0)]
def jm_M3_r8 : List (Option jm_I) := [some (.aload_n 2, 1, 0, 0, 0), some (.getfield 61, 3, 1, 3, 397), none, none, some (.iload 4, 2, 0, 0, 0), none, some (.aload_n 2, 1, 0, 0, 0), some (.getfield 61, 3, 1, 3, 397), none, none, some (.iload 4, 2, 0, 0, 0), none, some (.iaload, 1, 0, 0, 0), some (.aload_n 0, 1, 0, 0, 0), some (.getfield 9, 3, 0, 0, 355)]
def jm_M3_r9 : List (Option jm_I) := [none, some (.aload_n 1, 1, 0, 0, 0), some (.iconst 1, 1, 0, 0, 0), some (.invokevirtual 54, 3, 21, 0, 824), none, none, some (.iadd, 1, 0, 0, 0), some (.iconst 0, 1, 0, 0, 0), some (.bipush 99, 2, 0, 0, 0), none, some (.invokestatic 64, 3, 129, 1, 846), none, none, some (.iastore, 1, 0, 0, 0), some (.iinc 4 1, 3, 0, 0, 0)]
def jm_M3_r10 : List (Option jm_I) := [none, some (.goto (-100), 3, 0, 0, 0), none, none, some (.aload_n 2, 1, 0, 0, 0), some (.dup, 1, 0, 0, 0), some (.getfield 20, 3, 1, 0, 388), none, none, some (.iconst 1, 1, 0, 0, 0), some (.iadd, 1, 0, 0, 0), some (.putfield 20, 3, 1, 0, 388), none, none, some (.aload_n 2, 1, 0, 0, 0), some (.getfield 68, 3, 1, 8, 416)]
def jm_M3_r11 : List (Option jm_I) := [none, none, some (.iconst 0, 1, 0, 0, 0), some (.invokestatic 71, 3, 254, 0, 847), none, none, some (.return_, 1, 0, 0, 0)]
/-- FallMarket$Clock.passHour(LFallMarket$Text;LFallMarket$Ground;I)V -/
def jm_M3 : jm_M := (⟨"FallMarket$Clock", "passHour", "(LFallMarket$Text;LFallMarket$Ground;I)V"⟩, prog_2_method_4_code, 5, none, [jm_M3_r0, jm_M3_r1, jm_M3_r2, jm_M3_r3, jm_M3_r4, jm_M3_r5, jm_M3_r6, jm_M3_r7, jm_M3_r8, jm_M3_r9, jm_M3_r10, jm_M3_r11], 1, 3, 1, 0)
/-- FallMarket$Clock.sellOrKeep(LFallMarket$Text;LFallMarket$Ground;I)V -/
def jm_M4 : jm_M := (⟨"FallMarket$Clock", "sellOrKeep", "(LFallMarket$Text;LFallMarket$Ground;I)V"⟩, prog_2_method_5_code, 6, none, [[some (.aload_n 0, 1, 0, 0, 0), some (.getfield 9, 3, 0, 0, 355), none, none, some (.aload_n 1, 1, 0, 0, 0), some (.aload_n 2, 1, 0, 0, 0), some (.iload_n 3, 1, 0, 0, 0), some (.invokevirtual 48, 3, 18, 0, 823), none, none, some (.aload_n 0, 1, 0, 0, 0), some (.getfield 9, 3, 0, 0, 355), none, none, some (.aload_n 1, 1, 0, 0, 0), some (.iconst 3, 1, 0, 0, 0)],
  [some (.invokevirtual 54, 3, 21, 0, 824), none, none, some (.istore 4, 2, 0, 0, 0), none, some (.aload_n 2, 1, 0, 0, 0), some (.aload_n 1, 1, 0, 0, 0), some (.aload_n 2, 1, 0, 0, 0), some (.getfield 77, 3, 1, 9, 419), none, none, some (.iload_n 3, 1, 0, 0, 0), some (.iaload, 1, 0, 0, 0), some (.iload 4, 2, 0, 0, 0), none, some (.invokevirtual 80, 3, 14, 0, 825)],
  [none, none, some (.istore 5, 2, 0, 0, 0), none, some (.iload 5, 2, 0, 0, 0), none, some (.ifCond .lt 13, 3, 0, 0, 0), none, none, some (.aload_n 2, 1, 0, 0, 0), some (.iload_n 3, 1, 0, 0, 0), some (.iload 5, 2, 0, 0, 0), none, some (.iload 4, 2, 0, 0, 0), none, some (.invokevirtual 84, 3, 15, 0, 829)],
  [none, none, some (.return_, 1, 0, 0, 0), some (.aload_n 2, 1, 0, 0, 0), some (.getfield 88, 3, 1, 6, 407), none, none, some (.iload_n 3, 1, 0, 0, 0), some (.dup2, 1, 0, 0, 0), some (.iaload, 1, 0, 0, 0), some (.iconst 1, 1, 0, 0, 0), some (.iadd, 1, 0, 0, 0), some (.iastore, 1, 0, 0, 0), some (.aload_n 2, 1, 0, 0, 0), some (.getfield 88, 3, 1, 6, 407)],
  [none, some (.iload_n 3, 1, 0, 0, 0), some (.iaload, 1, 0, 0, 0), some (.aload_n 1, 1, 0, 0, 0), some (.getfield 91, 3, 5, 10, 179), none, none, some (.if_icmp .le 10, 3, 0, 0, 0), none, none, some (.aload_n 2, 1, 0, 0, 0), some (.getfield 40, 3, 1, 4, 401), none, none, some (.iload_n 3, 1, 0, 0, 0), some (.iconst 3, 1, 0, 0, 0)],
  [some (.iastore, 1, 0, 0, 0), some (.return_, 1, 0, 0, 0)]], 1, 3, 1, 0)
/-- FallMarket$Clock.letFall(LFallMarket$Text;LFallMarket$Ground;I)V -/
def jm_M5 : jm_M := (⟨"FallMarket$Clock", "letFall", "(LFallMarket$Text;LFallMarket$Ground;I)V"⟩, prog_2_method_6_code, 6, none, [[some (.aload_n 0, 1, 0, 0, 0), some (.getfield 9, 3, 0, 0, 355), none, none, some (.aload_n 1, 1, 0, 0, 0), some (.iconst 3, 1, 0, 0, 0), some (.invokevirtual 54, 3, 21, 0, 824), none, none, some (.istore 4, 2, 0, 0, 0), none, some (.aload_n 2, 1, 0, 0, 0), some (.aload_n 1, 1, 0, 0, 0), some (.aload_n 1, 1, 0, 0, 0), some (.getfield 94, 3, 5, 1, 152)],
  [none, some (.iload_n 3, 1, 0, 0, 0), some (.iaload, 1, 0, 0, 0), some (.iload 4, 2, 0, 0, 0), none, some (.invokevirtual 97, 3, 13, 0, 838), none, none, some (.istore 5, 2, 0, 0, 0), none, some (.iload 5, 2, 0, 0, 0), none, some (.ifCond .lt 15, 3, 0, 0, 0), none, none, some (.aload_n 2, 1, 0, 0, 0)],
  [some (.iload_n 3, 1, 0, 0, 0), some (.iload 5, 2, 0, 0, 0), none, some (.iload 4, 2, 0, 0, 0), none, some (.invokevirtual 84, 3, 15, 0, 829), none, none, some (.goto 25, 3, 0, 0, 0), none, none, some (.aload_n 2, 1, 0, 0, 0), some (.getfield 40, 3, 1, 4, 401), none, none, some (.iload_n 3, 1, 0, 0, 0)],
  [some (.iconst 1, 1, 0, 0, 0), some (.iastore, 1, 0, 0, 0), some (.aload_n 2, 1, 0, 0, 0), some (.getfield 77, 3, 1, 9, 419), none, none, some (.iload_n 3, 1, 0, 0, 0), some (.aload_n 0, 1, 0, 0, 0), some (.getfield 9, 3, 0, 0, 355), none, none, some (.aload_n 1, 1, 0, 0, 0), some (.iload_n 3, 1, 0, 0, 0), some (.invokevirtual 100, 3, 20, 0, 845)],
  [some (.iastore, 1, 0, 0, 0), some (.return_, 1, 0, 0, 0)]], 1, 3, 1, 0)
/-- FallMarket$Ground.<init>()V -/
def jm_M6 : jm_M := (⟨"FallMarket$Ground", "<init>", "()V"⟩, prog_3_method_1_code, 1, none, [[some (.aload_n 0, 1, 0, 0, 0), some (.invokespecial 3, 3, 0, 2, 385), none, none, some (.aload_n 0, 1, 0, 0, 0), some (.iconst 0, 1, 0, 0, 0), some (.putfield 9, 3, 1, 0, 386), none, none, some (.aload_n 0, 1, 0, 0, 0), some (.iconst 0, 1, 0, 0, 0), some (.putfield 15, 3, 1, 1, 390), none, none, some (.aload_n 0, 1, 0, 0, 0), some (.iconst 0, 1, 0, 0, 0)],
  [some (.putfield 18, 3, 1, 2, 392), none, none, some (.aload_n 0, 1, 0, 0, 0), some (.bipush 7, 2, 0, 0, 0), none, some (.newarray .int, 2, 0, 0, 0), none, some (.putfield 21, 3, 1, 13003, 394), none, none, some (.aload_n 0, 1, 0, 0, 0), some (.bipush 7, 2, 0, 0, 0), none, some (.newarray .int, 2, 0, 0, 0)],
  [some (.putfield 25, 3, 1, 13004, 399), none, none, some (.aload_n 0, 1, 0, 0, 0), some (.bipush 7, 2, 0, 0, 0), none, some (.newarray .int, 2, 0, 0, 0), none, some (.putfield 28, 3, 1, 13005, 403), none, none, some (.aload_n 0, 1, 0, 0, 0), some (.bipush 7, 2, 0, 0, 0), none, some (.newarray .int, 2, 0, 0, 0)],
  [some (.putfield 31, 3, 1, 13006, 405), none, none, some (.aload_n 0, 1, 0, 0, 0), some (.bipush 7, 2, 0, 0, 0), none, some (.newarray .int, 2, 0, 0, 0), none, some (.putfield 34, 3, 1, 13007, 409), none, none, some (.aload_n 0, 1, 0, 0, 0), some (.bipush 7, 2, 0, 0, 0), none, some (.newarray .int, 2, 0, 0, 0)],
  [some (.putfield 37, 3, 1, 13008, 413), none, none, some (.aload_n 0, 1, 0, 0, 0), some (.bipush 7, 2, 0, 0, 0), none, some (.newarray .int, 2, 0, 0, 0), none, some (.putfield 40, 3, 1, 13009, 418), none, none, some (.aload_n 0, 1, 0, 0, 0), some (.iconst 4, 1, 0, 0, 0), some (.newarray .int, 2, 0, 0, 0), none, some (.putfield 43, 3, 1, 13010, 421)],
  [none, none, some (.aload_n 0, 1, 0, 0, 0), some (.iconst 4, 1, 0, 0, 0), some (.newarray .int, 2, 0, 0, 0), none, some (.putfield 46, 3, 1, 13011, 423), none, none, some (.return_, 1, 0, 0, 0)]], 1, 0, 2, 1)
/-- FallMarket$Ground.begin(LFallMarket$Text;)V -/
def jm_M7 : jm_M := (⟨"FallMarket$Ground", "begin", "(LFallMarket$Text;)V"⟩, prog_3_method_2_code, 2, none, [[some (.aload_n 0, 1, 0, 0, 0), some (.iconst 0, 1, 0, 0, 0), some (.putfield 9, 3, 1, 0, 386), none, none, some (.aload_n 0, 1, 0, 0, 0), some (.iconst 0, 1, 0, 0, 0), some (.putfield 15, 3, 1, 1, 390), none, none, some (.aload_n 0, 1, 0, 0, 0), some (.iconst 0, 1, 0, 0, 0), some (.putfield 18, 3, 1, 2, 392), none, none, some (.aload_n 1, 1, 0, 0, 0)],
  [some (.getfield 49, 3, 5, 3, 159), none, none, some (.iconst 0, 1, 0, 0, 0), some (.aload_n 0, 1, 0, 0, 0), some (.getfield 21, 3, 1, 3, 394), none, none, some (.iconst 0, 1, 0, 0, 0), some (.bipush 7, 2, 0, 0, 0), none, some (.invokestatic 52, 3, 0, 2, 493), none, none, some (.aload_n 0, 1, 0, 0, 0), some (.getfield 25, 3, 1, 4, 399)],
  [none, none, some (.iconst 0, 1, 0, 0, 0), some (.invokestatic 58, 3, 254, 0, 496), none, none, some (.aload_n 0, 1, 0, 0, 0), some (.getfield 28, 3, 1, 5, 403), none, none, some (.bipush (-2), 2, 0, 0, 0), none, some (.invokestatic 58, 3, 254, 0, 496), none, none, some (.aload_n 0, 1, 0, 0, 0)],
  [some (.getfield 31, 3, 1, 6, 405), none, none, some (.iconst 0, 1, 0, 0, 0), some (.invokestatic 58, 3, 254, 0, 496), none, none, some (.aload_n 0, 1, 0, 0, 0), some (.getfield 34, 3, 1, 7, 409), none, none, some (.iconst 0, 1, 0, 0, 0), some (.invokestatic 58, 3, 254, 0, 496), none, none, some (.aload_n 0, 1, 0, 0, 0)],
  [some (.getfield 37, 3, 1, 8, 413), none, none, some (.iconst 0, 1, 0, 0, 0), some (.invokestatic 58, 3, 254, 0, 496), none, none, some (.aload_n 1, 1, 0, 0, 0), some (.getfield 64, 3, 5, 1, 150), none, none, some (.iconst 0, 1, 0, 0, 0), some (.aload_n 0, 1, 0, 0, 0), some (.getfield 40, 3, 1, 9, 418)],
  [some (.iconst 0, 1, 0, 0, 0), some (.bipush 7, 2, 0, 0, 0), none, some (.invokestatic 52, 3, 0, 2, 493), none, none, some (.aload_n 1, 1, 0, 0, 0), some (.getfield 67, 3, 5, 6, 169), none, none, some (.iconst 0, 1, 0, 0, 0), some (.aload_n 0, 1, 0, 0, 0), some (.getfield 43, 3, 1, 10, 421), none, none, some (.iconst 0, 1, 0, 0, 0)],
  [some (.iconst 4, 1, 0, 0, 0), some (.invokestatic 52, 3, 0, 2, 493), none, none, some (.aload_n 1, 1, 0, 0, 0), some (.getfield 68, 3, 5, 8, 174), none, none, some (.iconst 0, 1, 0, 0, 0), some (.aload_n 0, 1, 0, 0, 0), some (.getfield 46, 3, 1, 11, 423), none, none, some (.iconst 0, 1, 0, 0, 0), some (.iconst 4, 1, 0, 0, 0), some (.invokestatic 52, 3, 0, 2, 493)],
  [none, none, some (.return_, 1, 0, 0, 0)]], 1, 1, 1, 1)
/-- FallMarket$Ground.become(LFallMarket$Ground;)V -/
def jm_M8 : jm_M := (⟨"FallMarket$Ground", "become", "(LFallMarket$Ground;)V"⟩, prog_3_method_3_code, 2, none, [[some (.aload_n 0, 1, 0, 0, 0), some (.aload_n 1, 1, 0, 0, 0), some (.getfield 9, 3, 1, 0, 386), none, none, some (.putfield 9, 3, 1, 0, 386), none, none, some (.aload_n 0, 1, 0, 0, 0), some (.aload_n 1, 1, 0, 0, 0), some (.getfield 15, 3, 1, 1, 390), none, none, some (.putfield 15, 3, 1, 1, 390)],
  [some (.aload_n 0, 1, 0, 0, 0), some (.aload_n 1, 1, 0, 0, 0), some (.getfield 18, 3, 1, 2, 392), none, none, some (.putfield 18, 3, 1, 2, 392), none, none, some (.aload_n 1, 1, 0, 0, 0), some (.getfield 21, 3, 1, 3, 394), none, none, some (.iconst 0, 1, 0, 0, 0), some (.aload_n 0, 1, 0, 0, 0), some (.getfield 21, 3, 1, 3, 394)],
  [none, some (.iconst 0, 1, 0, 0, 0), some (.bipush 7, 2, 0, 0, 0), none, some (.invokestatic 52, 3, 0, 2, 493), none, none, some (.aload_n 1, 1, 0, 0, 0), some (.getfield 25, 3, 1, 4, 399), none, none, some (.iconst 0, 1, 0, 0, 0), some (.aload_n 0, 1, 0, 0, 0), some (.getfield 25, 3, 1, 4, 399)],
  [some (.iconst 0, 1, 0, 0, 0), some (.bipush 7, 2, 0, 0, 0), none, some (.invokestatic 52, 3, 0, 2, 493), none, none, some (.aload_n 1, 1, 0, 0, 0), some (.getfield 28, 3, 1, 5, 403), none, none, some (.iconst 0, 1, 0, 0, 0), some (.aload_n 0, 1, 0, 0, 0), some (.getfield 28, 3, 1, 5, 403), none, none, some (.iconst 0, 1, 0, 0, 0)],
  [some (.bipush 7, 2, 0, 0, 0), none, some (.invokestatic 52, 3, 0, 2, 493), none, none, some (.aload_n 1, 1, 0, 0, 0), some (.getfield 31, 3, 1, 6, 405), none, none, some (.iconst 0, 1, 0, 0, 0), some (.aload_n 0, 1, 0, 0, 0), some (.getfield 31, 3, 1, 6, 405), none, none, some (.iconst 0, 1, 0, 0, 0), some (.bipush 7, 2, 0, 0, 0)],
  [none, some (.invokestatic 52, 3, 0, 2, 493), none, none, some (.aload_n 1, 1, 0, 0, 0), some (.getfield 34, 3, 1, 7, 409), none, none, some (.iconst 0, 1, 0, 0, 0), some (.aload_n 0, 1, 0, 0, 0), some (.getfield 34, 3, 1, 7, 409), none, none, some (.iconst 0, 1, 0, 0, 0), some (.bipush 7, 2, 0, 0, 0)],
  [some (.invokestatic 52, 3, 0, 2, 493), none, none, some (.aload_n 1, 1, 0, 0, 0), some (.getfield 37, 3, 1, 8, 413), none, none, some (.iconst 0, 1, 0, 0, 0), some (.aload_n 0, 1, 0, 0, 0), some (.getfield 37, 3, 1, 8, 413), none, none, some (.iconst 0, 1, 0, 0, 0), some (.bipush 7, 2, 0, 0, 0), none, some (.invokestatic 52, 3, 0, 2, 493)],
  [none, none, some (.aload_n 1, 1, 0, 0, 0), some (.getfield 40, 3, 1, 9, 418), none, none, some (.iconst 0, 1, 0, 0, 0), some (.aload_n 0, 1, 0, 0, 0), some (.getfield 40, 3, 1, 9, 418), none, none, some (.iconst 0, 1, 0, 0, 0), some (.bipush 7, 2, 0, 0, 0), none, some (.invokestatic 52, 3, 0, 2, 493)],
  [none, some (.aload_n 1, 1, 0, 0, 0), some (.getfield 43, 3, 1, 10, 421), none, none, some (.iconst 0, 1, 0, 0, 0), some (.aload_n 0, 1, 0, 0, 0), some (.getfield 43, 3, 1, 10, 421), none, none, some (.iconst 0, 1, 0, 0, 0), some (.iconst 4, 1, 0, 0, 0), some (.invokestatic 52, 3, 0, 2, 493), none, none, some (.aload_n 1, 1, 0, 0, 0)],
  [some (.getfield 46, 3, 1, 11, 423), none, none, some (.iconst 0, 1, 0, 0, 0), some (.aload_n 0, 1, 0, 0, 0), some (.getfield 46, 3, 1, 11, 423), none, none, some (.iconst 0, 1, 0, 0, 0), some (.iconst 4, 1, 0, 0, 0), some (.invokestatic 52, 3, 0, 2, 493), none, none, some (.return_, 1, 0, 0, 0)]], 1, 1, 1, 1)
def jm_M9_r0 : List (Option jm_I) := [some (.iload_n 2, 1, 0, 0, 0), some (.ifCond .lt 12, 3, 0, 0, 0), none, none, some (.iload_n 2, 1, 0, 0, 0), some (.aload_n 1, 1, 0, 0, 0), some (.arraylength, 1, 0, 0, 0), some (.bipush 60, 2, 0, 0, 0), none, some (.isub, 1, 0, 0, 0), some (.if_icmp .le 4, 3, 0, 0, 0), none, none, some (.return_, 1, 0, 0, 0), some (.aload_n 1, 1, 0, 0, 0), some (.iload_n 2, 1, 0, 0, 0)]
def jm_M9_r1 : List (Option jm_I) := [some (.aload_n 0, 1, 0, 0, 0), some (.getfield 9, 3, 1, 0, 386), none, none, some (.iastore, 1, 0, 0, 0), some (.aload_n 1, 1, 0, 0, 0), some (.iload_n 2, 1, 0, 0, 0), some (.iconst 1, 1, 0, 0, 0), some (.iadd, 1, 0, 0, 0), some (.aload_n 0, 1, 0, 0, 0), some (.getfield 15, 3, 1, 1, 390), none, none, some (.iastore, 1, 0, 0, 0), some (.aload_n 1, 1, 0, 0, 0), some (.iload_n 2, 1, 0, 0, 0)]
def jm_M9_r2 : List (Option jm_I) := [some (.iconst 2, 1, 0, 0, 0), some (.iadd, 1, 0, 0, 0), some (.aload_n 0, 1, 0, 0, 0), some (.getfield 18, 3, 1, 2, 392), none, none, some (.iastore, 1, 0, 0, 0), some (.iload_n 2, 1, 0, 0, 0), some (.iconst 3, 1, 0, 0, 0), some (.iadd, 1, 0, 0, 0), some (.istore_n 3, 1, 0, 0, 0), some (.iconst 0, 1, 0, 0, 0), some (.istore 4, 2, 0, 0, 0), none, some (.iload 4, 2, 0, 0, 0)]
def jm_M9_r3 : List (Option jm_I) := [some (.bipush 7, 2, 0, 0, 0), none, some (.if_icmp .ge 95, 3, 0, 0, 0), none, none, some (.aload_n 1, 1, 0, 0, 0), some (.iload_n 3, 1, 0, 0, 0), some (.aload_n 0, 1, 0, 0, 0), some (.getfield 21, 3, 1, 3, 394), none, none, some (.iload 4, 2, 0, 0, 0), none, some (.iaload, 1, 0, 0, 0), some (.iastore, 1, 0, 0, 0), some (.aload_n 1, 1, 0, 0, 0)]
def jm_M9_r4 : List (Option jm_I) := [some (.iload_n 3, 1, 0, 0, 0), some (.iconst 1, 1, 0, 0, 0), some (.iadd, 1, 0, 0, 0), some (.aload_n 0, 1, 0, 0, 0), some (.getfield 25, 3, 1, 4, 399), none, none, some (.iload 4, 2, 0, 0, 0), none, some (.iaload, 1, 0, 0, 0), some (.iastore, 1, 0, 0, 0), some (.aload_n 1, 1, 0, 0, 0), some (.iload_n 3, 1, 0, 0, 0), some (.iconst 2, 1, 0, 0, 0), some (.iadd, 1, 0, 0, 0), some (.aload_n 0, 1, 0, 0, 0)]
def jm_M9_r5 : List (Option jm_I) := [some (.getfield 28, 3, 1, 5, 403), none, none, some (.iload 4, 2, 0, 0, 0), none, some (.iaload, 1, 0, 0, 0), some (.iastore, 1, 0, 0, 0), some (.aload_n 1, 1, 0, 0, 0), some (.iload_n 3, 1, 0, 0, 0), some (.iconst 3, 1, 0, 0, 0), some (.iadd, 1, 0, 0, 0), some (.aload_n 0, 1, 0, 0, 0), some (.getfield 31, 3, 1, 6, 405), none, none, some (.iload 4, 2, 0, 0, 0)]
def jm_M9_r6 : List (Option jm_I) := [none, some (.iaload, 1, 0, 0, 0), some (.iastore, 1, 0, 0, 0), some (.aload_n 1, 1, 0, 0, 0), some (.iload_n 3, 1, 0, 0, 0), some (.iconst 4, 1, 0, 0, 0), some (.iadd, 1, 0, 0, 0), some (.aload_n 0, 1, 0, 0, 0), some (.getfield 34, 3, 1, 7, 409), none, none, some (.iload 4, 2, 0, 0, 0), none, some (.iaload, 1, 0, 0, 0), some (.iastore, 1, 0, 0, 0), some (.aload_n 1, 1, 0, 0, 0)]
def jm_M9_r7 : List (Option jm_I) := [some (.iload_n 3, 1, 0, 0, 0), some (.iconst 5, 1, 0, 0, 0), some (.iadd, 1, 0, 0, 0), some (.aload_n 0, 1, 0, 0, 0), some (.getfield 37, 3, 1, 8, 413), none, none, some (.iload 4, 2, 0, 0, 0), none, some (.iaload, 1, 0, 0, 0), some (.iastore, 1, 0, 0, 0), some (.aload_n 1, 1, 0, 0, 0), some (.iload_n 3, 1, 0, 0, 0), some (.bipush 6, 2, 0, 0, 0), none, some (.iadd, 1, 0, 0, 0)]
def jm_M9_r8 : List (Option jm_I) := [some (.aload_n 0, 1, 0, 0, 0), some (.getfield 40, 3, 1, 9, 418), none, none, some (.iload 4, 2, 0, 0, 0), none, some (.iaload, 1, 0, 0, 0), some (.iastore, 1, 0, 0, 0), some (.iinc 3 7, 3, 0, 0, 0), none, none, some (.iinc 4 1, 3, 0, 0, 0), none, none, some (.goto (-96), 3, 0, 0, 0)]
def jm_M9_r9 : List (Option jm_I) := [none, some (.aload_n 0, 1, 0, 0, 0), some (.getfield 43, 3, 1, 10, 421), none, none, some (.iconst 0, 1, 0, 0, 0), some (.aload_n 1, 1, 0, 0, 0), some (.iload_n 3, 1, 0, 0, 0), some (.iconst 4, 1, 0, 0, 0), some (.invokestatic 52, 3, 0, 2, 493), none, none, some (.aload_n 0, 1, 0, 0, 0), some (.getfield 46, 3, 1, 11, 423)]
def jm_M9_r10 : List (Option jm_I) := [some (.iconst 0, 1, 0, 0, 0), some (.aload_n 1, 1, 0, 0, 0), some (.iload_n 3, 1, 0, 0, 0), some (.iconst 4, 1, 0, 0, 0), some (.iadd, 1, 0, 0, 0), some (.iconst 4, 1, 0, 0, 0), some (.invokestatic 52, 3, 0, 2, 493), none, none, some (.return_, 1, 0, 0, 0)]
/-- FallMarket$Ground.save([II)V -/
def jm_M9 : jm_M := (⟨"FallMarket$Ground", "save", "([II)V"⟩, prog_3_method_4_code, 5, none, [jm_M9_r0, jm_M9_r1, jm_M9_r2, jm_M9_r3, jm_M9_r4, jm_M9_r5, jm_M9_r6, jm_M9_r7, jm_M9_r8, jm_M9_r9, jm_M9_r10], 1, 2, 1, 1)
def jm_M10_r0 : List (Option jm_I) := [some (.iload_n 2, 1, 0, 0, 0), some (.ifCond .lt 12, 3, 0, 0, 0), none, none, some (.iload_n 2, 1, 0, 0, 0), some (.aload_n 1, 1, 0, 0, 0), some (.arraylength, 1, 0, 0, 0), some (.bipush 60, 2, 0, 0, 0), none, some (.isub, 1, 0, 0, 0), some (.if_icmp .le 4, 3, 0, 0, 0), none, none, some (.return_, 1, 0, 0, 0), some (.aload_n 0, 1, 0, 0, 0), some (.aload_n 1, 1, 0, 0, 0)]
def jm_M10_r1 : List (Option jm_I) := [some (.iload_n 2, 1, 0, 0, 0), some (.iaload, 1, 0, 0, 0), some (.putfield 9, 3, 1, 0, 386), none, none, some (.aload_n 0, 1, 0, 0, 0), some (.aload_n 1, 1, 0, 0, 0), some (.iload_n 2, 1, 0, 0, 0), some (.iconst 1, 1, 0, 0, 0), some (.iadd, 1, 0, 0, 0), some (.iaload, 1, 0, 0, 0), some (.putfield 15, 3, 1, 1, 390), none, none, some (.aload_n 0, 1, 0, 0, 0), some (.aload_n 1, 1, 0, 0, 0)]
def jm_M10_r2 : List (Option jm_I) := [some (.iload_n 2, 1, 0, 0, 0), some (.iconst 2, 1, 0, 0, 0), some (.iadd, 1, 0, 0, 0), some (.iaload, 1, 0, 0, 0), some (.putfield 18, 3, 1, 2, 392), none, none, some (.iload_n 2, 1, 0, 0, 0), some (.iconst 3, 1, 0, 0, 0), some (.iadd, 1, 0, 0, 0), some (.istore_n 3, 1, 0, 0, 0), some (.iconst 0, 1, 0, 0, 0), some (.istore 4, 2, 0, 0, 0), none, some (.iload 4, 2, 0, 0, 0)]
def jm_M10_r3 : List (Option jm_I) := [some (.bipush 7, 2, 0, 0, 0), none, some (.if_icmp .ge 95, 3, 0, 0, 0), none, none, some (.aload_n 0, 1, 0, 0, 0), some (.getfield 21, 3, 1, 3, 394), none, none, some (.iload 4, 2, 0, 0, 0), none, some (.aload_n 1, 1, 0, 0, 0), some (.iload_n 3, 1, 0, 0, 0), some (.iaload, 1, 0, 0, 0), some (.iastore, 1, 0, 0, 0), some (.aload_n 0, 1, 0, 0, 0)]
def jm_M10_r4 : List (Option jm_I) := [some (.getfield 25, 3, 1, 4, 399), none, none, some (.iload 4, 2, 0, 0, 0), none, some (.aload_n 1, 1, 0, 0, 0), some (.iload_n 3, 1, 0, 0, 0), some (.iconst 1, 1, 0, 0, 0), some (.iadd, 1, 0, 0, 0), some (.iaload, 1, 0, 0, 0), some (.iastore, 1, 0, 0, 0), some (.aload_n 0, 1, 0, 0, 0), some (.getfield 28, 3, 1, 5, 403), none, none, some (.iload 4, 2, 0, 0, 0)]
def jm_M10_r5 : List (Option jm_I) := [none, some (.aload_n 1, 1, 0, 0, 0), some (.iload_n 3, 1, 0, 0, 0), some (.iconst 2, 1, 0, 0, 0), some (.iadd, 1, 0, 0, 0), some (.iaload, 1, 0, 0, 0), some (.iastore, 1, 0, 0, 0), some (.aload_n 0, 1, 0, 0, 0), some (.getfield 31, 3, 1, 6, 405), none, none, some (.iload 4, 2, 0, 0, 0), none, some (.aload_n 1, 1, 0, 0, 0), some (.iload_n 3, 1, 0, 0, 0), some (.iconst 3, 1, 0, 0, 0)]
def jm_M10_r6 : List (Option jm_I) := [some (.iadd, 1, 0, 0, 0), some (.iaload, 1, 0, 0, 0), some (.iastore, 1, 0, 0, 0), some (.aload_n 0, 1, 0, 0, 0), some (.getfield 34, 3, 1, 7, 409), none, none, some (.iload 4, 2, 0, 0, 0), none, some (.aload_n 1, 1, 0, 0, 0), some (.iload_n 3, 1, 0, 0, 0), some (.iconst 4, 1, 0, 0, 0), some (.iadd, 1, 0, 0, 0), some (.iaload, 1, 0, 0, 0), some (.iastore, 1, 0, 0, 0), some (.aload_n 0, 1, 0, 0, 0)]
def jm_M10_r7 : List (Option jm_I) := [some (.getfield 37, 3, 1, 8, 413), none, none, some (.iload 4, 2, 0, 0, 0), none, some (.aload_n 1, 1, 0, 0, 0), some (.iload_n 3, 1, 0, 0, 0), some (.iconst 5, 1, 0, 0, 0), some (.iadd, 1, 0, 0, 0), some (.iaload, 1, 0, 0, 0), some (.iastore, 1, 0, 0, 0), some (.aload_n 0, 1, 0, 0, 0), some (.getfield 40, 3, 1, 9, 418), none, none, some (.iload 4, 2, 0, 0, 0)]
def jm_M10_r8 : List (Option jm_I) := [none, some (.aload_n 1, 1, 0, 0, 0), some (.iload_n 3, 1, 0, 0, 0), some (.bipush 6, 2, 0, 0, 0), none, some (.iadd, 1, 0, 0, 0), some (.iaload, 1, 0, 0, 0), some (.iastore, 1, 0, 0, 0), some (.iinc 3 7, 3, 0, 0, 0), none, none, some (.iinc 4 1, 3, 0, 0, 0), none, none, some (.goto (-96), 3, 0, 0, 0)]
def jm_M10_r9 : List (Option jm_I) := [none, some (.aload_n 1, 1, 0, 0, 0), some (.iload_n 3, 1, 0, 0, 0), some (.aload_n 0, 1, 0, 0, 0), some (.getfield 43, 3, 1, 10, 421), none, none, some (.iconst 0, 1, 0, 0, 0), some (.iconst 4, 1, 0, 0, 0), some (.invokestatic 52, 3, 0, 2, 493), none, none, some (.aload_n 1, 1, 0, 0, 0), some (.iload_n 3, 1, 0, 0, 0), some (.iconst 4, 1, 0, 0, 0), some (.iadd, 1, 0, 0, 0)]
def jm_M10_r10 : List (Option jm_I) := [some (.aload_n 0, 1, 0, 0, 0), some (.getfield 46, 3, 1, 11, 423), none, none, some (.iconst 0, 1, 0, 0, 0), some (.iconst 4, 1, 0, 0, 0), some (.invokestatic 52, 3, 0, 2, 493), none, none, some (.return_, 1, 0, 0, 0)]
/-- FallMarket$Ground.load([II)V -/
def jm_M10 : jm_M := (⟨"FallMarket$Ground", "load", "([II)V"⟩, prog_3_method_5_code, 5, none, [jm_M10_r0, jm_M10_r1, jm_M10_r2, jm_M10_r3, jm_M10_r4, jm_M10_r5, jm_M10_r6, jm_M10_r7, jm_M10_r8, jm_M10_r9, jm_M10_r10], 1, 2, 1, 1)
/-- FallMarket$Ground.bits(II)I -/
def jm_M11 : jm_M := (⟨"FallMarket$Ground", "bits", "(II)I"⟩, prog_3_method_6_code, 5, some .int, [[some (.iconst 0, 1, 0, 0, 0), some (.istore_n 3, 1, 0, 0, 0), some (.iconst 0, 1, 0, 0, 0), some (.istore 4, 2, 0, 0, 0), none, some (.iload 4, 2, 0, 0, 0), none, some (.iload_n 2, 1, 0, 0, 0), some (.if_icmp .ge 34, 3, 0, 0, 0), none, none, some (.iload 4, 2, 0, 0, 0), none, some (.bipush 7, 2, 0, 0, 0), none, some (.if_icmp .ge 27, 3, 0, 0, 0)],
  [none, none, some (.aload_n 0, 1, 0, 0, 0), some (.getfield 25, 3, 1, 4, 399), none, none, some (.iload 4, 2, 0, 0, 0), none, some (.iaload, 1, 0, 0, 0), some (.iload_n 1, 1, 0, 0, 0), some (.if_icmp .ne 10, 3, 0, 0, 0), none, none, some (.iload_n 3, 1, 0, 0, 0), some (.iconst 1, 1, 0, 0, 0), some (.iload 4, 2, 0, 0, 0)],
  [none, some (.ishl, 1, 0, 0, 0), some (.ior, 1, 0, 0, 0), some (.istore_n 3, 1, 0, 0, 0), some (.iinc 4 1, 3, 0, 0, 0), none, none, some (.goto (-34), 3, 0, 0, 0), none, none, some (.iload_n 3, 1, 0, 0, 0), some (.ireturn, 1, 0, 0, 0)]], 1, 2, 1, 1)
/-- FallMarket$Ground.howMany(II)I -/
def jm_M12 : jm_M := (⟨"FallMarket$Ground", "howMany", "(II)I"⟩, prog_3_method_7_code, 3, some .int, [[some (.aload_n 0, 1, 0, 0, 0), some (.iload_n 1, 1, 0, 0, 0), some (.iload_n 2, 1, 0, 0, 0), some (.invokevirtual 69, 3, 11, 0, 764), none, none, some (.invokestatic 73, 3, 239, 0, 768), none, none, some (.ireturn, 1, 0, 0, 0)]], 1, 2, 1, 1)
/-- FallMarket$Ground.nearest(LFallMarket$Text;II)I -/
def jm_M13 : jm_M := (⟨"FallMarket$Ground", "nearest", "(LFallMarket$Text;II)I"⟩, prog_3_method_8_code, 8, some .int, [[some (.bipush (-2), 2, 0, 0, 0), none, some (.istore 4, 2, 0, 0, 0), none, some (.iconst 4, 1, 0, 0, 0), some (.istore 5, 2, 0, 0, 0), none, some (.iconst 0, 1, 0, 0, 0), some (.istore 6, 2, 0, 0, 0), none, some (.iload 6, 2, 0, 0, 0), none, some (.aload_n 1, 1, 0, 0, 0), some (.getfield 79, 3, 5, 5, 166)],
  [some (.if_icmp .ge 61, 3, 0, 0, 0), none, none, some (.aload_n 0, 1, 0, 0, 0), some (.getfield 43, 3, 1, 10, 421), none, none, some (.iload 6, 2, 0, 0, 0), none, some (.iaload, 1, 0, 0, 0), some (.iload_n 2, 1, 0, 0, 0), some (.isub, 1, 0, 0, 0), some (.invokestatic 82, 3, 240, 0, 842), none, none, some (.istore 7, 2, 0, 0, 0)],
  [none, some (.iload 7, 2, 0, 0, 0), none, some (.aload_n 1, 1, 0, 0, 0), some (.getfield 87, 3, 5, 7, 172), none, none, some (.iload 6, 2, 0, 0, 0), none, some (.iaload, 1, 0, 0, 0), some (.if_icmp .gt 29, 3, 0, 0, 0), none, none, some (.iload 7, 2, 0, 0, 0), none, some (.iload 5, 2, 0, 0, 0)],
  [none, some (.if_icmp .ge 22, 3, 0, 0, 0), none, none, some (.aload_n 0, 1, 0, 0, 0), some (.getfield 46, 3, 1, 11, 423), none, none, some (.iload 6, 2, 0, 0, 0), none, some (.iaload, 1, 0, 0, 0), some (.iload_n 3, 1, 0, 0, 0), some (.if_icmp .lt 11, 3, 0, 0, 0), none, none, some (.iload 7, 2, 0, 0, 0)],
  [none, some (.istore 5, 2, 0, 0, 0), none, some (.iload 6, 2, 0, 0, 0), none, some (.istore 4, 2, 0, 0, 0), none, some (.iinc 6 1, 3, 0, 0, 0), none, none, some (.goto (-64), 3, 0, 0, 0), none, none, some (.iload 4, 2, 0, 0, 0), none, some (.ireturn, 1, 0, 0, 0)]], 1, 3, 1, 1)
/-- FallMarket$Ground.firstAt(LFallMarket$Text;II)I -/
def jm_M14 : jm_M := (⟨"FallMarket$Ground", "firstAt", "(LFallMarket$Text;II)I"⟩, prog_3_method_9_code, 5, some .int, [[some (.iconst 0, 1, 0, 0, 0), some (.istore 4, 2, 0, 0, 0), none, some (.iload 4, 2, 0, 0, 0), none, some (.aload_n 1, 1, 0, 0, 0), some (.getfield 79, 3, 5, 5, 166), none, none, some (.if_icmp .ge 34, 3, 0, 0, 0), none, none, some (.aload_n 0, 1, 0, 0, 0), some (.getfield 43, 3, 1, 10, 421)],
  [some (.iload 4, 2, 0, 0, 0), none, some (.iaload, 1, 0, 0, 0), some (.iload_n 2, 1, 0, 0, 0), some (.if_icmp .ne 17, 3, 0, 0, 0), none, none, some (.aload_n 0, 1, 0, 0, 0), some (.getfield 46, 3, 1, 11, 423), none, none, some (.iload 4, 2, 0, 0, 0), none, some (.iaload, 1, 0, 0, 0), some (.iload_n 3, 1, 0, 0, 0), some (.if_icmp .lt 6, 3, 0, 0, 0)],
  [none, none, some (.iload 4, 2, 0, 0, 0), none, some (.ireturn, 1, 0, 0, 0), some (.iinc 4 1, 3, 0, 0, 0), none, none, some (.goto (-37), 3, 0, 0, 0), none, none, some (.bipush (-2), 2, 0, 0, 0), none, some (.ireturn, 1, 0, 0, 0)]], 1, 3, 1, 1)
/-- FallMarket$Ground.sell(III)V -/
def jm_M15 : jm_M := (⟨"FallMarket$Ground", "sell", "(III)V"⟩, prog_3_method_10_code, 4, none, [[some (.aload_n 0, 1, 0, 0, 0), some (.getfield 25, 3, 1, 4, 399), none, none, some (.iload_n 1, 1, 0, 0, 0), some (.iconst 2, 1, 0, 0, 0), some (.iastore, 1, 0, 0, 0), some (.aload_n 0, 1, 0, 0, 0), some (.getfield 28, 3, 1, 5, 403), none, none, some (.iload_n 1, 1, 0, 0, 0), some (.iload_n 2, 1, 0, 0, 0), some (.iastore, 1, 0, 0, 0), some (.aload_n 0, 1, 0, 0, 0), some (.getfield 46, 3, 1, 11, 423)],
  [none, none, some (.iload_n 2, 1, 0, 0, 0), some (.dup2, 1, 0, 0, 0), some (.iaload, 1, 0, 0, 0), some (.iload_n 3, 1, 0, 0, 0), some (.isub, 1, 0, 0, 0), some (.iastore, 1, 0, 0, 0), some (.return_, 1, 0, 0, 0)]], 1, 3, 1, 1)
/-- FallMarket$Laws.<init>()V -/
def jm_M16 : jm_M := (⟨"FallMarket$Laws", "<init>", "()V"⟩, prog_4_method_1_code, 1, none, [[some (.aload_n 0, 1, 0, 0, 0), some (.invokespecial 3, 3, 0, 2, 339), none, none, some (.aload_n 0, 1, 0, 0, 0), some (.bipush 9, 2, 0, 0, 0), none, some (.newarray .int, 2, 0, 0, 0), none, some (.putfield 9, 3, 2, 13000, 340), none, none, some (.aload_n 0, 1, 0, 0, 0), some (.bipush 32, 2, 0, 0, 0), none, some (.newarray .int, 2, 0, 0, 0)],
  [none, some (.putfield 15, 3, 2, 13001, 343), none, none, some (.return_, 1, 0, 0, 0)]], 1, 0, 2, 2)
/-- FallMarket$Laws.setHour(LFallMarket$Text;II)V -/
def jm_M17 : jm_M := (⟨"FallMarket$Laws", "setHour", "(LFallMarket$Text;II)V"⟩, prog_4_method_2_code, 4, none, [[some (.aload_n 0, 1, 0, 0, 0), some (.getfield 9, 3, 2, 0, 340), none, none, some (.iconst 2, 1, 0, 0, 0), some (.iload_n 2, 1, 0, 0, 0), some (.iastore, 1, 0, 0, 0), some (.aload_n 0, 1, 0, 0, 0), some (.getfield 9, 3, 2, 0, 340), none, none, some (.bipush 8, 2, 0, 0, 0), none, some (.iload_n 3, 1, 0, 0, 0), some (.iastore, 1, 0, 0, 0), some (.aload_n 0, 1, 0, 0, 0)],
  [some (.getfield 9, 3, 2, 0, 340), none, none, some (.iconst 3, 1, 0, 0, 0), some (.aload_n 0, 1, 0, 0, 0), some (.aload_n 1, 1, 0, 0, 0), some (.iconst 0, 1, 0, 0, 0), some (.invokevirtual 18, 3, 21, 0, 507), none, none, some (.iastore, 1, 0, 0, 0), some (.return_, 1, 0, 0, 0)]], 1, 3, 1, 2)
/-- FallMarket$Laws.setFruit(LFallMarket$Text;LFallMarket$Ground;I)V -/
def jm_M18 : jm_M := (⟨"FallMarket$Laws", "setFruit", "(LFallMarket$Text;LFallMarket$Ground;I)V"⟩, prog_4_method_3_code, 4, none, [[some (.aload_n 0, 1, 0, 0, 0), some (.getfield 9, 3, 2, 0, 340), none, none, some (.iconst 0, 1, 0, 0, 0), some (.aload_n 2, 1, 0, 0, 0), some (.getfield 22, 3, 1, 3, 396), none, none, some (.iload_n 3, 1, 0, 0, 0), some (.iaload, 1, 0, 0, 0), some (.iastore, 1, 0, 0, 0), some (.aload_n 0, 1, 0, 0, 0), some (.getfield 9, 3, 2, 0, 340)],
  [some (.iconst 1, 1, 0, 0, 0), some (.aload_n 1, 1, 0, 0, 0), some (.getfield 27, 3, 5, 2, 155), none, none, some (.iload_n 3, 1, 0, 0, 0), some (.iaload, 1, 0, 0, 0), some (.iastore, 1, 0, 0, 0), some (.aload_n 0, 1, 0, 0, 0), some (.getfield 9, 3, 2, 0, 340), none, none, some (.iconst 4, 1, 0, 0, 0), some (.aload_n 1, 1, 0, 0, 0), some (.getfield 32, 3, 5, 1, 151)],
  [none, some (.iload_n 3, 1, 0, 0, 0), some (.iaload, 1, 0, 0, 0), some (.iastore, 1, 0, 0, 0), some (.aload_n 0, 1, 0, 0, 0), some (.getfield 9, 3, 2, 0, 340), none, none, some (.iconst 5, 1, 0, 0, 0), some (.aload_n 2, 1, 0, 0, 0), some (.getfield 35, 3, 1, 8, 415), none, none, some (.iload_n 3, 1, 0, 0, 0), some (.iaload, 1, 0, 0, 0), some (.iastore, 1, 0, 0, 0)],
  [some (.aload_n 0, 1, 0, 0, 0), some (.getfield 9, 3, 2, 0, 340), none, none, some (.bipush 6, 2, 0, 0, 0), none, some (.aload_n 2, 1, 0, 0, 0), some (.getfield 38, 3, 1, 7, 411), none, none, some (.iload_n 3, 1, 0, 0, 0), some (.iaload, 1, 0, 0, 0), some (.iastore, 1, 0, 0, 0), some (.aload_n 0, 1, 0, 0, 0), some (.getfield 9, 3, 2, 0, 340)],
  [none, some (.bipush 7, 2, 0, 0, 0), none, some (.aload_n 2, 1, 0, 0, 0), some (.getfield 41, 3, 1, 6, 406), none, none, some (.iload_n 3, 1, 0, 0, 0), some (.iaload, 1, 0, 0, 0), some (.iastore, 1, 0, 0, 0), some (.return_, 1, 0, 0, 0)]], 1, 3, 1, 2)
/-- FallMarket$Laws.settleRests(LFallMarket$Text;)V -/
def jm_M19 : jm_M := (⟨"FallMarket$Laws", "settleRests", "(LFallMarket$Text;)V"⟩, prog_4_method_4_code, 3, none, [[some (.aload_n 0, 1, 0, 0, 0), some (.aload_n 1, 1, 0, 0, 0), some (.iconst 0, 1, 0, 0, 0), some (.aload_n 1, 1, 0, 0, 0), some (.getfield 44, 3, 5, 0, 144), none, none, some (.invokevirtual 48, 3, 17, 0, 503), none, none, some (.iconst 0, 1, 0, 0, 0), some (.istore_n 2, 1, 0, 0, 0), some (.iload_n 2, 1, 0, 0, 0), some (.aload_n 1, 1, 0, 0, 0), some (.getfield 44, 3, 5, 0, 144)],
  [none, some (.if_icmp .ge 57, 3, 0, 0, 0), none, none, some (.aload_n 0, 1, 0, 0, 0), some (.getfield 9, 3, 2, 0, 340), none, none, some (.iconst 0, 1, 0, 0, 0), some (.aload_n 1, 1, 0, 0, 0), some (.getfield 52, 3, 5, 3, 160), none, none, some (.iload_n 2, 1, 0, 0, 0), some (.iaload, 1, 0, 0, 0), some (.iastore, 1, 0, 0, 0)],
  [some (.aload_n 0, 1, 0, 0, 0), some (.getfield 9, 3, 2, 0, 340), none, none, some (.iconst 1, 1, 0, 0, 0), some (.aload_n 1, 1, 0, 0, 0), some (.getfield 27, 3, 5, 2, 155), none, none, some (.iload_n 2, 1, 0, 0, 0), some (.iaload, 1, 0, 0, 0), some (.iastore, 1, 0, 0, 0), some (.aload_n 0, 1, 0, 0, 0), some (.getfield 9, 3, 2, 0, 340)],
  [some (.iconst 4, 1, 0, 0, 0), some (.aload_n 1, 1, 0, 0, 0), some (.getfield 32, 3, 5, 1, 151), none, none, some (.iload_n 2, 1, 0, 0, 0), some (.iaload, 1, 0, 0, 0), some (.iastore, 1, 0, 0, 0), some (.aload_n 1, 1, 0, 0, 0), some (.getfield 53, 3, 5, 4, 162), none, none, some (.iload_n 2, 1, 0, 0, 0), some (.aload_n 0, 1, 0, 0, 0), some (.aload_n 1, 1, 0, 0, 0), some (.iload_n 2, 1, 0, 0, 0)],
  [some (.invokevirtual 56, 3, 20, 0, 531), none, none, some (.iastore, 1, 0, 0, 0), some (.iinc 2 1, 3, 0, 0, 0), none, none, some (.goto (-59), 3, 0, 0, 0), none, none, some (.return_, 1, 0, 0, 0)]], 1, 1, 1, 2)
/-- FallMarket$Laws.bounced(LFallMarket$Text;I)I -/
def jm_M20 : jm_M := (⟨"FallMarket$Laws", "bounced", "(LFallMarket$Text;I)I"⟩, prog_4_method_5_code, 3, some .int, [[some (.aload_n 1, 1, 0, 0, 0), some (.getfield 32, 3, 5, 1, 151), none, none, some (.iload_n 2, 1, 0, 0, 0), some (.iaload, 1, 0, 0, 0), some (.aload_n 0, 1, 0, 0, 0), some (.aload_n 1, 1, 0, 0, 0), some (.iconst 4, 1, 0, 0, 0), some (.invokevirtual 18, 3, 21, 0, 507), none, none, some (.iadd, 1, 0, 0, 0), some (.iconst 0, 1, 0, 0, 0), some (.bipush 9, 2, 0, 0, 0)],
  [some (.invokestatic 59, 3, 129, 1, 522), none, none, some (.ireturn, 1, 0, 0, 0)]], 1, 2, 1, 2)
/-- FallMarket$Laws.told(LFallMarket$Text;I)I -/
def jm_M21 : jm_M := (⟨"FallMarket$Laws", "told", "(LFallMarket$Text;I)I"⟩, prog_4_method_6_code, 3, some .int, [[some (.aload_n 0, 1, 0, 0, 0), some (.aload_n 1, 1, 0, 0, 0), some (.aload_n 1, 1, 0, 0, 0), some (.getfield 63, 3, 5, 12, 185), none, none, some (.iload_n 2, 1, 0, 0, 0), some (.iaload, 1, 0, 0, 0), some (.invokevirtual 66, 3, 22, 0, 511), none, none, some (.getstatic 69, 3, 0, 0, 518), none, none, some (.iload_n 2, 1, 0, 0, 0), some (.iaload, 1, 0, 0, 0)],
  [some (.getstatic 72, 3, 1, 0, 520), none, none, some (.iload_n 2, 1, 0, 0, 0), some (.iaload, 1, 0, 0, 0), some (.invokestatic 59, 3, 129, 1, 522), none, none, some (.ireturn, 1, 0, 0, 0)]], 1, 2, 1, 2)
def jm_M22_r0 : List (Option jm_I) := [some (.iload_n 2, 1, 0, 0, 0), some (.istore_n 3, 1, 0, 0, 0), some (.iconst 0, 1, 0, 0, 0), some (.istore 4, 2, 0, 0, 0), none, some (.iconst 0, 1, 0, 0, 0), some (.istore 5, 2, 0, 0, 0), none, some (.iload 5, 2, 0, 0, 0), none, some (.sipush 512, 3, 0, 0, 0), none, none, some (.if_icmp .ge 217, 3, 0, 0, 0)]
def jm_M22_r1 : List (Option jm_I) := [some (.iload_n 3, 1, 0, 0, 0), some (.ifCond .lt 12, 3, 0, 0, 0), none, none, some (.iload_n 3, 1, 0, 0, 0), some (.iconst 1, 1, 0, 0, 0), some (.iadd, 1, 0, 0, 0), some (.sipush 512, 3, 0, 0, 0), none, none, some (.if_icmp .lt 5, 3, 0, 0, 0), none, none, some (.iconst 0, 1, 0, 0, 0), some (.ireturn, 1, 0, 0, 0), some (.aload_n 1, 1, 0, 0, 0)]
def jm_M22_r2 : List (Option jm_I) := [some (.getfield 75, 3, 5, 13, 188), none, none, some (.iload_n 3, 1, 0, 0, 0), some (.iaload, 1, 0, 0, 0), some (.istore 6, 2, 0, 0, 0), none, some (.iinc 3 1, 3, 0, 0, 0), none, none, some (.iload 6, 2, 0, 0, 0), none, some (.bipush (-9), 2, 0, 0, 0), none, some (.if_icmp .lt 44, 3, 0, 0, 0)]
def jm_M22_r3 : List (Option jm_I) := [none, some (.iload 4, 2, 0, 0, 0), none, some (.bipush 32, 2, 0, 0, 0), none, some (.if_icmp .lt 5, 3, 0, 0, 0), none, none, some (.iconst 0, 1, 0, 0, 0), some (.ireturn, 1, 0, 0, 0), some (.aload_n 0, 1, 0, 0, 0), some (.getfield 15, 3, 2, 1, 343), none, none, some (.iload 4, 2, 0, 0, 0)]
def jm_M22_r4 : List (Option jm_I) := [some (.iload 6, 2, 0, 0, 0), none, some (.ifCond .lt 8, 3, 0, 0, 0), none, none, some (.iload 6, 2, 0, 0, 0), none, some (.goto 12, 3, 0, 0, 0), none, none, some (.aload_n 0, 1, 0, 0, 0), some (.getfield 9, 3, 2, 0, 340), none, none, some (.iconst (-1), 1, 0, 0, 0), some (.iload 6, 2, 0, 0, 0)]
def jm_M22_r5 : List (Option jm_I) := [none, some (.isub, 1, 0, 0, 0), some (.iaload, 1, 0, 0, 0), some (.iastore, 1, 0, 0, 0), some (.iinc 4 1, 3, 0, 0, 0), none, none, some (.goto 137, 3, 0, 0, 0), none, none, some (.iload 6, 2, 0, 0, 0), none, some (.bipush (-14), 2, 0, 0, 0), none, some (.if_icmp .ne 23, 3, 0, 0, 0)]
def jm_M22_r6 : List (Option jm_I) := [none, some (.iload 4, 2, 0, 0, 0), none, some (.iconst 1, 1, 0, 0, 0), some (.if_icmp .lt 15, 3, 0, 0, 0), none, none, some (.aload_n 0, 1, 0, 0, 0), some (.getfield 15, 3, 2, 1, 343), none, none, some (.iload 4, 2, 0, 0, 0), none, some (.iconst 1, 1, 0, 0, 0), some (.isub, 1, 0, 0, 0), some (.iaload, 1, 0, 0, 0)]
def jm_M22_r7 : List (Option jm_I) := [some (.goto 4, 3, 0, 0, 0), none, none, some (.iconst 0, 1, 0, 0, 0), some (.ireturn, 1, 0, 0, 0), some (.iload 4, 2, 0, 0, 0), none, some (.iconst 2, 1, 0, 0, 0), some (.if_icmp .ge 5, 3, 0, 0, 0), none, none, some (.iconst 0, 1, 0, 0, 0), some (.ireturn, 1, 0, 0, 0), some (.iload 6, 2, 0, 0, 0), none, some (.bipush (-15), 2, 0, 0, 0)]
def jm_M22_r8 : List (Option jm_I) := [none, some (.if_icmp .ne 41, 3, 0, 0, 0), none, none, some (.iinc 4 (-2), 3, 0, 0, 0), none, none, some (.aload_n 0, 1, 0, 0, 0), some (.getfield 15, 3, 2, 1, 343), none, none, some (.iload 4, 2, 0, 0, 0), none, some (.iaload, 1, 0, 0, 0), some (.aload_n 0, 1, 0, 0, 0), some (.getfield 15, 3, 2, 1, 343)]
def jm_M22_r9 : List (Option jm_I) := [none, none, some (.iload 4, 2, 0, 0, 0), none, some (.iconst 1, 1, 0, 0, 0), some (.iadd, 1, 0, 0, 0), some (.iaload, 1, 0, 0, 0), some (.if_icmp .ge 9, 3, 0, 0, 0), none, none, some (.iload_n 3, 1, 0, 0, 0), some (.iconst 1, 1, 0, 0, 0), some (.iadd, 1, 0, 0, 0), some (.goto 9, 3, 0, 0, 0)]
def jm_M22_r10 : List (Option jm_I) := [some (.aload_n 1, 1, 0, 0, 0), some (.getfield 75, 3, 5, 13, 188), none, none, some (.iload_n 3, 1, 0, 0, 0), some (.iaload, 1, 0, 0, 0), some (.istore_n 3, 1, 0, 0, 0), some (.goto 57, 3, 0, 0, 0), none, none, some (.iload 6, 2, 0, 0, 0), none, some (.bipush (-13), 2, 0, 0, 0), none, some (.if_icmp .ne 17, 3, 0, 0, 0)]
def jm_M22_r11 : List (Option jm_I) := [none, some (.aload_n 0, 1, 0, 0, 0), some (.getfield 15, 3, 2, 1, 343), none, none, some (.iload 4, 2, 0, 0, 0), none, some (.iconst 1, 1, 0, 0, 0), some (.isub, 1, 0, 0, 0), some (.iaload, 1, 0, 0, 0), some (.ifCond .ne 5, 3, 0, 0, 0), none, none, some (.iconst 0, 1, 0, 0, 0), some (.ireturn, 1, 0, 0, 0), some (.iinc 4 (-1), 3, 0, 0, 0)]
def jm_M22_r12 : List (Option jm_I) := [none, none, some (.aload_n 0, 1, 0, 0, 0), some (.getfield 15, 3, 2, 1, 343), none, none, some (.iload 4, 2, 0, 0, 0), none, some (.iconst 1, 1, 0, 0, 0), some (.isub, 1, 0, 0, 0), some (.iload 6, 2, 0, 0, 0), none, some (.aload_n 0, 1, 0, 0, 0), some (.getfield 15, 3, 2, 1, 343)]
def jm_M22_r13 : List (Option jm_I) := [some (.iload 4, 2, 0, 0, 0), none, some (.iconst 1, 1, 0, 0, 0), some (.isub, 1, 0, 0, 0), some (.iaload, 1, 0, 0, 0), some (.aload_n 0, 1, 0, 0, 0), some (.getfield 15, 3, 2, 1, 343), none, none, some (.iload 4, 2, 0, 0, 0), none, some (.iaload, 1, 0, 0, 0), some (.invokestatic 78, 3, 23, 0, 515), none, none, some (.iastore, 1, 0, 0, 0)]
def jm_M22_r14 : List (Option jm_I) := [some (.iinc 5 1, 3, 0, 0, 0), none, none, some (.goto (-219), 3, 0, 0, 0), none, none, some (.iconst 0, 1, 0, 0, 0), some (.ireturn, 1, 0, 0, 0)]
/-- FallMarket$Laws.worked(LFallMarket$Text;I)I -/
def jm_M22 : jm_M := (⟨"FallMarket$Laws", "worked", "(LFallMarket$Text;I)I"⟩, prog_4_method_7_code, 7, some .int, [jm_M22_r0, jm_M22_r1, jm_M22_r2, jm_M22_r3, jm_M22_r4, jm_M22_r5, jm_M22_r6, jm_M22_r7, jm_M22_r8, jm_M22_r9, jm_M22_r10, jm_M22_r11, jm_M22_r12, jm_M22_r13, jm_M22_r14], 1, 2, 1, 2)
/-- FallMarket$Laws.joined(III)I -/
def jm_M23 : jm_M := (⟨"FallMarket$Laws", "joined", "(III)I"⟩, prog_4_method_8_code, 3, some .int, [[some (.iload_n 0, 1, 0, 0, 0), some (.tableswitch 39 (-12) (-10) #[35, 31, 27], 27, 0, 0, 0)],
  [none, none, none, none, none, none, none, none, none, none, none, none, some (.iload_n 1, 1, 0, 0, 0), some (.iload_n 2, 1, 0, 0, 0), some (.iadd, 1, 0, 0, 0), some (.ireturn, 1, 0, 0, 0)],
  [some (.iload_n 1, 1, 0, 0, 0), some (.iload_n 2, 1, 0, 0, 0), some (.isub, 1, 0, 0, 0), some (.ireturn, 1, 0, 0, 0), some (.iload_n 1, 1, 0, 0, 0), some (.iload_n 2, 1, 0, 0, 0), some (.imul, 1, 0, 0, 0), some (.ireturn, 1, 0, 0, 0), some (.iload_n 2, 1, 0, 0, 0), some (.ifCond .ne 7, 3, 0, 0, 0), none, none, some (.iconst 0, 1, 0, 0, 0), some (.goto 6, 3, 0, 0, 0)],
  [some (.iload_n 1, 1, 0, 0, 0), some (.iload_n 2, 1, 0, 0, 0), some (.idiv, 1, 0, 0, 0), some (.ireturn, 1, 0, 0, 0)]], 1, 3, 0, 2)
/-- FallMarket$Outlook.<init>(LFallMarket$Laws;)V -/
def jm_M24 : jm_M := (⟨"FallMarket$Outlook", "<init>", "(LFallMarket$Laws;)V"⟩, prog_5_method_1_code, 2, none, [[some (.aload_n 0, 1, 0, 0, 0), some (.invokespecial 3, 3, 0, 2, 364), none, none, some (.aload_n 0, 1, 0, 0, 0), some (.iconst 4, 1, 0, 0, 0), some (.newarray .int, 2, 0, 0, 0), none, some (.putfield 9, 3, 3, 13000, 365), none, none, some (.aload_n 0, 1, 0, 0, 0), some (.iconst 4, 1, 0, 0, 0), some (.newarray .int, 2, 0, 0, 0), none, some (.putfield 15, 3, 3, 13001, 367)],
  [none, none, some (.aload_n 0, 1, 0, 0, 0), some (.bipush 7, 2, 0, 0, 0), none, some (.newarray .long, 2, 0, 0, 0), none, some (.putfield 18, 3, 3, 13002, 368), none, none, some (.aload_n 0, 1, 0, 0, 0), some (.aload_n 1, 1, 0, 0, 0), some (.putfield 22, 3, 3, 13003, 370), none, none, some (.return_, 1, 0, 0, 0)]], 1, 1, 2, 3)
def jm_M25_r0 : List (Option jm_I) := [some (.aload_n 2, 1, 0, 0, 0), some (.iconst 0, 1, 0, 0, 0), some (.aload_n 1, 1, 0, 0, 0), some (.getfield 26, 3, 5, 0, 143), none, none, some (.invokevirtual 32, 3, 12, 0, 868), none, none, some (.istore 6, 2, 0, 0, 0), none, some (.aload_n 2, 1, 0, 0, 0), some (.getfield 38, 3, 1, 3, 395), none, none, some (.iload_n 3, 1, 0, 0, 0)]
def jm_M25_r1 : List (Option jm_I) := [some (.iaload, 1, 0, 0, 0), some (.istore 7, 2, 0, 0, 0), none, some (.iconst 0, 1, 0, 0, 0), some (.istore 8, 2, 0, 0, 0), none, some (.iload 8, 2, 0, 0, 0), none, some (.iload 4, 2, 0, 0, 0), none, some (.if_icmp .ge 141, 3, 0, 0, 0), none, none, some (.iload 8, 2, 0, 0, 0), none, some (.iconst 4, 1, 0, 0, 0)]
def jm_M25_r2 : List (Option jm_I) := [some (.if_icmp .ge 135, 3, 0, 0, 0), none, none, some (.aload_n 0, 1, 0, 0, 0), some (.getfield 22, 3, 3, 3, 370), none, none, some (.aload_n 1, 1, 0, 0, 0), some (.aload_n 2, 1, 0, 0, 0), some (.getfield 41, 3, 1, 0, 387), none, none, some (.iload 8, 2, 0, 0, 0), none, some (.iadd, 1, 0, 0, 0), some (.iload 6, 2, 0, 0, 0)]
def jm_M25_r3 : List (Option jm_I) := [none, some (.invokevirtual 44, 3, 17, 0, 869), none, none, some (.aload_n 0, 1, 0, 0, 0), some (.getfield 22, 3, 3, 3, 370), none, none, some (.aload_n 1, 1, 0, 0, 0), some (.aload_n 2, 1, 0, 0, 0), some (.iload_n 3, 1, 0, 0, 0), some (.invokevirtual 50, 3, 18, 0, 870), none, none, some (.aload_n 0, 1, 0, 0, 0), some (.getfield 22, 3, 3, 3, 370)]
def jm_M25_r4 : List (Option jm_I) := [none, none, some (.getfield 54, 3, 2, 0, 341), none, none, some (.iconst 0, 1, 0, 0, 0), some (.iload 7, 2, 0, 0, 0), none, some (.iastore, 1, 0, 0, 0), some (.aload_n 0, 1, 0, 0, 0), some (.getfield 22, 3, 3, 3, 370), none, none, some (.getfield 54, 3, 2, 0, 341)]
def jm_M25_r5 : List (Option jm_I) := [some (.iconst 5, 1, 0, 0, 0), some (.iload 8, 2, 0, 0, 0), none, some (.ifCond .ne 12, 3, 0, 0, 0), none, none, some (.aload_n 2, 1, 0, 0, 0), some (.getfield 57, 3, 1, 8, 414), none, none, some (.iload_n 3, 1, 0, 0, 0), some (.iaload, 1, 0, 0, 0), some (.goto 4, 3, 0, 0, 0), none, none, some (.iconst 0, 1, 0, 0, 0)]
def jm_M25_r6 : List (Option jm_I) := [some (.iastore, 1, 0, 0, 0), some (.aload_n 0, 1, 0, 0, 0), some (.getfield 22, 3, 3, 3, 370), none, none, some (.getfield 54, 3, 2, 0, 341), none, none, some (.bipush 6, 2, 0, 0, 0), none, some (.iload 5, 2, 0, 0, 0), none, some (.iastore, 1, 0, 0, 0), some (.aload_n 0, 1, 0, 0, 0), some (.getfield 9, 3, 3, 0, 365)]
def jm_M25_r7 : List (Option jm_I) := [none, some (.iload 8, 2, 0, 0, 0), none, some (.aload_n 0, 1, 0, 0, 0), some (.getfield 22, 3, 3, 3, 370), none, none, some (.aload_n 1, 1, 0, 0, 0), some (.iconst 2, 1, 0, 0, 0), some (.invokevirtual 60, 3, 21, 0, 871), none, none, some (.iastore, 1, 0, 0, 0), some (.aload_n 0, 1, 0, 0, 0), some (.getfield 15, 3, 3, 1, 367)]
def jm_M25_r8 : List (Option jm_I) := [none, some (.iload 8, 2, 0, 0, 0), none, some (.aload_n 0, 1, 0, 0, 0), some (.getfield 22, 3, 3, 3, 370), none, none, some (.aload_n 1, 1, 0, 0, 0), some (.iconst 3, 1, 0, 0, 0), some (.invokevirtual 60, 3, 21, 0, 871), none, none, some (.iastore, 1, 0, 0, 0), some (.iload 7, 2, 0, 0, 0), none, some (.aload_n 0, 1, 0, 0, 0)]
def jm_M25_r9 : List (Option jm_I) := [some (.getfield 22, 3, 3, 3, 370), none, none, some (.aload_n 1, 1, 0, 0, 0), some (.iconst 1, 1, 0, 0, 0), some (.invokevirtual 60, 3, 21, 0, 871), none, none, some (.iadd, 1, 0, 0, 0), some (.iconst 0, 1, 0, 0, 0), some (.bipush 99, 2, 0, 0, 0), none, some (.invokestatic 64, 3, 129, 1, 872), none, none, some (.istore 7, 2, 0, 0, 0)]
def jm_M25_r10 : List (Option jm_I) := [none, some (.iinc 8 1, 3, 0, 0, 0), none, none, some (.goto (-142), 3, 0, 0, 0), none, none, some (.return_, 1, 0, 0, 0)]
/-- FallMarket$Outlook.lookAhead(LFallMarket$Text;LFallMarket$Ground;III)V -/
def jm_M25 : jm_M := (⟨"FallMarket$Outlook", "lookAhead", "(LFallMarket$Text;LFallMarket$Ground;III)V"⟩, prog_5_method_2_code, 9, none, [jm_M25_r0, jm_M25_r1, jm_M25_r2, jm_M25_r3, jm_M25_r4, jm_M25_r5, jm_M25_r6, jm_M25_r7, jm_M25_r8, jm_M25_r9, jm_M25_r10], 1, 5, 1, 3)
/-- FallMarket$Outlook.weighCatches(LFallMarket$Text;LFallMarket$Ground;I)V -/
def jm_M26 : jm_M := (⟨"FallMarket$Outlook", "weighCatches", "(LFallMarket$Text;LFallMarket$Ground;I)V"⟩, prog_5_method_3_code, 5, none, [[some (.iconst 0, 1, 0, 0, 0), some (.istore 4, 2, 0, 0, 0), none, some (.iload 4, 2, 0, 0, 0), none, some (.aload_n 1, 1, 0, 0, 0), some (.getfield 26, 3, 5, 0, 143), none, none, some (.if_icmp .ge 55, 3, 0, 0, 0), none, none, some (.aload_n 0, 1, 0, 0, 0), some (.getfield 18, 3, 3, 2, 368)],
  [some (.iload 4, 2, 0, 0, 0), none, some (.lconst 0, 1, 0, 0, 0), some (.lastore, 1, 0, 0, 0), some (.aload_n 2, 1, 0, 0, 0), some (.getfield 68, 3, 1, 4, 400), none, none, some (.iload 4, 2, 0, 0, 0), none, some (.iaload, 1, 0, 0, 0), some (.ifCond .ne 31, 3, 0, 0, 0), none, none, some (.aload_n 0, 1, 0, 0, 0), some (.aload_n 1, 1, 0, 0, 0)],
  [some (.aload_n 2, 1, 0, 0, 0), some (.iload 4, 2, 0, 0, 0), none, some (.iload_n 3, 1, 0, 0, 0), some (.aload_n 2, 1, 0, 0, 0), some (.getfield 71, 3, 1, 7, 410), none, none, some (.iload 4, 2, 0, 0, 0), none, some (.iaload, 1, 0, 0, 0), some (.invokevirtual 74, 3, 25, 0, 884), none, none, some (.aload_n 0, 1, 0, 0, 0), some (.getfield 18, 3, 3, 2, 368)],
  [none, none, some (.iload 4, 2, 0, 0, 0), none, some (.aload_n 0, 1, 0, 0, 0), some (.iload_n 3, 1, 0, 0, 0), some (.invokevirtual 78, 3, 27, 0, 885), none, none, some (.lastore, 1, 0, 0, 0), some (.iinc 4 1, 3, 0, 0, 0), none, none, some (.goto (-58), 3, 0, 0, 0)],
  [some (.return_, 1, 0, 0, 0)]], 1, 3, 1, 3)
/-- FallMarket$Outlook.meanWorth(I)J -/
def jm_M27 : jm_M := (⟨"FallMarket$Outlook", "meanWorth", "(I)J"⟩, prog_5_method_4_code, 7, some .long, [[some (.lconst 1, 1, 0, 0, 0), some (.lstore_n 2, 1, 0, 0, 0), some (.lconst 0, 1, 0, 0, 0), some (.lstore 4, 2, 0, 0, 0), none, some (.iconst 0, 1, 0, 0, 0), some (.istore 6, 2, 0, 0, 0), none, some (.iload 6, 2, 0, 0, 0), none, some (.iload_n 1, 1, 0, 0, 0), some (.if_icmp .ge 57, 3, 0, 0, 0), none, none, some (.iload 6, 2, 0, 0, 0)],
  [some (.iconst 4, 1, 0, 0, 0), some (.if_icmp .ge 51, 3, 0, 0, 0), none, none, some (.lload 4, 2, 0, 0, 0), none, some (.ldc2_w 82, 3, 100, 0, 889), none, none, some (.lmul, 1, 0, 0, 0), some (.lload_n 2, 1, 0, 0, 0), some (.aload_n 0, 1, 0, 0, 0), some (.getfield 9, 3, 3, 0, 365), none, none, some (.iload 6, 2, 0, 0, 0)],
  [none, some (.iaload, 1, 0, 0, 0), some (.i2l, 1, 0, 0, 0), some (.lmul, 1, 0, 0, 0), some (.aload_n 0, 1, 0, 0, 0), some (.getfield 15, 3, 3, 1, 367), none, none, some (.iload 6, 2, 0, 0, 0), none, some (.iaload, 1, 0, 0, 0), some (.i2l, 1, 0, 0, 0), some (.lmul, 1, 0, 0, 0), some (.ladd, 1, 0, 0, 0), some (.lstore 4, 2, 0, 0, 0)],
  [some (.lload_n 2, 1, 0, 0, 0), some (.bipush 100, 2, 0, 0, 0), none, some (.aload_n 0, 1, 0, 0, 0), some (.getfield 9, 3, 3, 0, 365), none, none, some (.iload 6, 2, 0, 0, 0), none, some (.iaload, 1, 0, 0, 0), some (.isub, 1, 0, 0, 0), some (.i2l, 1, 0, 0, 0), some (.lmul, 1, 0, 0, 0), some (.lstore_n 2, 1, 0, 0, 0), some (.iinc 6 1, 3, 0, 0, 0)],
  [none, some (.goto (-57), 3, 0, 0, 0), none, none, some (.lload 4, 2, 0, 0, 0), none, some (.lreturn, 1, 0, 0, 0)]], 1, 1, 1, 3)
/-- FallMarket$Outlook.fallsInHour(LFallMarket$Text;LFallMarket$Ground;III)J -/
def jm_M28 : jm_M := (⟨"FallMarket$Outlook", "fallsInHour", "(LFallMarket$Text;LFallMarket$Ground;III)J"⟩, prog_5_method_5_code, 9, some .long, [[some (.aload_n 0, 1, 0, 0, 0), some (.aload_n 1, 1, 0, 0, 0), some (.aload_n 2, 1, 0, 0, 0), some (.iload_n 3, 1, 0, 0, 0), some (.iload 4, 2, 0, 0, 0), none, some (.iload 5, 2, 0, 0, 0), none, some (.invokevirtual 74, 3, 25, 0, 884), none, none, some (.lconst 1, 1, 0, 0, 0), some (.lstore 6, 2, 0, 0, 0), none, some (.iconst 0, 1, 0, 0, 0), some (.istore 8, 2, 0, 0, 0)],
  [none, some (.iload 8, 2, 0, 0, 0), none, some (.iload 4, 2, 0, 0, 0), none, some (.iconst 1, 1, 0, 0, 0), some (.isub, 1, 0, 0, 0), some (.if_icmp .ge 31, 3, 0, 0, 0), none, none, some (.iload 8, 2, 0, 0, 0), none, some (.iconst 4, 1, 0, 0, 0), some (.if_icmp .ge 25, 3, 0, 0, 0)],
  [some (.lload 6, 2, 0, 0, 0), none, some (.bipush 100, 2, 0, 0, 0), none, some (.aload_n 0, 1, 0, 0, 0), some (.getfield 9, 3, 3, 0, 365), none, none, some (.iload 8, 2, 0, 0, 0), none, some (.iaload, 1, 0, 0, 0), some (.isub, 1, 0, 0, 0), some (.i2l, 1, 0, 0, 0), some (.lmul, 1, 0, 0, 0), some (.lstore 6, 2, 0, 0, 0)],
  [some (.iinc 8 1, 3, 0, 0, 0), none, none, some (.goto (-34), 3, 0, 0, 0), none, none, some (.iload 4, 2, 0, 0, 0), none, some (.iconst 1, 1, 0, 0, 0), some (.if_icmp .lt 25, 3, 0, 0, 0), none, none, some (.iload 4, 2, 0, 0, 0), none, some (.iconst 4, 1, 0, 0, 0), some (.if_icmp .gt 19, 3, 0, 0, 0)],
  [none, none, some (.lload 6, 2, 0, 0, 0), none, some (.aload_n 0, 1, 0, 0, 0), some (.getfield 9, 3, 3, 0, 365), none, none, some (.iload 4, 2, 0, 0, 0), none, some (.iconst 1, 1, 0, 0, 0), some (.isub, 1, 0, 0, 0), some (.iaload, 1, 0, 0, 0), some (.i2l, 1, 0, 0, 0), some (.lmul, 1, 0, 0, 0), some (.goto 4, 3, 0, 0, 0)],
  [none, none, some (.lconst 0, 1, 0, 0, 0), some (.lreturn, 1, 0, 0, 0)]], 1, 5, 1, 3)
/-- FallMarket$Outlook.inHundredths(JI)I -/
def jm_M29 : jm_M := (⟨"FallMarket$Outlook", "inHundredths", "(JI)I"⟩, prog_5_method_6_code, 6, some .int, [[some (.lload_n 0, 1, 0, 0, 0), some (.lstore_n 3, 1, 0, 0, 0), some (.iconst 1, 1, 0, 0, 0), some (.istore 5, 2, 0, 0, 0), none, some (.iload 5, 2, 0, 0, 0), none, some (.iload_n 2, 1, 0, 0, 0), some (.if_icmp .ge 15, 3, 0, 0, 0), none, none, some (.lload_n 3, 1, 0, 0, 0), some (.ldc2_w 82, 3, 100, 0, 889), none, none, some (.ldiv, 1, 0, 0, 0)],
  [some (.lstore_n 3, 1, 0, 0, 0), some (.iinc 5 1, 3, 0, 0, 0), none, none, some (.goto (-15), 3, 0, 0, 0), none, none, some (.lload_n 3, 1, 0, 0, 0), some (.l2i, 1, 0, 0, 0), some (.ireturn, 1, 0, 0, 0)]], 1, 2, 0, 3)
/-- FallMarket$Parser.<init>(LFallMarket$Text;)V -/
def jm_M30 : jm_M := (⟨"FallMarket$Parser", "<init>", "(LFallMarket$Text;)V"⟩, prog_6_method_1_code, 2, none, [[some (.aload_n 0, 1, 0, 0, 0), some (.invokespecial 3, 3, 0, 2, 229), none, none, some (.aload_n 0, 1, 0, 0, 0), some (.new 9, 3, 6, 0, 230), none, none, some (.dup, 1, 0, 0, 0), some (.invokespecial 11, 3, 54, 0, 232), none, none, some (.putfield 12, 3, 4, 13000, 303), none, none, some (.aload_n 0, 1, 0, 0, 0)],
  [some (.iconst 0, 1, 0, 0, 0), some (.putfield 18, 3, 4, 2, 305), none, none, some (.aload_n 0, 1, 0, 0, 0), some (.iconst 0, 1, 0, 0, 0), some (.putfield 22, 3, 4, 3, 306), none, none, some (.aload_n 0, 1, 0, 0, 0), some (.iconst (-1), 1, 0, 0, 0), some (.putfield 25, 3, 4, 4, 307), none, none, some (.aload_n 0, 1, 0, 0, 0), some (.iconst 0, 1, 0, 0, 0)],
  [some (.putfield 28, 3, 4, 5, 308), none, none, some (.aload_n 0, 1, 0, 0, 0), some (.iconst (-1), 1, 0, 0, 0), some (.putfield 31, 3, 4, 6, 309), none, none, some (.aload_n 0, 1, 0, 0, 0), some (.bipush 11, 2, 0, 0, 0), none, some (.newarray .long, 2, 0, 0, 0), none, some (.putfield 34, 3, 4, 13007, 310)],
  [some (.aload_n 0, 1, 0, 0, 0), some (.iconst 0, 1, 0, 0, 0), some (.putfield 38, 3, 4, 8, 311), none, none, some (.aload_n 0, 1, 0, 0, 0), some (.iconst 3, 1, 0, 0, 0), some (.newarray .int, 2, 0, 0, 0), none, some (.putfield 41, 3, 4, 13009, 312), none, none, some (.aload_n 0, 1, 0, 0, 0), some (.aload_n 1, 1, 0, 0, 0), some (.putfield 45, 3, 4, 3001, 304)],
  [none, some (.return_, 1, 0, 0, 0)]], 1, 1, 2, 4)
def jm_M31_r0 : List (Option jm_I) := [some (.aload_n 0, 1, 0, 0, 0), some (.getfield 12, 3, 4, 0, 303), none, none, some (.aload_n 1, 1, 0, 0, 0), some (.iload_n 2, 1, 0, 0, 0), some (.invokevirtual 49, 3, 58, 0, 606), none, none, some (.aload_n 0, 1, 0, 0, 0), some (.aload_n 3, 1, 0, 0, 0), some (.putfield 45, 3, 4, 3001, 304), none, none, some (.aload_n 0, 1, 0, 0, 0), some (.getfield 45, 3, 4, 1, 304)]
def jm_M31_r1 : List (Option jm_I) := [none, none, some (.invokevirtual 53, 3, 47, 0, 640), none, none, some (.aload_n 0, 1, 0, 0, 0), some (.iconst 0, 1, 0, 0, 0), some (.putfield 18, 3, 4, 2, 305), none, none, some (.aload_n 0, 1, 0, 0, 0), some (.iconst 0, 1, 0, 0, 0), some (.putfield 22, 3, 4, 3, 306), none, none, some (.aload_n 0, 1, 0, 0, 0)]
def jm_M31_r2 : List (Option jm_I) := [some (.iconst 0, 1, 0, 0, 0), some (.putfield 28, 3, 4, 5, 308), none, none, some (.aload_n 0, 1, 0, 0, 0), some (.iconst (-1), 1, 0, 0, 0), some (.putfield 31, 3, 4, 6, 309), none, none, some (.aload_n 0, 1, 0, 0, 0), some (.iconst 0, 1, 0, 0, 0), some (.putfield 38, 3, 4, 8, 311), none, none, some (.iconst 1, 1, 0, 0, 0), some (.istore 4, 2, 0, 0, 0)]
def jm_M31_r3 : List (Option jm_I) := [none, some (.iconst 0, 1, 0, 0, 0), some (.istore 5, 2, 0, 0, 0), none, some (.iload 5, 2, 0, 0, 0), none, some (.sipush 400, 3, 0, 0, 0), none, none, some (.if_icmp .gt 132, 3, 0, 0, 0), none, none, some (.iload 4, 2, 0, 0, 0), none, some (.ifCond .eq 127, 3, 0, 0, 0)]
def jm_M31_r4 : List (Option jm_I) := [none, some (.aload_n 0, 1, 0, 0, 0), some (.getfield 12, 3, 4, 0, 303), none, none, some (.aload_n 0, 1, 0, 0, 0), some (.getfield 18, 3, 4, 2, 305), none, none, some (.invokevirtual 58, 3, 55, 0, 641), none, none, some (.bipush 26, 2, 0, 0, 0), none, some (.if_icmp .eq 111, 3, 0, 0, 0)]
def jm_M31_r5 : List (Option jm_I) := [none, some (.aload_n 0, 1, 0, 0, 0), some (.getfield 12, 3, 4, 0, 303), none, none, some (.aload_n 0, 1, 0, 0, 0), some (.getfield 18, 3, 4, 2, 305), none, none, some (.invokevirtual 58, 3, 55, 0, 641), none, none, some (.istore 6, 2, 0, 0, 0), none, some (.iload 6, 2, 0, 0, 0)]
def jm_M31_r6 : List (Option jm_I) := [some (.ifCond .ne 12, 3, 0, 0, 0), none, none, some (.aload_n 0, 1, 0, 0, 0), some (.invokevirtual 62, 3, 33, 0, 645), none, none, some (.istore 4, 2, 0, 0, 0), none, some (.goto 78, 3, 0, 0, 0), none, none, some (.iload 6, 2, 0, 0, 0), none, some (.iconst 1, 1, 0, 0, 0), some (.if_icmp .ne 12, 3, 0, 0, 0)]
def jm_M31_r7 : List (Option jm_I) := [none, none, some (.aload_n 0, 1, 0, 0, 0), some (.invokevirtual 66, 3, 34, 0, 684), none, none, some (.istore 4, 2, 0, 0, 0), none, some (.goto 63, 3, 0, 0, 0), none, none, some (.iload 6, 2, 0, 0, 0), none, some (.iconst 2, 1, 0, 0, 0), some (.if_icmp .lt 25, 3, 0, 0, 0)]
def jm_M31_r8 : List (Option jm_I) := [none, some (.iload 6, 2, 0, 0, 0), none, some (.bipush 7, 2, 0, 0, 0), none, some (.if_icmp .gt 18, 3, 0, 0, 0), none, none, some (.aload_n 0, 1, 0, 0, 0), some (.iload 6, 2, 0, 0, 0), none, some (.iload 6, 2, 0, 0, 0), none, some (.iconst 2, 1, 0, 0, 0), some (.isub, 1, 0, 0, 0), some (.invokevirtual 69, 3, 36, 0, 692)]
def jm_M31_r9 : List (Option jm_I) := [none, none, some (.istore 4, 2, 0, 0, 0), none, some (.goto 35, 3, 0, 0, 0), none, none, some (.iload 6, 2, 0, 0, 0), none, some (.bipush 8, 2, 0, 0, 0), none, some (.if_icmp .lt 21, 3, 0, 0, 0), none, none, some (.iload 6, 2, 0, 0, 0)]
def jm_M31_r10 : List (Option jm_I) := [some (.bipush 10, 2, 0, 0, 0), none, some (.if_icmp .gt 14, 3, 0, 0, 0), none, none, some (.aload_n 0, 1, 0, 0, 0), some (.iload 6, 2, 0, 0, 0), none, some (.invokevirtual 73, 3, 35, 0, 720), none, none, some (.istore 4, 2, 0, 0, 0), none, some (.goto 10, 3, 0, 0, 0)]
def jm_M31_r11 : List (Option jm_I) := [some (.aload_n 0, 1, 0, 0, 0), some (.iconst 1, 1, 0, 0, 0), some (.invokevirtual 77, 3, 44, 0, 649), none, none, some (.istore 4, 2, 0, 0, 0), none, some (.iinc 5 1, 3, 0, 0, 0), none, none, some (.goto (-134), 3, 0, 0, 0), none, none, some (.aload_n 0, 1, 0, 0, 0), some (.iload 4, 2, 0, 0, 0)]
def jm_M31_r12 : List (Option jm_I) := [some (.ifCond .eq 10, 3, 0, 0, 0), none, none, some (.aload_n 0, 1, 0, 0, 0), some (.getfield 31, 3, 4, 6, 309), none, none, some (.goto 14, 3, 0, 0, 0), none, none, some (.aload_n 0, 1, 0, 0, 0), some (.getfield 12, 3, 4, 0, 303), none, none, some (.aload_n 0, 1, 0, 0, 0), some (.getfield 18, 3, 4, 2, 305)]
def jm_M31_r13 : List (Option jm_I) := [none, none, some (.invokevirtual 80, 3, 56, 0, 669), none, none, some (.putfield 25, 3, 4, 4, 307), none, none, some (.iload 4, 2, 0, 0, 0), none, some (.ifCond .eq 10, 3, 0, 0, 0), none, none, some (.aload_n 0, 1, 0, 0, 0), some (.getfield 28, 3, 4, 5, 308)]
def jm_M31_r14 : List (Option jm_I) := [none, some (.goto 7, 3, 0, 0, 0), none, none, some (.aload_n 0, 1, 0, 0, 0), some (.getfield 22, 3, 4, 3, 306), none, none, some (.ireturn, 1, 0, 0, 0)]
/-- FallMarket$Parser.parse([BILFallMarket$Text;)I -/
def jm_M31 : jm_M := (⟨"FallMarket$Parser", "parse", "([BILFallMarket$Text;)I"⟩, prog_6_method_2_code, 7, some .int, [jm_M31_r0, jm_M31_r1, jm_M31_r2, jm_M31_r3, jm_M31_r4, jm_M31_r5, jm_M31_r6, jm_M31_r7, jm_M31_r8, jm_M31_r9, jm_M31_r10, jm_M31_r11, jm_M31_r12, jm_M31_r13, jm_M31_r14], 1, 3, 1, 4)
/-- FallMarket$Parser.faultPlace()I -/
def jm_M32 : jm_M := (⟨"FallMarket$Parser", "faultPlace", "()I"⟩, prog_6_method_3_code, 1, some .int, [[some (.aload_n 0, 1, 0, 0, 0), some (.getfield 25, 3, 4, 4, 307), none, none, some (.ireturn, 1, 0, 0, 0)]], 1, 0, 1, 4)
/-- FallMarket$Parser.parseFruit()Z -/
def jm_M33 : jm_M := (⟨"FallMarket$Parser", "parseFruit", "()Z"⟩, prog_6_method_4_code, 2, some .boolean, [[some (.aload_n 0, 1, 0, 0, 0), some (.getfield 45, 3, 4, 1, 304), none, none, some (.getfield 83, 3, 5, 0, 145), none, none, some (.bipush 7, 2, 0, 0, 0), none, some (.if_icmp .lt 9, 3, 0, 0, 0), none, none, some (.aload_n 0, 1, 0, 0, 0), some (.iconst 2, 1, 0, 0, 0), some (.invokevirtual 77, 3, 44, 0, 649)],
  [none, some (.ireturn, 1, 0, 0, 0), some (.aload_n 0, 1, 0, 0, 0), some (.iconst 0, 1, 0, 0, 0), some (.invokevirtual 86, 3, 43, 0, 653), none, none, some (.ifCond .eq 56, 3, 0, 0, 0), none, none, some (.aload_n 0, 1, 0, 0, 0), some (.invokevirtual 89, 3, 41, 0, 657), none, none, some (.ifCond .eq 49, 3, 0, 0, 0)],
  [none, some (.aload_n 0, 1, 0, 0, 0), some (.iconst 0, 1, 0, 0, 0), some (.iconst 0, 1, 0, 0, 0), some (.bipush 9, 2, 0, 0, 0), none, some (.invokevirtual 92, 3, 42, 0, 673), none, none, some (.ifCond .eq 38, 3, 0, 0, 0), none, none, some (.aload_n 0, 1, 0, 0, 0), some (.iconst 1, 1, 0, 0, 0), some (.iconst 1, 1, 0, 0, 0), some (.bipush 9, 2, 0, 0, 0)],
  [none, some (.invokevirtual 92, 3, 42, 0, 673), none, none, some (.ifCond .eq 27, 3, 0, 0, 0), none, none, some (.aload_n 0, 1, 0, 0, 0), some (.iconst 2, 1, 0, 0, 0), some (.iconst 0, 1, 0, 0, 0), some (.bipush 99, 2, 0, 0, 0), none, some (.invokevirtual 92, 3, 42, 0, 673), none, none, some (.ifCond .eq 16, 3, 0, 0, 0)],
  [none, none, some (.aload_n 0, 1, 0, 0, 0), some (.bipush 59, 2, 0, 0, 0), none, some (.invokevirtual 86, 3, 43, 0, 653), none, none, some (.ifCond .eq 7, 3, 0, 0, 0), none, none, some (.iconst 1, 1, 0, 0, 0), some (.goto 4, 3, 0, 0, 0), none, none, some (.iconst 0, 1, 0, 0, 0)],
  [some (.istore_n 1, 1, 0, 0, 0), some (.iload_n 1, 1, 0, 0, 0), some (.ifCond .eq 14, 3, 0, 0, 0), none, none, some (.aload_n 0, 1, 0, 0, 0), some (.getfield 45, 3, 4, 1, 304), none, none, some (.aload_n 0, 1, 0, 0, 0), some (.getfield 41, 3, 4, 9, 312), none, none, some (.invokevirtual 96, 3, 52, 0, 680)],
  [some (.iload_n 1, 1, 0, 0, 0), some (.ireturn, 1, 0, 0, 0)]], 1, 0, 1, 4)
/-- FallMarket$Parser.parseBuyer()Z -/
def jm_M34 : jm_M := (⟨"FallMarket$Parser", "parseBuyer", "()Z"⟩, prog_6_method_5_code, 2, some .boolean, [[some (.aload_n 0, 1, 0, 0, 0), some (.getfield 45, 3, 4, 1, 304), none, none, some (.getfield 100, 3, 5, 5, 165), none, none, some (.iconst 4, 1, 0, 0, 0), some (.if_icmp .lt 9, 3, 0, 0, 0), none, none, some (.aload_n 0, 1, 0, 0, 0), some (.iconst 2, 1, 0, 0, 0), some (.invokevirtual 77, 3, 44, 0, 649)],
  [some (.ireturn, 1, 0, 0, 0), some (.aload_n 0, 1, 0, 0, 0), some (.iconst 1, 1, 0, 0, 0), some (.invokevirtual 86, 3, 43, 0, 653), none, none, some (.ifCond .eq 56, 3, 0, 0, 0), none, none, some (.aload_n 0, 1, 0, 0, 0), some (.invokevirtual 89, 3, 41, 0, 657), none, none, some (.ifCond .eq 49, 3, 0, 0, 0)],
  [some (.aload_n 0, 1, 0, 0, 0), some (.iconst 0, 1, 0, 0, 0), some (.iconst 0, 1, 0, 0, 0), some (.bipush 9, 2, 0, 0, 0), none, some (.invokevirtual 92, 3, 42, 0, 673), none, none, some (.ifCond .eq 38, 3, 0, 0, 0), none, none, some (.aload_n 0, 1, 0, 0, 0), some (.iconst 1, 1, 0, 0, 0), some (.iconst 0, 1, 0, 0, 0), some (.iconst 3, 1, 0, 0, 0), some (.invokevirtual 92, 3, 42, 0, 673)],
  [none, none, some (.ifCond .eq 28, 3, 0, 0, 0), none, none, some (.aload_n 0, 1, 0, 0, 0), some (.iconst 2, 1, 0, 0, 0), some (.iconst 0, 1, 0, 0, 0), some (.sipush 999, 3, 0, 0, 0), none, none, some (.invokevirtual 92, 3, 42, 0, 673), none, none, some (.ifCond .eq 16, 3, 0, 0, 0)],
  [none, some (.aload_n 0, 1, 0, 0, 0), some (.bipush 59, 2, 0, 0, 0), none, some (.invokevirtual 86, 3, 43, 0, 653), none, none, some (.ifCond .eq 7, 3, 0, 0, 0), none, none, some (.iconst 1, 1, 0, 0, 0), some (.goto 4, 3, 0, 0, 0), none, none, some (.iconst 0, 1, 0, 0, 0), some (.istore_n 1, 1, 0, 0, 0)],
  [some (.iload_n 1, 1, 0, 0, 0), some (.ifCond .eq 14, 3, 0, 0, 0), none, none, some (.aload_n 0, 1, 0, 0, 0), some (.getfield 45, 3, 4, 1, 304), none, none, some (.aload_n 0, 1, 0, 0, 0), some (.getfield 41, 3, 4, 9, 312), none, none, some (.invokevirtual 103, 3, 53, 0, 688), none, none, some (.iload_n 1, 1, 0, 0, 0)],
  [some (.ireturn, 1, 0, 0, 0)]], 1, 0, 1, 4)
/-- FallMarket$Parser.parseSetting(I)Z -/
def jm_M35 : jm_M := (⟨"FallMarket$Parser", "parseSetting", "(I)Z"⟩, prog_6_method_6_code, 3, some .boolean, [[some (.iload_n 1, 1, 0, 0, 0), some (.bipush 8, 2, 0, 0, 0), none, some (.if_icmp .ne 8, 3, 0, 0, 0), none, none, some (.bipush 99, 2, 0, 0, 0), none, some (.goto 17, 3, 0, 0, 0), none, none, some (.iload_n 1, 1, 0, 0, 0), some (.bipush 9, 2, 0, 0, 0), none, some (.if_icmp .ne 8, 3, 0, 0, 0)],
  [none, some (.bipush 99, 2, 0, 0, 0), none, some (.goto 6, 3, 0, 0, 0), none, none, some (.sipush 9999, 3, 0, 0, 0), none, none, some (.istore_n 2, 1, 0, 0, 0), some (.aload_n 0, 1, 0, 0, 0), some (.iload_n 1, 1, 0, 0, 0), some (.invokevirtual 86, 3, 43, 0, 653), none, none, some (.ifCond .eq 22, 3, 0, 0, 0)],
  [none, none, some (.aload_n 0, 1, 0, 0, 0), some (.iconst 0, 1, 0, 0, 0), some (.iconst 0, 1, 0, 0, 0), some (.iload_n 2, 1, 0, 0, 0), some (.invokevirtual 92, 3, 42, 0, 673), none, none, some (.ifCond .eq 12, 3, 0, 0, 0), none, none, some (.aload_n 0, 1, 0, 0, 0), some (.bipush 59, 2, 0, 0, 0), none, some (.invokevirtual 86, 3, 43, 0, 653)],
  [none, none, some (.ifCond .ne 5, 3, 0, 0, 0), none, none, some (.iconst 0, 1, 0, 0, 0), some (.ireturn, 1, 0, 0, 0), some (.iload_n 1, 1, 0, 0, 0), some (.bipush 8, 2, 0, 0, 0), none, some (.if_icmp .ne 19, 3, 0, 0, 0), none, none, some (.aload_n 0, 1, 0, 0, 0), some (.getfield 45, 3, 4, 1, 304)],
  [none, some (.aload_n 0, 1, 0, 0, 0), some (.getfield 41, 3, 4, 9, 312), none, none, some (.iconst 0, 1, 0, 0, 0), some (.iaload, 1, 0, 0, 0), some (.putfield 106, 3, 5, 9, 176), none, none, some (.goto 38, 3, 0, 0, 0), none, none, some (.iload_n 1, 1, 0, 0, 0), some (.bipush 9, 2, 0, 0, 0)],
  [some (.if_icmp .ne 19, 3, 0, 0, 0), none, none, some (.aload_n 0, 1, 0, 0, 0), some (.getfield 45, 3, 4, 1, 304), none, none, some (.aload_n 0, 1, 0, 0, 0), some (.getfield 41, 3, 4, 9, 312), none, none, some (.iconst 0, 1, 0, 0, 0), some (.iaload, 1, 0, 0, 0), some (.putfield 109, 3, 5, 10, 180)],
  [some (.goto 16, 3, 0, 0, 0), none, none, some (.aload_n 0, 1, 0, 0, 0), some (.getfield 45, 3, 4, 1, 304), none, none, some (.aload_n 0, 1, 0, 0, 0), some (.getfield 41, 3, 4, 9, 312), none, none, some (.iconst 0, 1, 0, 0, 0), some (.iaload, 1, 0, 0, 0), some (.putfield 112, 3, 5, 11, 182)],
  [some (.iconst 1, 1, 0, 0, 0), some (.ireturn, 1, 0, 0, 0)]], 1, 1, 1, 4)
/-- FallMarket$Parser.parseLaw(II)Z -/
def jm_M36 : jm_M := (⟨"FallMarket$Parser", "parseLaw", "(II)Z"⟩, prog_6_method_7_code, 5, some .boolean, [[some (.aload_n 0, 1, 0, 0, 0), some (.iload_n 1, 1, 0, 0, 0), some (.invokevirtual 86, 3, 43, 0, 653), none, none, some (.ifCond .eq 12, 3, 0, 0, 0), none, none, some (.aload_n 0, 1, 0, 0, 0), some (.bipush 61, 2, 0, 0, 0), none, some (.invokevirtual 86, 3, 43, 0, 653), none, none, some (.ifCond .ne 5, 3, 0, 0, 0)],
  [none, some (.iconst 0, 1, 0, 0, 0), some (.ireturn, 1, 0, 0, 0), some (.aload_n 0, 1, 0, 0, 0), some (.getfield 45, 3, 4, 1, 304), none, none, some (.getfield 115, 3, 5, 14, 190), none, none, some (.istore_n 3, 1, 0, 0, 0), some (.iconst 0, 1, 0, 0, 0), some (.istore 4, 2, 0, 0, 0), none, some (.iload 4, 2, 0, 0, 0)],
  [some (.iconst 4, 1, 0, 0, 0), some (.if_icmp .gt 47, 3, 0, 0, 0), none, none, some (.aload_n 0, 1, 0, 0, 0), some (.getfield 12, 3, 4, 0, 303), none, none, some (.aload_n 0, 1, 0, 0, 0), some (.getfield 18, 3, 4, 2, 305), none, none, some (.invokevirtual 58, 3, 55, 0, 641), none, none, some (.bipush 11, 2, 0, 0, 0)],
  [none, some (.if_icmp .ne 31, 3, 0, 0, 0), none, none, some (.iload 4, 2, 0, 0, 0), none, some (.iconst 4, 1, 0, 0, 0), some (.if_icmp .lt 9, 3, 0, 0, 0), none, none, some (.aload_n 0, 1, 0, 0, 0), some (.iconst 2, 1, 0, 0, 0), some (.invokevirtual 77, 3, 44, 0, 649), none, none, some (.ireturn, 1, 0, 0, 0)],
  [some (.aload_n 0, 1, 0, 0, 0), some (.iload_n 2, 1, 0, 0, 0), some (.invokevirtual 118, 3, 37, 0, 696), none, none, some (.ifCond .ne 5, 3, 0, 0, 0), none, none, some (.iconst 0, 1, 0, 0, 0), some (.ireturn, 1, 0, 0, 0), some (.iinc 4 1, 3, 0, 0, 0), none, none, some (.goto (-47), 3, 0, 0, 0)],
  [some (.aload_n 0, 1, 0, 0, 0), some (.iload_n 2, 1, 0, 0, 0), some (.iconst 0, 1, 0, 0, 0), some (.invokevirtual 121, 3, 38, 0, 700), none, none, some (.ifCond .eq 12, 3, 0, 0, 0), none, none, some (.aload_n 0, 1, 0, 0, 0), some (.bipush 59, 2, 0, 0, 0), none, some (.invokevirtual 86, 3, 43, 0, 653), none, none, some (.ifCond .ne 5, 3, 0, 0, 0)],
  [none, none, some (.iconst 0, 1, 0, 0, 0), some (.ireturn, 1, 0, 0, 0), some (.aload_n 0, 1, 0, 0, 0), some (.getfield 45, 3, 4, 1, 304), none, none, some (.bipush (-14), 2, 0, 0, 0), none, some (.invokevirtual 124, 3, 50, 0, 712), none, none, some (.aload_n 0, 1, 0, 0, 0), some (.getfield 45, 3, 4, 1, 304)],
  [none, some (.getfield 128, 3, 5, 12, 186), none, none, some (.iload_n 2, 1, 0, 0, 0), some (.iload_n 3, 1, 0, 0, 0), some (.iastore, 1, 0, 0, 0), some (.iconst 1, 1, 0, 0, 0), some (.ireturn, 1, 0, 0, 0)]], 1, 2, 1, 4)
/-- FallMarket$Parser.parseIf(I)Z -/
def jm_M37 : jm_M := (⟨"FallMarket$Parser", "parseIf", "(I)Z"⟩, prog_6_method_8_code, 4, some .boolean, [[some (.aload_n 0, 1, 0, 0, 0), some (.bipush 11, 2, 0, 0, 0), none, some (.invokevirtual 86, 3, 43, 0, 653), none, none, some (.ifCond .eq 43, 3, 0, 0, 0), none, none, some (.aload_n 0, 1, 0, 0, 0), some (.iload_n 1, 1, 0, 0, 0), some (.iconst 0, 1, 0, 0, 0), some (.invokevirtual 121, 3, 38, 0, 700), none, none, some (.ifCond .eq 34, 3, 0, 0, 0)],
  [none, none, some (.aload_n 0, 1, 0, 0, 0), some (.bipush 60, 2, 0, 0, 0), none, some (.invokevirtual 86, 3, 43, 0, 653), none, none, some (.ifCond .eq 25, 3, 0, 0, 0), none, none, some (.aload_n 0, 1, 0, 0, 0), some (.iload_n 1, 1, 0, 0, 0), some (.iconst 0, 1, 0, 0, 0), some (.invokevirtual 121, 3, 38, 0, 700)],
  [none, some (.ifCond .eq 16, 3, 0, 0, 0), none, none, some (.aload_n 0, 1, 0, 0, 0), some (.bipush 12, 2, 0, 0, 0), none, some (.invokevirtual 86, 3, 43, 0, 653), none, none, some (.ifCond .eq 7, 3, 0, 0, 0), none, none, some (.iconst 1, 1, 0, 0, 0), some (.goto 4, 3, 0, 0, 0)],
  [none, some (.iconst 0, 1, 0, 0, 0), some (.istore_n 2, 1, 0, 0, 0), some (.iload_n 2, 1, 0, 0, 0), some (.ifCond .ne 5, 3, 0, 0, 0), none, none, some (.iconst 0, 1, 0, 0, 0), some (.ireturn, 1, 0, 0, 0), some (.aload_n 0, 1, 0, 0, 0), some (.getfield 45, 3, 4, 1, 304), none, none, some (.bipush (-15), 2, 0, 0, 0), none, some (.invokevirtual 124, 3, 50, 0, 712)],
  [none, none, some (.aload_n 0, 1, 0, 0, 0), some (.getfield 45, 3, 4, 1, 304), none, none, some (.getfield 115, 3, 5, 14, 190), none, none, some (.istore_n 3, 1, 0, 0, 0), some (.aload_n 0, 1, 0, 0, 0), some (.getfield 45, 3, 4, 1, 304), none, none, some (.iconst 0, 1, 0, 0, 0), some (.invokevirtual 124, 3, 50, 0, 712)],
  [none, none, some (.aload_n 0, 1, 0, 0, 0), some (.iload_n 1, 1, 0, 0, 0), some (.iconst 0, 1, 0, 0, 0), some (.invokevirtual 121, 3, 38, 0, 700), none, none, some (.ifCond .eq 12, 3, 0, 0, 0), none, none, some (.aload_n 0, 1, 0, 0, 0), some (.bipush 13, 2, 0, 0, 0), none, some (.invokevirtual 86, 3, 43, 0, 653)],
  [none, some (.ifCond .ne 5, 3, 0, 0, 0), none, none, some (.iconst 0, 1, 0, 0, 0), some (.ireturn, 1, 0, 0, 0), some (.aload_n 0, 1, 0, 0, 0), some (.getfield 45, 3, 4, 1, 304), none, none, some (.bipush (-14), 2, 0, 0, 0), none, some (.invokevirtual 124, 3, 50, 0, 712), none, none, some (.aload_n 0, 1, 0, 0, 0)],
  [some (.getfield 45, 3, 4, 1, 304), none, none, some (.iload_n 3, 1, 0, 0, 0), some (.aload_n 0, 1, 0, 0, 0), some (.getfield 45, 3, 4, 1, 304), none, none, some (.getfield 115, 3, 5, 14, 190), none, none, some (.invokevirtual 131, 3, 51, 0, 716), none, none, some (.iconst 1, 1, 0, 0, 0), some (.ireturn, 1, 0, 0, 0)]], 1, 1, 1, 4)
/-- FallMarket$Parser.parseSum(II)Z -/
def jm_M38 : jm_M := (⟨"FallMarket$Parser", "parseSum", "(II)Z"⟩, prog_6_method_9_code, 6, some .boolean, [[some (.aload_n 0, 1, 0, 0, 0), some (.iload_n 1, 1, 0, 0, 0), some (.iload_n 2, 1, 0, 0, 0), some (.invokevirtual 135, 3, 39, 0, 704), none, none, some (.istore_n 3, 1, 0, 0, 0), some (.aload_n 0, 1, 0, 0, 0), some (.getfield 12, 3, 4, 0, 303), none, none, some (.aload_n 0, 1, 0, 0, 0), some (.getfield 18, 3, 4, 2, 305), none, none, some (.invokevirtual 58, 3, 55, 0, 641)],
  [none, none, some (.istore 4, 2, 0, 0, 0), none, some (.iconst 0, 1, 0, 0, 0), some (.istore 5, 2, 0, 0, 0), none, some (.iload 5, 2, 0, 0, 0), none, some (.sipush 400, 3, 0, 0, 0), none, none, some (.if_icmp .gt 85, 3, 0, 0, 0), none, none, some (.iload_n 3, 1, 0, 0, 0)],
  [some (.ifCond .eq 81, 3, 0, 0, 0), none, none, some (.iload 4, 2, 0, 0, 0), none, some (.bipush 43, 2, 0, 0, 0), none, some (.if_icmp .eq 10, 3, 0, 0, 0), none, none, some (.iload 4, 2, 0, 0, 0), none, some (.bipush 45, 2, 0, 0, 0), none, some (.if_icmp .ne 67, 3, 0, 0, 0)],
  [none, some (.aload_n 0, 1, 0, 0, 0), some (.iload 4, 2, 0, 0, 0), none, some (.invokevirtual 86, 3, 43, 0, 653), none, none, some (.ifCond .eq 16, 3, 0, 0, 0), none, none, some (.aload_n 0, 1, 0, 0, 0), some (.iload_n 1, 1, 0, 0, 0), some (.iload_n 2, 1, 0, 0, 0), some (.invokevirtual 135, 3, 39, 0, 704)],
  [some (.ifCond .eq 7, 3, 0, 0, 0), none, none, some (.iconst 1, 1, 0, 0, 0), some (.goto 4, 3, 0, 0, 0), none, none, some (.iconst 0, 1, 0, 0, 0), some (.istore_n 3, 1, 0, 0, 0), some (.aload_n 0, 1, 0, 0, 0), some (.getfield 45, 3, 4, 1, 304), none, none, some (.iload 4, 2, 0, 0, 0), none, some (.bipush 43, 2, 0, 0, 0)],
  [none, some (.if_icmp .ne 8, 3, 0, 0, 0), none, none, some (.bipush (-10), 2, 0, 0, 0), none, some (.goto 5, 3, 0, 0, 0), none, none, some (.bipush (-11), 2, 0, 0, 0), none, some (.invokevirtual 124, 3, 50, 0, 712), none, none, some (.aload_n 0, 1, 0, 0, 0), some (.getfield 12, 3, 4, 0, 303)],
  [none, none, some (.aload_n 0, 1, 0, 0, 0), some (.getfield 18, 3, 4, 2, 305), none, none, some (.invokevirtual 58, 3, 55, 0, 641), none, none, some (.istore 4, 2, 0, 0, 0), none, some (.iinc 5 1, 3, 0, 0, 0), none, none, some (.goto (-87), 3, 0, 0, 0)],
  [none, some (.iload_n 3, 1, 0, 0, 0), some (.ireturn, 1, 0, 0, 0)]], 1, 2, 1, 4)
/-- FallMarket$Parser.parseProduct(II)Z -/
def jm_M39 : jm_M := (⟨"FallMarket$Parser", "parseProduct", "(II)Z"⟩, prog_6_method_10_code, 6, some .boolean, [[some (.aload_n 0, 1, 0, 0, 0), some (.iload_n 1, 1, 0, 0, 0), some (.iload_n 2, 1, 0, 0, 0), some (.invokevirtual 138, 3, 40, 0, 708), none, none, some (.istore_n 3, 1, 0, 0, 0), some (.aload_n 0, 1, 0, 0, 0), some (.getfield 12, 3, 4, 0, 303), none, none, some (.aload_n 0, 1, 0, 0, 0), some (.getfield 18, 3, 4, 2, 305), none, none, some (.invokevirtual 58, 3, 55, 0, 641)],
  [none, none, some (.istore 4, 2, 0, 0, 0), none, some (.iconst 0, 1, 0, 0, 0), some (.istore 5, 2, 0, 0, 0), none, some (.iload 5, 2, 0, 0, 0), none, some (.sipush 400, 3, 0, 0, 0), none, none, some (.if_icmp .gt 85, 3, 0, 0, 0), none, none, some (.iload_n 3, 1, 0, 0, 0)],
  [some (.ifCond .eq 81, 3, 0, 0, 0), none, none, some (.iload 4, 2, 0, 0, 0), none, some (.bipush 42, 2, 0, 0, 0), none, some (.if_icmp .eq 10, 3, 0, 0, 0), none, none, some (.iload 4, 2, 0, 0, 0), none, some (.bipush 47, 2, 0, 0, 0), none, some (.if_icmp .ne 67, 3, 0, 0, 0)],
  [none, some (.aload_n 0, 1, 0, 0, 0), some (.iload 4, 2, 0, 0, 0), none, some (.invokevirtual 86, 3, 43, 0, 653), none, none, some (.ifCond .eq 16, 3, 0, 0, 0), none, none, some (.aload_n 0, 1, 0, 0, 0), some (.iload_n 1, 1, 0, 0, 0), some (.iload_n 2, 1, 0, 0, 0), some (.invokevirtual 138, 3, 40, 0, 708)],
  [some (.ifCond .eq 7, 3, 0, 0, 0), none, none, some (.iconst 1, 1, 0, 0, 0), some (.goto 4, 3, 0, 0, 0), none, none, some (.iconst 0, 1, 0, 0, 0), some (.istore_n 3, 1, 0, 0, 0), some (.aload_n 0, 1, 0, 0, 0), some (.getfield 45, 3, 4, 1, 304), none, none, some (.iload 4, 2, 0, 0, 0), none, some (.bipush 42, 2, 0, 0, 0)],
  [none, some (.if_icmp .ne 8, 3, 0, 0, 0), none, none, some (.bipush (-12), 2, 0, 0, 0), none, some (.goto 5, 3, 0, 0, 0), none, none, some (.bipush (-13), 2, 0, 0, 0), none, some (.invokevirtual 124, 3, 50, 0, 712), none, none, some (.aload_n 0, 1, 0, 0, 0), some (.getfield 12, 3, 4, 0, 303)],
  [none, none, some (.aload_n 0, 1, 0, 0, 0), some (.getfield 18, 3, 4, 2, 305), none, none, some (.invokevirtual 58, 3, 55, 0, 641), none, none, some (.istore 4, 2, 0, 0, 0), none, some (.iinc 5 1, 3, 0, 0, 0), none, none, some (.goto (-87), 3, 0, 0, 0)],
  [none, some (.iload_n 3, 1, 0, 0, 0), some (.ireturn, 1, 0, 0, 0)]], 1, 2, 1, 4)
/-- FallMarket$Parser.parseUnit(II)Z -/
def jm_M40 : jm_M := (⟨"FallMarket$Parser", "parseUnit", "(II)Z"⟩, prog_6_method_11_code, 5, some .boolean, [[some (.aload_n 0, 1, 0, 0, 0), some (.getfield 12, 3, 4, 0, 303), none, none, some (.aload_n 0, 1, 0, 0, 0), some (.getfield 18, 3, 4, 2, 305), none, none, some (.invokevirtual 58, 3, 55, 0, 641), none, none, some (.istore_n 3, 1, 0, 0, 0), some (.iload_n 3, 1, 0, 0, 0), some (.bipush 24, 2, 0, 0, 0), none, some (.if_icmp .ne 28, 3, 0, 0, 0)],
  [none, none, some (.aload_n 0, 1, 0, 0, 0), some (.getfield 45, 3, 4, 1, 304), none, none, some (.aload_n 0, 1, 0, 0, 0), some (.getfield 12, 3, 4, 0, 303), none, none, some (.aload_n 0, 1, 0, 0, 0), some (.getfield 18, 3, 4, 2, 305), none, none, some (.invokevirtual 141, 3, 57, 0, 661)],
  [none, some (.l2i, 1, 0, 0, 0), some (.invokevirtual 124, 3, 50, 0, 712), none, none, some (.aload_n 0, 1, 0, 0, 0), some (.iload_n 3, 1, 0, 0, 0), some (.invokevirtual 86, 3, 43, 0, 653), none, none, some (.ireturn, 1, 0, 0, 0), some (.iload_n 3, 1, 0, 0, 0), some (.bipush 14, 2, 0, 0, 0), none, some (.if_icmp .lt 51, 3, 0, 0, 0)],
  [none, some (.iload_n 3, 1, 0, 0, 0), some (.bipush 22, 2, 0, 0, 0), none, some (.if_icmp .gt 45, 3, 0, 0, 0), none, none, some (.iload_n 3, 1, 0, 0, 0), some (.bipush 14, 2, 0, 0, 0), none, some (.isub, 1, 0, 0, 0), some (.istore 4, 2, 0, 0, 0), none, some (.aload_n 0, 1, 0, 0, 0), some (.getfield 45, 3, 4, 1, 304)],
  [none, some (.getstatic 145, 3, 2, 0, 713), none, none, some (.iload_n 1, 1, 0, 0, 0), some (.iaload, 1, 0, 0, 0), some (.iload 4, 2, 0, 0, 0), none, some (.ishr, 1, 0, 0, 0), some (.iconst 1, 1, 0, 0, 0), some (.iand, 1, 0, 0, 0), some (.iconst 1, 1, 0, 0, 0), some (.if_icmp .ne 11, 3, 0, 0, 0), none, none, some (.iload 4, 2, 0, 0, 0)],
  [none, some (.invokestatic 148, 3, 49, 0, 715), none, none, some (.goto 4, 3, 0, 0, 0), none, none, some (.iconst 0, 1, 0, 0, 0), some (.invokevirtual 124, 3, 50, 0, 712), none, none, some (.aload_n 0, 1, 0, 0, 0), some (.iload_n 3, 1, 0, 0, 0), some (.invokevirtual 86, 3, 43, 0, 653)],
  [some (.ireturn, 1, 0, 0, 0), some (.iload_n 3, 1, 0, 0, 0), some (.bipush 40, 2, 0, 0, 0), none, some (.if_icmp .eq 9, 3, 0, 0, 0), none, none, some (.aload_n 0, 1, 0, 0, 0), some (.iconst 1, 1, 0, 0, 0), some (.invokevirtual 77, 3, 44, 0, 649), none, none, some (.ireturn, 1, 0, 0, 0), some (.iload_n 2, 1, 0, 0, 0), some (.bipush 6, 2, 0, 0, 0)],
  [some (.if_icmp .lt 9, 3, 0, 0, 0), none, none, some (.aload_n 0, 1, 0, 0, 0), some (.iconst 2, 1, 0, 0, 0), some (.invokevirtual 77, 3, 44, 0, 649), none, none, some (.ireturn, 1, 0, 0, 0), some (.aload_n 0, 1, 0, 0, 0), some (.iload_n 3, 1, 0, 0, 0), some (.invokevirtual 86, 3, 43, 0, 653), none, none, some (.ifCond .eq 27, 3, 0, 0, 0)],
  [none, some (.aload_n 0, 1, 0, 0, 0), some (.iload_n 1, 1, 0, 0, 0), some (.iload_n 2, 1, 0, 0, 0), some (.iconst 1, 1, 0, 0, 0), some (.iadd, 1, 0, 0, 0), some (.invokevirtual 121, 3, 38, 0, 700), none, none, some (.ifCond .eq 16, 3, 0, 0, 0), none, none, some (.aload_n 0, 1, 0, 0, 0), some (.bipush 41, 2, 0, 0, 0), none, some (.invokevirtual 86, 3, 43, 0, 653)],
  [none, none, some (.ifCond .eq 7, 3, 0, 0, 0), none, none, some (.iconst 1, 1, 0, 0, 0), some (.goto 4, 3, 0, 0, 0), none, none, some (.iconst 0, 1, 0, 0, 0), some (.ireturn, 1, 0, 0, 0)]], 1, 2, 1, 4)
/-- FallMarket$Parser.takeName()Z -/
def jm_M41 : jm_M := (⟨"FallMarket$Parser", "takeName", "()Z"⟩, prog_6_method_12_code, 4, some .boolean, [[some (.aload_n 0, 1, 0, 0, 0), some (.bipush 23, 2, 0, 0, 0), none, some (.invokevirtual 86, 3, 43, 0, 653), none, none, some (.ifCond .ne 5, 3, 0, 0, 0), none, none, some (.iconst 0, 1, 0, 0, 0), some (.ireturn, 1, 0, 0, 0), some (.aload_n 0, 1, 0, 0, 0), some (.getfield 12, 3, 4, 0, 303), none, none, some (.aload_n 0, 1, 0, 0, 0)],
  [some (.getfield 18, 3, 4, 2, 305), none, none, some (.iconst 1, 1, 0, 0, 0), some (.isub, 1, 0, 0, 0), some (.invokevirtual 141, 3, 57, 0, 661), none, none, some (.lstore_n 1, 1, 0, 0, 0), some (.iconst 0, 1, 0, 0, 0), some (.istore_n 3, 1, 0, 0, 0), some (.iload_n 3, 1, 0, 0, 0), some (.aload_n 0, 1, 0, 0, 0), some (.getfield 38, 3, 4, 8, 311)],
  [some (.if_icmp .ge 27, 3, 0, 0, 0), none, none, some (.aload_n 0, 1, 0, 0, 0), some (.getfield 34, 3, 4, 7, 310), none, none, some (.iload_n 3, 1, 0, 0, 0), some (.laload, 1, 0, 0, 0), some (.lload_n 1, 1, 0, 0, 0), some (.lcmp, 1, 0, 0, 0), some (.ifCond .ne 10, 3, 0, 0, 0), none, none, some (.aload_n 0, 1, 0, 0, 0), some (.iconst 3, 1, 0, 0, 0)],
  [some (.invokevirtual 151, 3, 45, 0, 665), none, none, some (.iconst 1, 1, 0, 0, 0), some (.ireturn, 1, 0, 0, 0), some (.iinc 3 1, 3, 0, 0, 0), none, none, some (.goto (-29), 3, 0, 0, 0), none, none, some (.aload_n 0, 1, 0, 0, 0), some (.getfield 38, 3, 4, 8, 311), none, none, some (.aload_n 0, 1, 0, 0, 0)],
  [some (.getfield 34, 3, 4, 7, 310), none, none, some (.arraylength, 1, 0, 0, 0), some (.if_icmp .ge 23, 3, 0, 0, 0), none, none, some (.aload_n 0, 1, 0, 0, 0), some (.getfield 34, 3, 4, 7, 310), none, none, some (.aload_n 0, 1, 0, 0, 0), some (.getfield 38, 3, 4, 8, 311), none, none, some (.lload_n 1, 1, 0, 0, 0)],
  [some (.lastore, 1, 0, 0, 0), some (.aload_n 0, 1, 0, 0, 0), some (.dup, 1, 0, 0, 0), some (.getfield 38, 3, 4, 8, 311), none, none, some (.iconst 1, 1, 0, 0, 0), some (.iadd, 1, 0, 0, 0), some (.putfield 38, 3, 4, 8, 311), none, none, some (.iconst 1, 1, 0, 0, 0), some (.ireturn, 1, 0, 0, 0)]], 1, 0, 1, 4)
/-- FallMarket$Parser.takeNumber(III)Z -/
def jm_M42 : jm_M := (⟨"FallMarket$Parser", "takeNumber", "(III)Z"⟩, prog_6_method_13_code, 5, some .boolean, [[some (.aload_n 0, 1, 0, 0, 0), some (.bipush 24, 2, 0, 0, 0), none, some (.invokevirtual 86, 3, 43, 0, 653), none, none, some (.ifCond .ne 5, 3, 0, 0, 0), none, none, some (.iconst 0, 1, 0, 0, 0), some (.ireturn, 1, 0, 0, 0), some (.aload_n 0, 1, 0, 0, 0), some (.getfield 12, 3, 4, 0, 303), none, none, some (.aload_n 0, 1, 0, 0, 0)],
  [some (.getfield 18, 3, 4, 2, 305), none, none, some (.iconst 1, 1, 0, 0, 0), some (.isub, 1, 0, 0, 0), some (.invokevirtual 141, 3, 57, 0, 661), none, none, some (.l2i, 1, 0, 0, 0), some (.istore 4, 2, 0, 0, 0), none, some (.iload 4, 2, 0, 0, 0), none, some (.iload_n 2, 1, 0, 0, 0), some (.iload_n 3, 1, 0, 0, 0), some (.invokestatic 154, 3, 128, 1, 677)],
  [none, none, some (.ifCond .ne 8, 3, 0, 0, 0), none, none, some (.aload_n 0, 1, 0, 0, 0), some (.iconst 5, 1, 0, 0, 0), some (.invokevirtual 151, 3, 45, 0, 665), none, none, some (.iload_n 1, 1, 0, 0, 0), some (.iconst 0, 1, 0, 0, 0), some (.aload_n 0, 1, 0, 0, 0), some (.getfield 41, 3, 4, 9, 312)],
  [some (.arraylength, 1, 0, 0, 0), some (.iconst 1, 1, 0, 0, 0), some (.isub, 1, 0, 0, 0), some (.invokestatic 154, 3, 128, 1, 677), none, none, some (.ifCond .eq 11, 3, 0, 0, 0), none, none, some (.aload_n 0, 1, 0, 0, 0), some (.getfield 41, 3, 4, 9, 312), none, none, some (.iload_n 1, 1, 0, 0, 0), some (.iload 4, 2, 0, 0, 0)],
  [some (.iastore, 1, 0, 0, 0), some (.iconst 1, 1, 0, 0, 0), some (.ireturn, 1, 0, 0, 0)]], 1, 3, 1, 4)
/-- FallMarket$Parser.take(I)Z -/
def jm_M43 : jm_M := (⟨"FallMarket$Parser", "take", "(I)Z"⟩, prog_6_method_14_code, 2, some .boolean, [[some (.aload_n 0, 1, 0, 0, 0), some (.getfield 12, 3, 4, 0, 303), none, none, some (.aload_n 0, 1, 0, 0, 0), some (.getfield 18, 3, 4, 2, 305), none, none, some (.invokevirtual 58, 3, 55, 0, 641), none, none, some (.iload_n 1, 1, 0, 0, 0), some (.if_icmp .eq 9, 3, 0, 0, 0), none, none, some (.aload_n 0, 1, 0, 0, 0)],
  [some (.iconst 1, 1, 0, 0, 0), some (.invokevirtual 77, 3, 44, 0, 649), none, none, some (.ireturn, 1, 0, 0, 0), some (.aload_n 0, 1, 0, 0, 0), some (.getfield 18, 3, 4, 2, 305), none, none, some (.sipush 400, 3, 0, 0, 0), none, none, some (.if_icmp .lt 9, 3, 0, 0, 0), none, none, some (.aload_n 0, 1, 0, 0, 0)],
  [some (.iconst 2, 1, 0, 0, 0), some (.invokevirtual 77, 3, 44, 0, 649), none, none, some (.ireturn, 1, 0, 0, 0), some (.aload_n 0, 1, 0, 0, 0), some (.dup, 1, 0, 0, 0), some (.getfield 18, 3, 4, 2, 305), none, none, some (.iconst 1, 1, 0, 0, 0), some (.iadd, 1, 0, 0, 0), some (.putfield 18, 3, 4, 2, 305), none, none, some (.iconst 1, 1, 0, 0, 0)],
  [some (.ireturn, 1, 0, 0, 0)]], 1, 1, 1, 4)
/-- FallMarket$Parser.refuse(I)Z -/
def jm_M44 : jm_M := (⟨"FallMarket$Parser", "refuse", "(I)Z"⟩, prog_6_method_15_code, 2, some .boolean, [[some (.aload_n 0, 1, 0, 0, 0), some (.iload_n 1, 1, 0, 0, 0), some (.putfield 22, 3, 4, 3, 306), none, none, some (.iconst 0, 1, 0, 0, 0), some (.ireturn, 1, 0, 0, 0)]], 1, 1, 1, 4)
/-- FallMarket$Parser.markLater(I)V -/
def jm_M45 : jm_M := (⟨"FallMarket$Parser", "markLater", "(I)V"⟩, prog_6_method_16_code, 2, none, [[some (.aload_n 0, 1, 0, 0, 0), some (.getfield 28, 3, 4, 5, 308), none, none, some (.ifCond .ne 25, 3, 0, 0, 0), none, none, some (.aload_n 0, 1, 0, 0, 0), some (.iload_n 1, 1, 0, 0, 0), some (.putfield 28, 3, 4, 5, 308), none, none, some (.aload_n 0, 1, 0, 0, 0), some (.aload_n 0, 1, 0, 0, 0), some (.getfield 12, 3, 4, 0, 303)],
  [none, some (.aload_n 0, 1, 0, 0, 0), some (.getfield 18, 3, 4, 2, 305), none, none, some (.iconst 1, 1, 0, 0, 0), some (.isub, 1, 0, 0, 0), some (.invokevirtual 80, 3, 56, 0, 669), none, none, some (.putfield 31, 3, 4, 6, 309), none, none, some (.return_, 1, 0, 0, 0)]], 1, 1, 1, 4)
/-- FallMarket$Text.<init>()V -/
def jm_M46 : jm_M := (⟨"FallMarket$Text", "<init>", "()V"⟩, prog_7_method_1_code, 1, none, [[some (.aload_n 0, 1, 0, 0, 0), some (.invokespecial 3, 3, 0, 2, 126), none, none, some (.aload_n 0, 1, 0, 0, 0), some (.iconst 0, 1, 0, 0, 0), some (.putfield 9, 3, 5, 0, 142), none, none, some (.aload_n 0, 1, 0, 0, 0), some (.bipush 7, 2, 0, 0, 0), none, some (.newarray .int, 2, 0, 0, 0), none, some (.putfield 15, 3, 5, 13001, 149)],
  [none, some (.aload_n 0, 1, 0, 0, 0), some (.bipush 7, 2, 0, 0, 0), none, some (.newarray .int, 2, 0, 0, 0), none, some (.putfield 19, 3, 5, 13002, 154), none, none, some (.aload_n 0, 1, 0, 0, 0), some (.bipush 7, 2, 0, 0, 0), none, some (.newarray .int, 2, 0, 0, 0), none, some (.putfield 22, 3, 5, 13003, 158)],
  [none, some (.aload_n 0, 1, 0, 0, 0), some (.bipush 7, 2, 0, 0, 0), none, some (.newarray .int, 2, 0, 0, 0), none, some (.putfield 25, 3, 5, 13004, 161), none, none, some (.aload_n 0, 1, 0, 0, 0), some (.iconst 0, 1, 0, 0, 0), some (.putfield 28, 3, 5, 5, 164), none, none, some (.aload_n 0, 1, 0, 0, 0), some (.iconst 4, 1, 0, 0, 0)],
  [some (.newarray .int, 2, 0, 0, 0), none, some (.putfield 31, 3, 5, 13006, 168), none, none, some (.aload_n 0, 1, 0, 0, 0), some (.iconst 4, 1, 0, 0, 0), some (.newarray .int, 2, 0, 0, 0), none, some (.putfield 34, 3, 5, 13007, 170), none, none, some (.aload_n 0, 1, 0, 0, 0), some (.iconst 4, 1, 0, 0, 0), some (.newarray .int, 2, 0, 0, 0)],
  [some (.putfield 37, 3, 5, 13008, 173), none, none, some (.aload_n 0, 1, 0, 0, 0), some (.iconst 0, 1, 0, 0, 0), some (.putfield 40, 3, 5, 9, 175), none, none, some (.aload_n 0, 1, 0, 0, 0), some (.iconst 0, 1, 0, 0, 0), some (.putfield 43, 3, 5, 10, 178), none, none, some (.aload_n 0, 1, 0, 0, 0), some (.iconst 0, 1, 0, 0, 0), some (.putfield 46, 3, 5, 11, 181)],
  [none, none, some (.aload_n 0, 1, 0, 0, 0), some (.bipush 6, 2, 0, 0, 0), none, some (.newarray .int, 2, 0, 0, 0), none, some (.putfield 49, 3, 5, 13012, 184), none, none, some (.aload_n 0, 1, 0, 0, 0), some (.sipush 512, 3, 0, 0, 0), none, none, some (.newarray .int, 2, 0, 0, 0)],
  [some (.putfield 52, 3, 5, 13013, 187), none, none, some (.aload_n 0, 1, 0, 0, 0), some (.iconst 0, 1, 0, 0, 0), some (.putfield 55, 3, 5, 14, 189), none, none, some (.aload_n 0, 1, 0, 0, 0), some (.invokevirtual 58, 3, 47, 0, 127), none, none, some (.return_, 1, 0, 0, 0)]], 1, 0, 2, 5)
/-- FallMarket$Text.clear()V -/
def jm_M47 : jm_M := (⟨"FallMarket$Text", "clear", "()V"⟩, prog_7_method_2_code, 1, none, [[some (.aload_n 0, 1, 0, 0, 0), some (.iconst 0, 1, 0, 0, 0), some (.putfield 9, 3, 5, 0, 142), none, none, some (.aload_n 0, 1, 0, 0, 0), some (.iconst 0, 1, 0, 0, 0), some (.putfield 28, 3, 5, 5, 164), none, none, some (.aload_n 0, 1, 0, 0, 0), some (.bipush 10, 2, 0, 0, 0), none, some (.putfield 40, 3, 5, 9, 175)],
  [some (.aload_n 0, 1, 0, 0, 0), some (.bipush 6, 2, 0, 0, 0), none, some (.putfield 43, 3, 5, 10, 178), none, none, some (.aload_n 0, 1, 0, 0, 0), some (.iconst 0, 1, 0, 0, 0), some (.putfield 46, 3, 5, 11, 181), none, none, some (.aload_n 0, 1, 0, 0, 0), some (.iconst 0, 1, 0, 0, 0), some (.putfield 55, 3, 5, 14, 189)],
  [some (.aload_n 0, 1, 0, 0, 0), some (.iconst 0, 1, 0, 0, 0), some (.iconst 0, 1, 0, 0, 0), some (.invokevirtual 61, 3, 48, 0, 131), none, none, some (.aload_n 0, 1, 0, 0, 0), some (.iconst 1, 1, 0, 0, 0), some (.iconst 1, 1, 0, 0, 0), some (.invokevirtual 61, 3, 48, 0, 131), none, none, some (.aload_n 0, 1, 0, 0, 0), some (.iconst 2, 1, 0, 0, 0), some (.iconst 0, 1, 0, 0, 0), some (.invokestatic 65, 3, 49, 0, 139)],
  [none, none, some (.invokevirtual 61, 3, 48, 0, 131), none, none, some (.aload_n 0, 1, 0, 0, 0), some (.iconst 3, 1, 0, 0, 0), some (.iconst 0, 1, 0, 0, 0), some (.invokestatic 65, 3, 49, 0, 139), none, none, some (.invokevirtual 61, 3, 48, 0, 131), none, none, some (.aload_n 0, 1, 0, 0, 0), some (.iconst 4, 1, 0, 0, 0)],
  [some (.iconst 0, 1, 0, 0, 0), some (.invokevirtual 61, 3, 48, 0, 131), none, none, some (.aload_n 0, 1, 0, 0, 0), some (.iconst 5, 1, 0, 0, 0), some (.iconst 0, 1, 0, 0, 0), some (.invokevirtual 61, 3, 48, 0, 131), none, none, some (.return_, 1, 0, 0, 0)]], 1, 0, 1, 5)
/-- FallMarket$Text.addPlainLaw(II)V -/
def jm_M48 : jm_M := (⟨"FallMarket$Text", "addPlainLaw", "(II)V"⟩, prog_7_method_3_code, 3, none, [[some (.aload_n 0, 1, 0, 0, 0), some (.getfield 49, 3, 5, 12, 184), none, none, some (.iload_n 1, 1, 0, 0, 0), some (.aload_n 0, 1, 0, 0, 0), some (.getfield 55, 3, 5, 14, 189), none, none, some (.iastore, 1, 0, 0, 0), some (.aload_n 0, 1, 0, 0, 0), some (.iload_n 2, 1, 0, 0, 0), some (.invokevirtual 69, 3, 50, 0, 135), none, none, some (.aload_n 0, 1, 0, 0, 0)],
  [some (.bipush (-14), 2, 0, 0, 0), none, some (.invokevirtual 69, 3, 50, 0, 135), none, none, some (.return_, 1, 0, 0, 0)]], 1, 2, 1, 5)
/-- FallMarket$Text.varCell(I)I -/
def jm_M49 : jm_M := (⟨"FallMarket$Text", "varCell", "(I)I"⟩, prog_7_method_4_code, 1, some .int, [[some (.iconst (-1), 1, 0, 0, 0), some (.iload_n 0, 1, 0, 0, 0), some (.isub, 1, 0, 0, 0), some (.ireturn, 1, 0, 0, 0)]], 1, 1, 0, 5)
/-- FallMarket$Text.emit(I)V -/
def jm_M50 : jm_M := (⟨"FallMarket$Text", "emit", "(I)V"⟩, prog_7_method_5_code, 2, none, [[some (.aload_n 0, 1, 0, 0, 0), some (.getfield 55, 3, 5, 14, 189), none, none, some (.sipush 512, 3, 0, 0, 0), none, none, some (.if_icmp .ge 23, 3, 0, 0, 0), none, none, some (.aload_n 0, 1, 0, 0, 0), some (.getfield 52, 3, 5, 13, 187), none, none, some (.aload_n 0, 1, 0, 0, 0), some (.getfield 55, 3, 5, 14, 189)],
  [none, none, some (.iload_n 1, 1, 0, 0, 0), some (.iastore, 1, 0, 0, 0), some (.aload_n 0, 1, 0, 0, 0), some (.dup, 1, 0, 0, 0), some (.getfield 55, 3, 5, 14, 189), none, none, some (.iconst 1, 1, 0, 0, 0), some (.iadd, 1, 0, 0, 0), some (.putfield 55, 3, 5, 14, 189), none, none, some (.return_, 1, 0, 0, 0)]], 1, 1, 1, 5)
/-- FallMarket$Text.patch(II)V -/
def jm_M51 : jm_M := (⟨"FallMarket$Text", "patch", "(II)V"⟩, prog_7_method_6_code, 3, none, [[some (.iload_n 1, 1, 0, 0, 0), some (.ifCond .lt 17, 3, 0, 0, 0), none, none, some (.iload_n 1, 1, 0, 0, 0), some (.sipush 512, 3, 0, 0, 0), none, none, some (.if_icmp .ge 10, 3, 0, 0, 0), none, none, some (.aload_n 0, 1, 0, 0, 0), some (.getfield 52, 3, 5, 13, 187), none, none, some (.iload_n 1, 1, 0, 0, 0)],
  [some (.iload_n 2, 1, 0, 0, 0), some (.iastore, 1, 0, 0, 0), some (.return_, 1, 0, 0, 0)]], 1, 2, 1, 5)
/-- FallMarket$Text.addFruit([I)V -/
def jm_M52 : jm_M := (⟨"FallMarket$Text", "addFruit", "([I)V"⟩, prog_7_method_7_code, 2, none, [[some (.aload_n 0, 1, 0, 0, 0), some (.getfield 9, 3, 5, 0, 142), none, none, some (.bipush 7, 2, 0, 0, 0), none, some (.if_icmp .ge 55, 3, 0, 0, 0), none, none, some (.aload_n 1, 1, 0, 0, 0), some (.arraylength, 1, 0, 0, 0), some (.iconst 3, 1, 0, 0, 0), some (.if_icmp .lt 49, 3, 0, 0, 0), none, none, some (.aload_n 0, 1, 0, 0, 0)],
  [some (.getfield 15, 3, 5, 1, 149), none, none, some (.aload_n 0, 1, 0, 0, 0), some (.getfield 9, 3, 5, 0, 142), none, none, some (.aload_n 1, 1, 0, 0, 0), some (.iconst 0, 1, 0, 0, 0), some (.iaload, 1, 0, 0, 0), some (.iastore, 1, 0, 0, 0), some (.aload_n 0, 1, 0, 0, 0), some (.getfield 19, 3, 5, 2, 154), none, none, some (.aload_n 0, 1, 0, 0, 0)],
  [some (.getfield 9, 3, 5, 0, 142), none, none, some (.aload_n 1, 1, 0, 0, 0), some (.iconst 1, 1, 0, 0, 0), some (.iaload, 1, 0, 0, 0), some (.iastore, 1, 0, 0, 0), some (.aload_n 0, 1, 0, 0, 0), some (.getfield 22, 3, 5, 3, 158), none, none, some (.aload_n 0, 1, 0, 0, 0), some (.getfield 9, 3, 5, 0, 142), none, none, some (.aload_n 1, 1, 0, 0, 0)],
  [some (.iconst 2, 1, 0, 0, 0), some (.iaload, 1, 0, 0, 0), some (.iastore, 1, 0, 0, 0), some (.aload_n 0, 1, 0, 0, 0), some (.dup, 1, 0, 0, 0), some (.getfield 9, 3, 5, 0, 142), none, none, some (.iconst 1, 1, 0, 0, 0), some (.iadd, 1, 0, 0, 0), some (.putfield 9, 3, 5, 0, 142), none, none, some (.return_, 1, 0, 0, 0)]], 1, 1, 1, 5)
/-- FallMarket$Text.addBuyer([I)V -/
def jm_M53 : jm_M := (⟨"FallMarket$Text", "addBuyer", "([I)V"⟩, prog_7_method_8_code, 2, none, [[some (.aload_n 0, 1, 0, 0, 0), some (.getfield 28, 3, 5, 5, 164), none, none, some (.iconst 4, 1, 0, 0, 0), some (.if_icmp .ge 55, 3, 0, 0, 0), none, none, some (.aload_n 1, 1, 0, 0, 0), some (.arraylength, 1, 0, 0, 0), some (.iconst 3, 1, 0, 0, 0), some (.if_icmp .lt 49, 3, 0, 0, 0), none, none, some (.aload_n 0, 1, 0, 0, 0), some (.getfield 31, 3, 5, 6, 168)],
  [none, none, some (.aload_n 0, 1, 0, 0, 0), some (.getfield 28, 3, 5, 5, 164), none, none, some (.aload_n 1, 1, 0, 0, 0), some (.iconst 0, 1, 0, 0, 0), some (.iaload, 1, 0, 0, 0), some (.iastore, 1, 0, 0, 0), some (.aload_n 0, 1, 0, 0, 0), some (.getfield 34, 3, 5, 7, 170), none, none, some (.aload_n 0, 1, 0, 0, 0), some (.getfield 28, 3, 5, 5, 164)],
  [none, none, some (.aload_n 1, 1, 0, 0, 0), some (.iconst 1, 1, 0, 0, 0), some (.iaload, 1, 0, 0, 0), some (.iastore, 1, 0, 0, 0), some (.aload_n 0, 1, 0, 0, 0), some (.getfield 37, 3, 5, 8, 173), none, none, some (.aload_n 0, 1, 0, 0, 0), some (.getfield 28, 3, 5, 5, 164), none, none, some (.aload_n 1, 1, 0, 0, 0), some (.iconst 2, 1, 0, 0, 0)],
  [some (.iaload, 1, 0, 0, 0), some (.iastore, 1, 0, 0, 0), some (.aload_n 0, 1, 0, 0, 0), some (.dup, 1, 0, 0, 0), some (.getfield 28, 3, 5, 5, 164), none, none, some (.iconst 1, 1, 0, 0, 0), some (.iadd, 1, 0, 0, 0), some (.putfield 28, 3, 5, 5, 164), none, none, some (.return_, 1, 0, 0, 0)]], 1, 1, 1, 5)
/-- FallMarket$Tokens.<init>()V -/
def jm_M54 : jm_M := (⟨"FallMarket$Tokens", "<init>", "()V"⟩, prog_8_method_1_code, 6, none, [[some (.aload_n 0, 1, 0, 0, 0), some (.invokespecial 3, 3, 0, 2, 235), none, none, some (.aload_n 0, 1, 0, 0, 0), some (.sipush 401, 3, 0, 0, 0), none, none, some (.newarray .int, 2, 0, 0, 0), none, some (.putfield 9, 3, 6, 13000, 289), none, none, some (.aload_n 0, 1, 0, 0, 0), some (.sipush 401, 3, 0, 0, 0)],
  [none, some (.newarray .int, 2, 0, 0, 0), none, some (.putfield 15, 3, 6, 13001, 290), none, none, some (.aload_n 0, 1, 0, 0, 0), some (.sipush 401, 3, 0, 0, 0), none, none, some (.newarray .long, 2, 0, 0, 0), none, some (.putfield 18, 3, 6, 13002, 291), none, none, some (.aload_n 0, 1, 0, 0, 0)],
  [some (.bipush 23, 2, 0, 0, 0), none, some (.newarray .long, 2, 0, 0, 0), none, some (.putfield 22, 3, 6, 13003, 292), none, none, some (.iconst 0, 1, 0, 0, 0), some (.istore_n 1, 1, 0, 0, 0), some (.lconst 0, 1, 0, 0, 0), some (.lstore_n 2, 1, 0, 0, 0), some (.iconst 0, 1, 0, 0, 0), some (.istore 4, 2, 0, 0, 0), none, some (.iload 4, 2, 0, 0, 0)],
  [some (.ldc 25, 2, 0, 1, 0), none, some (.invokevirtual 27, 3, 244, 0, 237), none, none, some (.if_icmp .ge 53, 3, 0, 0, 0), none, none, some (.iload_n 1, 1, 0, 0, 0), some (.bipush 23, 2, 0, 0, 0), none, some (.if_icmp .ge 47, 3, 0, 0, 0), none, none, some (.ldc 25, 2, 0, 1, 0)],
  [some (.iload 4, 2, 0, 0, 0), none, some (.invokevirtual 33, 3, 245, 0, 247), none, none, some (.istore 5, 2, 0, 0, 0), none, some (.iload 5, 2, 0, 0, 0), none, some (.bipush 32, 2, 0, 0, 0), none, some (.if_icmp .ne 18, 3, 0, 0, 0), none, none, some (.aload_n 0, 1, 0, 0, 0), some (.getfield 22, 3, 6, 3, 292)],
  [none, none, some (.iload_n 1, 1, 0, 0, 0), some (.lload_n 2, 1, 0, 0, 0), some (.lastore, 1, 0, 0, 0), some (.iinc 1 1, 3, 0, 0, 0), none, none, some (.lconst 0, 1, 0, 0, 0), some (.lstore_n 2, 1, 0, 0, 0), some (.goto 10, 3, 0, 0, 0), none, none, some (.lload_n 2, 1, 0, 0, 0), some (.iload 5, 2, 0, 0, 0)],
  [some (.invokestatic 37, 3, 63, 0, 285), none, none, some (.lstore_n 2, 1, 0, 0, 0), some (.iinc 4 1, 3, 0, 0, 0), none, none, some (.goto (-57), 3, 0, 0, 0), none, none, some (.return_, 1, 0, 0, 0)]], 1, 0, 2, 6)
/-- FallMarket$Tokens.kindAt(I)I -/
def jm_M55 : jm_M := (⟨"FallMarket$Tokens", "kindAt", "(I)I"⟩, prog_8_method_2_code, 2, some .int, [[some (.iload_n 1, 1, 0, 0, 0), some (.ifCond .lt 19, 3, 0, 0, 0), none, none, some (.iload_n 1, 1, 0, 0, 0), some (.sipush 400, 3, 0, 0, 0), none, none, some (.if_icmp .gt 12, 3, 0, 0, 0), none, none, some (.aload_n 0, 1, 0, 0, 0), some (.getfield 9, 3, 6, 0, 289), none, none, some (.iload_n 1, 1, 0, 0, 0)],
  [some (.iaload, 1, 0, 0, 0), some (.goto 5, 3, 0, 0, 0), none, none, some (.bipush 26, 2, 0, 0, 0), none, some (.ireturn, 1, 0, 0, 0)]], 1, 1, 1, 6)
/-- FallMarket$Tokens.startAt(I)I -/
def jm_M56 : jm_M := (⟨"FallMarket$Tokens", "startAt", "(I)I"⟩, prog_8_method_3_code, 2, some .int, [[some (.iload_n 1, 1, 0, 0, 0), some (.ifCond .lt 19, 3, 0, 0, 0), none, none, some (.iload_n 1, 1, 0, 0, 0), some (.sipush 400, 3, 0, 0, 0), none, none, some (.if_icmp .gt 12, 3, 0, 0, 0), none, none, some (.aload_n 0, 1, 0, 0, 0), some (.getfield 15, 3, 6, 1, 290), none, none, some (.iload_n 1, 1, 0, 0, 0)],
  [some (.iaload, 1, 0, 0, 0), some (.goto 4, 3, 0, 0, 0), none, none, some (.iconst 0, 1, 0, 0, 0), some (.ireturn, 1, 0, 0, 0)]], 1, 1, 1, 6)
/-- FallMarket$Tokens.valueAt(I)J -/
def jm_M57 : jm_M := (⟨"FallMarket$Tokens", "valueAt", "(I)J"⟩, prog_8_method_4_code, 2, some .long, [[some (.iload_n 1, 1, 0, 0, 0), some (.ifCond .lt 19, 3, 0, 0, 0), none, none, some (.iload_n 1, 1, 0, 0, 0), some (.sipush 400, 3, 0, 0, 0), none, none, some (.if_icmp .gt 12, 3, 0, 0, 0), none, none, some (.aload_n 0, 1, 0, 0, 0), some (.getfield 18, 3, 6, 2, 291), none, none, some (.iload_n 1, 1, 0, 0, 0)],
  [some (.laload, 1, 0, 0, 0), some (.goto 4, 3, 0, 0, 0), none, none, some (.lconst 0, 1, 0, 0, 0), some (.lreturn, 1, 0, 0, 0)]], 1, 1, 1, 6)
/-- FallMarket$Tokens.cut([BI)V -/
def jm_M58 : jm_M := (⟨"FallMarket$Tokens", "cut", "([BI)V"⟩, prog_8_method_5_code, 7, none, [[some (.iload_n 2, 1, 0, 0, 0), some (.aload_n 1, 1, 0, 0, 0), some (.arraylength, 1, 0, 0, 0), some (.invokestatic 41, 3, 243, 0, 610), none, none, some (.istore_n 3, 1, 0, 0, 0), some (.iconst 0, 1, 0, 0, 0), some (.istore 4, 2, 0, 0, 0), none, some (.iconst 0, 1, 0, 0, 0), some (.istore 5, 2, 0, 0, 0), none, some (.iconst 0, 1, 0, 0, 0), some (.istore 6, 2, 0, 0, 0)],
  [some (.iload 6, 2, 0, 0, 0), none, some (.sipush 400, 3, 0, 0, 0), none, none, some (.if_icmp .gt 88, 3, 0, 0, 0), none, none, some (.iload 5, 2, 0, 0, 0), none, some (.ifCond .ne 83, 3, 0, 0, 0), none, none, some (.iload 4, 2, 0, 0, 0), none, some (.iload_n 3, 1, 0, 0, 0)],
  [some (.if_icmp .ge 19, 3, 0, 0, 0), none, none, some (.aload_n 1, 1, 0, 0, 0), some (.iload 4, 2, 0, 0, 0), none, some (.baload, 1, 0, 0, 0), some (.invokestatic 47, 3, 64, 0, 611), none, none, some (.ifCond .eq 9, 3, 0, 0, 0), none, none, some (.iinc 4 1, 3, 0, 0, 0)],
  [some (.goto (-19), 3, 0, 0, 0), none, none, some (.aload_n 0, 1, 0, 0, 0), some (.getfield 15, 3, 6, 1, 290), none, none, some (.iload 6, 2, 0, 0, 0), none, some (.iload 4, 2, 0, 0, 0), none, some (.iastore, 1, 0, 0, 0), some (.aload_n 0, 1, 0, 0, 0), some (.iload 6, 2, 0, 0, 0), none, some (.aload_n 1, 1, 0, 0, 0)],
  [some (.iload 4, 2, 0, 0, 0), none, some (.iload_n 3, 1, 0, 0, 0), some (.invokevirtual 51, 3, 59, 0, 614), none, none, some (.istore 4, 2, 0, 0, 0), none, some (.aload_n 0, 1, 0, 0, 0), some (.getfield 9, 3, 6, 0, 289), none, none, some (.iload 6, 2, 0, 0, 0), none, some (.iaload, 1, 0, 0, 0), some (.bipush 26, 2, 0, 0, 0)],
  [none, some (.if_icmp .eq 15, 3, 0, 0, 0), none, none, some (.aload_n 0, 1, 0, 0, 0), some (.getfield 9, 3, 6, 0, 289), none, none, some (.iload 6, 2, 0, 0, 0), none, some (.iaload, 1, 0, 0, 0), some (.bipush 25, 2, 0, 0, 0), none, some (.if_icmp .ne 7, 3, 0, 0, 0)],
  [some (.iconst 1, 1, 0, 0, 0), some (.goto 4, 3, 0, 0, 0), none, none, some (.iconst 0, 1, 0, 0, 0), some (.istore 5, 2, 0, 0, 0), none, some (.iinc 6 1, 3, 0, 0, 0), none, none, some (.goto (-90), 3, 0, 0, 0), none, none, some (.return_, 1, 0, 0, 0)]], 1, 2, 1, 6)
/-- FallMarket$Tokens.cutOne(I[BII)I -/
def jm_M59 : jm_M := (⟨"FallMarket$Tokens", "cutOne", "(I[BII)I"⟩, prog_8_method_6_code, 5, some .int, [[some (.iload_n 3, 1, 0, 0, 0), some (.iload 4, 2, 0, 0, 0), none, some (.if_icmp .lt 13, 3, 0, 0, 0), none, none, some (.aload_n 0, 1, 0, 0, 0), some (.getfield 9, 3, 6, 0, 289), none, none, some (.iload_n 1, 1, 0, 0, 0), some (.bipush 26, 2, 0, 0, 0), none, some (.iastore, 1, 0, 0, 0), some (.iload_n 3, 1, 0, 0, 0), some (.ireturn, 1, 0, 0, 0)],
  [some (.aload_n 2, 1, 0, 0, 0), some (.iload_n 3, 1, 0, 0, 0), some (.baload, 1, 0, 0, 0), some (.invokestatic 55, 3, 65, 0, 618), none, none, some (.ifCond .eq 13, 3, 0, 0, 0), none, none, some (.aload_n 0, 1, 0, 0, 0), some (.iload_n 1, 1, 0, 0, 0), some (.aload_n 2, 1, 0, 0, 0), some (.iload_n 3, 1, 0, 0, 0), some (.iload 4, 2, 0, 0, 0), none, some (.invokevirtual 58, 3, 60, 0, 621)],
  [none, none, some (.ireturn, 1, 0, 0, 0), some (.aload_n 2, 1, 0, 0, 0), some (.iload_n 3, 1, 0, 0, 0), some (.baload, 1, 0, 0, 0), some (.invokestatic 61, 3, 66, 0, 629), none, none, some (.ifCond .eq 13, 3, 0, 0, 0), none, none, some (.aload_n 0, 1, 0, 0, 0), some (.iload_n 1, 1, 0, 0, 0), some (.aload_n 2, 1, 0, 0, 0), some (.iload_n 3, 1, 0, 0, 0)],
  [some (.iload 4, 2, 0, 0, 0), none, some (.invokevirtual 64, 3, 61, 0, 632), none, none, some (.ireturn, 1, 0, 0, 0), some (.aload_n 0, 1, 0, 0, 0), some (.getfield 9, 3, 6, 0, 289), none, none, some (.iload_n 1, 1, 0, 0, 0), some (.aload_n 2, 1, 0, 0, 0), some (.iload_n 3, 1, 0, 0, 0), some (.baload, 1, 0, 0, 0), some (.invokestatic 67, 3, 67, 0, 637)],
  [none, some (.ifCond .eq 9, 3, 0, 0, 0), none, none, some (.aload_n 2, 1, 0, 0, 0), some (.iload_n 3, 1, 0, 0, 0), some (.baload, 1, 0, 0, 0), some (.goto 5, 3, 0, 0, 0), none, none, some (.bipush 25, 2, 0, 0, 0), none, some (.iastore, 1, 0, 0, 0), some (.iload_n 3, 1, 0, 0, 0), some (.iconst 1, 1, 0, 0, 0), some (.iadd, 1, 0, 0, 0)],
  [some (.ireturn, 1, 0, 0, 0)]], 1, 4, 1, 6)
/-- FallMarket$Tokens.cutWord(I[BII)I -/
def jm_M60 : jm_M := (⟨"FallMarket$Tokens", "cutWord", "(I[BII)I"⟩, prog_8_method_7_code, 8, some .int, [[some (.iload_n 3, 1, 0, 0, 0), some (.istore 5, 2, 0, 0, 0), none, some (.lconst 0, 1, 0, 0, 0), some (.lstore 6, 2, 0, 0, 0), none, some (.iload 5, 2, 0, 0, 0), none, some (.iload 4, 2, 0, 0, 0), none, some (.if_icmp .ge 30, 3, 0, 0, 0), none, none, some (.aload_n 2, 1, 0, 0, 0), some (.iload 5, 2, 0, 0, 0)],
  [some (.baload, 1, 0, 0, 0), some (.invokestatic 55, 3, 65, 0, 618), none, none, some (.ifCond .eq 20, 3, 0, 0, 0), none, none, some (.lload 6, 2, 0, 0, 0), none, some (.aload_n 2, 1, 0, 0, 0), some (.iload 5, 2, 0, 0, 0), none, some (.baload, 1, 0, 0, 0), some (.invokestatic 37, 3, 63, 0, 285)],
  [some (.lstore 6, 2, 0, 0, 0), none, some (.iinc 5 1, 3, 0, 0, 0), none, none, some (.goto (-31), 3, 0, 0, 0), none, none, some (.aload_n 0, 1, 0, 0, 0), some (.getfield 18, 3, 6, 2, 291), none, none, some (.iload_n 1, 1, 0, 0, 0), some (.lload 6, 2, 0, 0, 0), none, some (.lastore, 1, 0, 0, 0)],
  [some (.aload_n 0, 1, 0, 0, 0), some (.getfield 9, 3, 6, 0, 289), none, none, some (.iload_n 1, 1, 0, 0, 0), some (.iload 5, 2, 0, 0, 0), none, some (.iload_n 3, 1, 0, 0, 0), some (.isub, 1, 0, 0, 0), some (.bipush 8, 2, 0, 0, 0), none, some (.if_icmp .le 8, 3, 0, 0, 0), none, none, some (.bipush 25, 2, 0, 0, 0)],
  [some (.goto 9, 3, 0, 0, 0), none, none, some (.aload_n 0, 1, 0, 0, 0), some (.lload 6, 2, 0, 0, 0), none, some (.invokevirtual 70, 3, 62, 0, 625), none, none, some (.iastore, 1, 0, 0, 0), some (.iload 5, 2, 0, 0, 0), none, some (.ireturn, 1, 0, 0, 0)]], 1, 4, 1, 6)
/-- FallMarket$Tokens.cutNumber(I[BII)I -/
def jm_M61 : jm_M := (⟨"FallMarket$Tokens", "cutNumber", "(I[BII)I"⟩, prog_8_method_8_code, 8, some .int, [[some (.iload_n 3, 1, 0, 0, 0), some (.istore 5, 2, 0, 0, 0), none, some (.lconst 0, 1, 0, 0, 0), some (.lstore 6, 2, 0, 0, 0), none, some (.iload 5, 2, 0, 0, 0), none, some (.iload 4, 2, 0, 0, 0), none, some (.if_icmp .ge 36, 3, 0, 0, 0), none, none, some (.aload_n 2, 1, 0, 0, 0), some (.iload 5, 2, 0, 0, 0)],
  [some (.baload, 1, 0, 0, 0), some (.invokestatic 61, 3, 66, 0, 629), none, none, some (.ifCond .eq 26, 3, 0, 0, 0), none, none, some (.lload 6, 2, 0, 0, 0), none, some (.ldc2_w 74, 3, 10, 0, 636), none, none, some (.lmul, 1, 0, 0, 0), some (.aload_n 2, 1, 0, 0, 0), some (.iload 5, 2, 0, 0, 0)],
  [some (.baload, 1, 0, 0, 0), some (.bipush 48, 2, 0, 0, 0), none, some (.isub, 1, 0, 0, 0), some (.i2l, 1, 0, 0, 0), some (.ladd, 1, 0, 0, 0), some (.lstore 6, 2, 0, 0, 0), none, some (.iinc 5 1, 3, 0, 0, 0), none, none, some (.goto (-37), 3, 0, 0, 0), none, none, some (.aload_n 0, 1, 0, 0, 0), some (.getfield 18, 3, 6, 2, 291)],
  [none, none, some (.iload_n 1, 1, 0, 0, 0), some (.lload 6, 2, 0, 0, 0), none, some (.lastore, 1, 0, 0, 0), some (.aload_n 0, 1, 0, 0, 0), some (.getfield 9, 3, 6, 0, 289), none, none, some (.iload_n 1, 1, 0, 0, 0), some (.iload 5, 2, 0, 0, 0), none, some (.iload_n 3, 1, 0, 0, 0), some (.isub, 1, 0, 0, 0), some (.iconst 4, 1, 0, 0, 0)],
  [some (.if_icmp .le 8, 3, 0, 0, 0), none, none, some (.bipush 25, 2, 0, 0, 0), none, some (.goto 5, 3, 0, 0, 0), none, none, some (.bipush 24, 2, 0, 0, 0), none, some (.iastore, 1, 0, 0, 0), some (.iload 5, 2, 0, 0, 0), none, some (.ireturn, 1, 0, 0, 0)]], 1, 4, 1, 6)
/-- FallMarket$Tokens.wordKind(J)I -/
def jm_M62 : jm_M := (⟨"FallMarket$Tokens", "wordKind", "(J)I"⟩, prog_8_method_9_code, 4, some .int, [[some (.iconst 0, 1, 0, 0, 0), some (.istore_n 3, 1, 0, 0, 0), some (.iload_n 3, 1, 0, 0, 0), some (.bipush 23, 2, 0, 0, 0), none, some (.if_icmp .ge 22, 3, 0, 0, 0), none, none, some (.aload_n 0, 1, 0, 0, 0), some (.getfield 22, 3, 6, 3, 292), none, none, some (.iload_n 3, 1, 0, 0, 0), some (.laload, 1, 0, 0, 0), some (.lload_n 1, 1, 0, 0, 0), some (.lcmp, 1, 0, 0, 0)],
  [some (.ifCond .ne 5, 3, 0, 0, 0), none, none, some (.iload_n 3, 1, 0, 0, 0), some (.ireturn, 1, 0, 0, 0), some (.iinc 3 1, 3, 0, 0, 0), none, none, some (.goto (-22), 3, 0, 0, 0), none, none, some (.bipush 23, 2, 0, 0, 0), none, some (.ireturn, 1, 0, 0, 0)]], 1, 1, 1, 6)
/-- FallMarket$Tokens.withLetter(JI)J -/
def jm_M63 : jm_M := (⟨"FallMarket$Tokens", "withLetter", "(JI)J"⟩, prog_8_method_10_code, 3, some .long, [[some (.lload_n 0, 1, 0, 0, 0), some (.ldc2_w 76, 3, 27, 0, 288), none, none, some (.lmul, 1, 0, 0, 0), some (.iload_n 2, 1, 0, 0, 0), some (.bipush 97, 2, 0, 0, 0), none, some (.isub, 1, 0, 0, 0), some (.iconst 1, 1, 0, 0, 0), some (.iadd, 1, 0, 0, 0), some (.i2l, 1, 0, 0, 0), some (.ladd, 1, 0, 0, 0), some (.lreturn, 1, 0, 0, 0)]], 1, 2, 0, 6)
/-- FallMarket$Tokens.isBlank(I)Z -/
def jm_M64 : jm_M := (⟨"FallMarket$Tokens", "isBlank", "(I)Z"⟩, prog_8_method_11_code, 1, some .boolean, [[some (.iload_n 0, 1, 0, 0, 0), some (.bipush 9, 2, 0, 0, 0), none, some (.if_icmp .eq 21, 3, 0, 0, 0), none, none, some (.iload_n 0, 1, 0, 0, 0), some (.bipush 10, 2, 0, 0, 0), none, some (.if_icmp .eq 15, 3, 0, 0, 0), none, none, some (.iload_n 0, 1, 0, 0, 0), some (.bipush 13, 2, 0, 0, 0), none, some (.if_icmp .eq 9, 3, 0, 0, 0)],
  [none, none, some (.iload_n 0, 1, 0, 0, 0), some (.bipush 32, 2, 0, 0, 0), none, some (.if_icmp .ne 7, 3, 0, 0, 0), none, none, some (.iconst 1, 1, 0, 0, 0), some (.goto 4, 3, 0, 0, 0), none, none, some (.iconst 0, 1, 0, 0, 0), some (.ireturn, 1, 0, 0, 0)]], 1, 1, 0, 6)
/-- FallMarket$Tokens.isLetter(I)Z -/
def jm_M65 : jm_M := (⟨"FallMarket$Tokens", "isLetter", "(I)Z"⟩, prog_8_method_12_code, 1, some .boolean, [[some (.iload_n 0, 1, 0, 0, 0), some (.bipush 97, 2, 0, 0, 0), none, some (.if_icmp .lt 13, 3, 0, 0, 0), none, none, some (.iload_n 0, 1, 0, 0, 0), some (.bipush 122, 2, 0, 0, 0), none, some (.if_icmp .gt 7, 3, 0, 0, 0), none, none, some (.iconst 1, 1, 0, 0, 0), some (.goto 4, 3, 0, 0, 0)],
  [some (.iconst 0, 1, 0, 0, 0), some (.ireturn, 1, 0, 0, 0)]], 1, 1, 0, 6)
/-- FallMarket$Tokens.isDigit(I)Z -/
def jm_M66 : jm_M := (⟨"FallMarket$Tokens", "isDigit", "(I)Z"⟩, prog_8_method_13_code, 1, some .boolean, [[some (.iload_n 0, 1, 0, 0, 0), some (.bipush 48, 2, 0, 0, 0), none, some (.if_icmp .lt 13, 3, 0, 0, 0), none, none, some (.iload_n 0, 1, 0, 0, 0), some (.bipush 57, 2, 0, 0, 0), none, some (.if_icmp .gt 7, 3, 0, 0, 0), none, none, some (.iconst 1, 1, 0, 0, 0), some (.goto 4, 3, 0, 0, 0)],
  [some (.iconst 0, 1, 0, 0, 0), some (.ireturn, 1, 0, 0, 0)]], 1, 1, 0, 6)
/-- FallMarket$Tokens.isSign(I)Z -/
def jm_M67 : jm_M := (⟨"FallMarket$Tokens", "isSign", "(I)Z"⟩, prog_8_method_14_code, 1, some .boolean, [[some (.iload_n 0, 1, 0, 0, 0), some (.tableswitch 105 40 61 #[103, 103, 103, 103, 105, 103, 105, 103, 105, 105, 105, 105, 105, 105, 105, 105, 105, 105, 105, 103, 103, 103], 103, 0, 0, 0)],
  [],
  [],
  [],
  [],
  [],
  [none, none, none, none, none, none, none, none, some (.iconst 1, 1, 0, 0, 0), some (.ireturn, 1, 0, 0, 0), some (.iconst 0, 1, 0, 0, 0), some (.ireturn, 1, 0, 0, 0)]], 1, 1, 0, 6)
/-- FallMarket$Told.<init>()V -/
def jm_M68 : jm_M := (⟨"FallMarket$Told", "<init>", "()V"⟩, prog_9_method_1_code, 1, none, [[some (.aload_n 0, 1, 0, 0, 0), some (.invokespecial 3, 3, 0, 2, 472), none, none, some (.aload_n 0, 1, 0, 0, 0), some (.bipush 7, 2, 0, 0, 0), none, some (.newarray .int, 2, 0, 0, 0), none, some (.putfield 9, 3, 7, 13000, 473), none, none, some (.aload_n 0, 1, 0, 0, 0), some (.bipush 7, 2, 0, 0, 0), none, some (.newarray .int, 2, 0, 0, 0)],
  [none, some (.putfield 15, 3, 7, 13001, 474), none, none, some (.aload_n 0, 1, 0, 0, 0), some (.iconst 0, 1, 0, 0, 0), some (.putfield 18, 3, 7, 2, 475), none, none, some (.return_, 1, 0, 0, 0)]], 1, 0, 2, 7)
/-- FallMarket$Told.add(II)I -/
def jm_M69 : jm_M := (⟨"FallMarket$Told", "add", "(II)I"⟩, prog_9_method_2_code, 3, some .int, [[some (.aload_n 0, 1, 0, 0, 0), some (.getfield 18, 3, 7, 2, 475), none, none, some (.bipush 7, 2, 0, 0, 0), none, some (.if_icmp .lt 5, 3, 0, 0, 0), none, none, some (.iconst (-1), 1, 0, 0, 0), some (.ireturn, 1, 0, 0, 0), some (.aload_n 0, 1, 0, 0, 0), some (.getfield 9, 3, 7, 0, 473), none, none, some (.aload_n 0, 1, 0, 0, 0)],
  [some (.getfield 18, 3, 7, 2, 475), none, none, some (.iload_n 1, 1, 0, 0, 0), some (.iastore, 1, 0, 0, 0), some (.aload_n 0, 1, 0, 0, 0), some (.getfield 15, 3, 7, 1, 474), none, none, some (.aload_n 0, 1, 0, 0, 0), some (.getfield 18, 3, 7, 2, 475), none, none, some (.iload_n 2, 1, 0, 0, 0), some (.iastore, 1, 0, 0, 0), some (.aload_n 0, 1, 0, 0, 0)],
  [some (.dup, 1, 0, 0, 0), some (.getfield 18, 3, 7, 2, 475), none, none, some (.iconst 1, 1, 0, 0, 0), some (.iadd, 1, 0, 0, 0), some (.putfield 18, 3, 7, 2, 475), none, none, some (.aload_n 0, 1, 0, 0, 0), some (.getfield 18, 3, 7, 2, 475), none, none, some (.iconst 1, 1, 0, 0, 0), some (.isub, 1, 0, 0, 0), some (.ireturn, 1, 0, 0, 0)]], 1, 2, 1, 7)
/-- FallMarket$Told.rowCount(LFallMarket$Text;I)I -/
def jm_M70 : jm_M := (⟨"FallMarket$Told", "rowCount", "(LFallMarket$Text;I)I"⟩, prog_9_method_3_code, 6, some .int, [[some (.iconst 1, 1, 0, 0, 0), some (.istore_n 3, 1, 0, 0, 0), some (.iconst 0, 1, 0, 0, 0), some (.istore 4, 2, 0, 0, 0), none, some (.iload 4, 2, 0, 0, 0), none, some (.iload_n 2, 1, 0, 0, 0), some (.if_icmp .ge 44, 3, 0, 0, 0), none, none, some (.iload 4, 2, 0, 0, 0), none, some (.bipush 7, 2, 0, 0, 0), none, some (.if_icmp .ge 37, 3, 0, 0, 0)],
  [none, none, some (.aload_n 0, 1, 0, 0, 0), some (.aload_n 1, 1, 0, 0, 0), some (.iload 4, 2, 0, 0, 0), none, some (.invokevirtual 22, 3, 71, 0, 990), none, none, some (.aload_n 0, 1, 0, 0, 0), some (.iload 4, 2, 0, 0, 0), none, some (.invokevirtual 26, 3, 75, 0, 998), none, none, some (.isub, 1, 0, 0, 0)],
  [some (.istore 5, 2, 0, 0, 0), none, some (.iload 5, 2, 0, 0, 0), none, some (.ifCond .gt 5, 3, 0, 0, 0), none, none, some (.iconst 0, 1, 0, 0, 0), some (.ireturn, 1, 0, 0, 0), some (.iload_n 3, 1, 0, 0, 0), some (.iload 5, 2, 0, 0, 0), none, some (.imul, 1, 0, 0, 0), some (.istore_n 3, 1, 0, 0, 0), some (.iinc 4 1, 3, 0, 0, 0)],
  [none, some (.goto (-44), 3, 0, 0, 0), none, none, some (.iload_n 3, 1, 0, 0, 0), some (.ireturn, 1, 0, 0, 0)]], 1, 2, 1, 7)
/-- FallMarket$Told.fitting(LFallMarket$Text;I)I -/
def jm_M71 : jm_M := (⟨"FallMarket$Told", "fitting", "(LFallMarket$Text;I)I"⟩, prog_9_method_4_code, 5, some .int, [[some (.iconst 0, 1, 0, 0, 0), some (.istore_n 3, 1, 0, 0, 0), some (.iconst 0, 1, 0, 0, 0), some (.istore 4, 2, 0, 0, 0), none, some (.iload 4, 2, 0, 0, 0), none, some (.aload_n 1, 1, 0, 0, 0), some (.getfield 30, 3, 5, 0, 146), none, none, some (.if_icmp .ge 23, 3, 0, 0, 0), none, none, some (.aload_n 0, 1, 0, 0, 0), some (.aload_n 1, 1, 0, 0, 0)],
  [some (.iload 4, 2, 0, 0, 0), none, some (.iload_n 2, 1, 0, 0, 0), some (.invokevirtual 35, 3, 74, 0, 994), none, none, some (.ifCond .eq 6, 3, 0, 0, 0), none, none, some (.iinc 3 1, 3, 0, 0, 0), none, none, some (.iinc 4 1, 3, 0, 0, 0), none, none, some (.goto (-26), 3, 0, 0, 0)],
  [none, none, some (.iload_n 3, 1, 0, 0, 0), some (.ireturn, 1, 0, 0, 0)]], 1, 2, 1, 7)
/-- FallMarket$Told.firstFitting(LFallMarket$Text;I)I -/
def jm_M72 : jm_M := (⟨"FallMarket$Told", "firstFitting", "(LFallMarket$Text;I)I"⟩, prog_9_method_5_code, 4, some .int, [[some (.iconst 0, 1, 0, 0, 0), some (.istore_n 3, 1, 0, 0, 0), some (.iload_n 3, 1, 0, 0, 0), some (.aload_n 1, 1, 0, 0, 0), some (.getfield 30, 3, 5, 0, 146), none, none, some (.if_icmp .ge 21, 3, 0, 0, 0), none, none, some (.aload_n 0, 1, 0, 0, 0), some (.aload_n 1, 1, 0, 0, 0), some (.iload_n 3, 1, 0, 0, 0), some (.iload_n 2, 1, 0, 0, 0), some (.invokevirtual 35, 3, 74, 0, 994)],
  [none, some (.ifCond .eq 5, 3, 0, 0, 0), none, none, some (.iload_n 3, 1, 0, 0, 0), some (.ireturn, 1, 0, 0, 0), some (.iinc 3 1, 3, 0, 0, 0), none, none, some (.goto (-23), 3, 0, 0, 0), none, none, some (.bipush (-2), 2, 0, 0, 0), none, some (.ireturn, 1, 0, 0, 0)]], 1, 2, 1, 7)
/-- FallMarket$Told.widest(LFallMarket$Text;I)I -/
def jm_M73 : jm_M := (⟨"FallMarket$Told", "widest", "(LFallMarket$Text;I)I"⟩, prog_9_method_6_code, 5, some .int, [[some (.iconst 0, 1, 0, 0, 0), some (.istore_n 3, 1, 0, 0, 0), some (.iconst 1, 1, 0, 0, 0), some (.istore 4, 2, 0, 0, 0), none, some (.iload 4, 2, 0, 0, 0), none, some (.iload_n 2, 1, 0, 0, 0), some (.if_icmp .ge 35, 3, 0, 0, 0), none, none, some (.iload 4, 2, 0, 0, 0), none, some (.bipush 7, 2, 0, 0, 0), none, some (.if_icmp .ge 28, 3, 0, 0, 0)],
  [none, none, some (.aload_n 0, 1, 0, 0, 0), some (.aload_n 1, 1, 0, 0, 0), some (.iload 4, 2, 0, 0, 0), none, some (.invokevirtual 22, 3, 71, 0, 990), none, none, some (.aload_n 0, 1, 0, 0, 0), some (.aload_n 1, 1, 0, 0, 0), some (.iload_n 3, 1, 0, 0, 0), some (.invokevirtual 22, 3, 71, 0, 990), none, none, some (.if_icmp .le 6, 3, 0, 0, 0)],
  [none, none, some (.iload 4, 2, 0, 0, 0), none, some (.istore_n 3, 1, 0, 0, 0), some (.iinc 4 1, 3, 0, 0, 0), none, none, some (.goto (-35), 3, 0, 0, 0), none, none, some (.iload_n 3, 1, 0, 0, 0), some (.ireturn, 1, 0, 0, 0)]], 1, 2, 1, 7)
/-- FallMarket$Told.isFit(LFallMarket$Text;II)Z -/
def jm_M74 : jm_M := (⟨"FallMarket$Told", "isFit", "(LFallMarket$Text;II)Z"⟩, prog_9_method_7_code, 4, some .boolean, [[some (.aload_n 1, 1, 0, 0, 0), some (.getfield 39, 3, 5, 2, 157), none, none, some (.iload_n 2, 1, 0, 0, 0), some (.iaload, 1, 0, 0, 0), some (.aload_n 0, 1, 0, 0, 0), some (.getfield 9, 3, 7, 0, 473), none, none, some (.iload_n 3, 1, 0, 0, 0), some (.iaload, 1, 0, 0, 0), some (.if_icmp .ne 22, 3, 0, 0, 0), none, none, some (.aload_n 1, 1, 0, 0, 0)],
  [some (.getfield 40, 3, 5, 4, 163), none, none, some (.iload_n 2, 1, 0, 0, 0), some (.iaload, 1, 0, 0, 0), some (.aload_n 0, 1, 0, 0, 0), some (.getfield 15, 3, 7, 1, 474), none, none, some (.iload_n 3, 1, 0, 0, 0), some (.iaload, 1, 0, 0, 0), some (.if_icmp .ne 7, 3, 0, 0, 0), none, none, some (.iconst 1, 1, 0, 0, 0), some (.goto 4, 3, 0, 0, 0)],
  [none, none, some (.iconst 0, 1, 0, 0, 0), some (.ireturn, 1, 0, 0, 0)]], 1, 3, 1, 7)
/-- FallMarket$Told.alikeAhead(I)I -/
def jm_M75 : jm_M := (⟨"FallMarket$Told", "alikeAhead", "(I)I"⟩, prog_9_method_8_code, 4, some .int, [[some (.iconst 0, 1, 0, 0, 0), some (.istore_n 2, 1, 0, 0, 0), some (.iconst 0, 1, 0, 0, 0), some (.istore_n 3, 1, 0, 0, 0), some (.iload_n 3, 1, 0, 0, 0), some (.iload_n 1, 1, 0, 0, 0), some (.if_icmp .ge 42, 3, 0, 0, 0), none, none, some (.aload_n 0, 1, 0, 0, 0), some (.getfield 9, 3, 7, 0, 473), none, none, some (.iload_n 3, 1, 0, 0, 0), some (.iaload, 1, 0, 0, 0), some (.aload_n 0, 1, 0, 0, 0)],
  [some (.getfield 9, 3, 7, 0, 473), none, none, some (.iload_n 1, 1, 0, 0, 0), some (.iaload, 1, 0, 0, 0), some (.if_icmp .ne 21, 3, 0, 0, 0), none, none, some (.aload_n 0, 1, 0, 0, 0), some (.getfield 15, 3, 7, 1, 474), none, none, some (.iload_n 3, 1, 0, 0, 0), some (.iaload, 1, 0, 0, 0), some (.aload_n 0, 1, 0, 0, 0), some (.getfield 15, 3, 7, 1, 474)],
  [none, none, some (.iload_n 1, 1, 0, 0, 0), some (.iaload, 1, 0, 0, 0), some (.if_icmp .ne 6, 3, 0, 0, 0), none, none, some (.iinc 2 1, 3, 0, 0, 0), none, none, some (.iinc 3 1, 3, 0, 0, 0), none, none, some (.goto (-41), 3, 0, 0, 0)],
  [some (.iload_n 2, 1, 0, 0, 0), some (.ireturn, 1, 0, 0, 0)]], 1, 1, 1, 7)
/-- FallMarket$Trail.<init>()V -/
def jm_M76 : jm_M := (⟨"FallMarket$Trail", "<init>", "()V"⟩, prog_10_method_1_code, 1, none, [[some (.aload_n 0, 1, 0, 0, 0), some (.invokespecial 3, 3, 0, 2, 455), none, none, some (.aload_n 0, 1, 0, 0, 0), some (.sipush 2400, 3, 0, 0, 0), none, none, some (.newarray .int, 2, 0, 0, 0), none, some (.putfield 11, 3, 8, 13000, 456), none, none, some (.aload_n 0, 1, 0, 0, 0), some (.iconst 0, 1, 0, 0, 0), some (.putfield 17, 3, 8, 1, 457)],
  [none, none, some (.aload_n 0, 1, 0, 0, 0), some (.iconst 0, 1, 0, 0, 0), some (.putfield 21, 3, 8, 2, 458), none, none, some (.return_, 1, 0, 0, 0)]], 1, 0, 2, 8)
/-- FallMarket$Trail.clear()V -/
def jm_M77 : jm_M := (⟨"FallMarket$Trail", "clear", "()V"⟩, prog_10_method_2_code, 1, none, [[some (.aload_n 0, 1, 0, 0, 0), some (.iconst 0, 1, 0, 0, 0), some (.putfield 17, 3, 8, 1, 457), none, none, some (.aload_n 0, 1, 0, 0, 0), some (.iconst 0, 1, 0, 0, 0), some (.putfield 21, 3, 8, 2, 458), none, none, some (.return_, 1, 0, 0, 0)]], 1, 0, 1, 8)
/-- FallMarket$Trail.remember(LFallMarket$Ground;)V -/
def jm_M78 : jm_M := (⟨"FallMarket$Trail", "remember", "(LFallMarket$Ground;)V"⟩, prog_10_method_3_code, 2, none, [[some (.aload_n 0, 1, 0, 0, 0), some (.getfield 21, 3, 8, 2, 458), none, none, some (.bipush 40, 2, 0, 0, 0), none, some (.if_icmp .ne 26, 3, 0, 0, 0), none, none, some (.aload_n 0, 1, 0, 0, 0), some (.aload_n 0, 1, 0, 0, 0), some (.getfield 17, 3, 8, 1, 457), none, none, some (.iconst 1, 1, 0, 0, 0), some (.iadd, 1, 0, 0, 0)],
  [some (.bipush 40, 2, 0, 0, 0), none, some (.irem, 1, 0, 0, 0), some (.putfield 17, 3, 8, 1, 457), none, none, some (.aload_n 0, 1, 0, 0, 0), some (.dup, 1, 0, 0, 0), some (.getfield 21, 3, 8, 2, 458), none, none, some (.iconst 1, 1, 0, 0, 0), some (.isub, 1, 0, 0, 0), some (.putfield 21, 3, 8, 2, 458)],
  [some (.aload_n 1, 1, 0, 0, 0), some (.aload_n 0, 1, 0, 0, 0), some (.getfield 11, 3, 8, 0, 456), none, none, some (.aload_n 0, 1, 0, 0, 0), some (.getfield 17, 3, 8, 1, 457), none, none, some (.aload_n 0, 1, 0, 0, 0), some (.getfield 21, 3, 8, 2, 458), none, none, some (.iadd, 1, 0, 0, 0), some (.bipush 40, 2, 0, 0, 0)],
  [some (.irem, 1, 0, 0, 0), some (.bipush 60, 2, 0, 0, 0), none, some (.imul, 1, 0, 0, 0), some (.invokevirtual 24, 3, 9, 0, 789), none, none, some (.aload_n 0, 1, 0, 0, 0), some (.dup, 1, 0, 0, 0), some (.getfield 21, 3, 8, 2, 458), none, none, some (.iconst 1, 1, 0, 0, 0), some (.iadd, 1, 0, 0, 0), some (.putfield 21, 3, 8, 2, 458)],
  [none, some (.return_, 1, 0, 0, 0)]], 1, 1, 1, 8)
/-- FallMarket$Trail.stepBack(LFallMarket$Ground;)Z -/
def jm_M79 : jm_M := (⟨"FallMarket$Trail", "stepBack", "(LFallMarket$Ground;)Z"⟩, prog_10_method_4_code, 2, some .boolean, [[some (.aload_n 0, 1, 0, 0, 0), some (.getfield 21, 3, 8, 2, 458), none, none, some (.ifCond .ne 5, 3, 0, 0, 0), none, none, some (.iconst 0, 1, 0, 0, 0), some (.ireturn, 1, 0, 0, 0), some (.aload_n 0, 1, 0, 0, 0), some (.dup, 1, 0, 0, 0), some (.getfield 21, 3, 8, 2, 458), none, none, some (.iconst 1, 1, 0, 0, 0), some (.isub, 1, 0, 0, 0)],
  [some (.putfield 21, 3, 8, 2, 458), none, none, some (.aload_n 1, 1, 0, 0, 0), some (.aload_n 0, 1, 0, 0, 0), some (.getfield 11, 3, 8, 0, 456), none, none, some (.aload_n 0, 1, 0, 0, 0), some (.getfield 17, 3, 8, 1, 457), none, none, some (.aload_n 0, 1, 0, 0, 0), some (.getfield 21, 3, 8, 2, 458)],
  [some (.iadd, 1, 0, 0, 0), some (.bipush 40, 2, 0, 0, 0), none, some (.irem, 1, 0, 0, 0), some (.bipush 60, 2, 0, 0, 0), none, some (.imul, 1, 0, 0, 0), some (.invokevirtual 28, 3, 10, 0, 856), none, none, some (.iconst 1, 1, 0, 0, 0), some (.ireturn, 1, 0, 0, 0)]], 1, 1, 1, 8)
def jm_M80_r0 : List (Option jm_I) := [some (.aload_n 0, 1, 0, 0, 0), some (.invokespecial 1, 3, 0, 2, 118), none, none, some (.aload_n 0, 1, 0, 0, 0), some (.sipush 2000, 3, 0, 0, 0), none, none, some (.newarray .byte, 2, 0, 0, 0), none, some (.putfield 9, 3, 9, 13000, 540), none, none, some (.aload_n 0, 1, 0, 0, 0), some (.iconst 0, 1, 0, 0, 0), some (.putfield 13, 3, 9, 1, 541)]
def jm_M80_r1 : List (Option jm_I) := [none, none, some (.aload_n 0, 1, 0, 0, 0), some (.iconst (-1), 1, 0, 0, 0), some (.putfield 17, 3, 9, 2, 542), none, none, some (.aload_n 0, 1, 0, 0, 0), some (.new 20, 3, 5, 0, 121), none, none, some (.dup, 1, 0, 0, 0), some (.invokespecial 22, 3, 46, 0, 123), none, none, some (.putfield 23, 3, 9, 3003, 543)]
def jm_M80_r2 : List (Option jm_I) := [none, none, some (.aload_n 0, 1, 0, 0, 0), some (.new 20, 3, 5, 0, 121), none, none, some (.dup, 1, 0, 0, 0), some (.invokespecial 22, 3, 46, 0, 123), none, none, some (.putfield 27, 3, 9, 3004, 544), none, none, some (.aload_n 0, 1, 0, 0, 0), some (.new 30, 3, 4, 0, 224)]
def jm_M80_r3 : List (Option jm_I) := [none, some (.dup, 1, 0, 0, 0), some (.aload_n 0, 1, 0, 0, 0), some (.getfield 27, 3, 9, 4, 544), none, none, some (.invokespecial 32, 3, 30, 0, 226), none, none, some (.putfield 35, 3, 9, 13005, 545), none, none, some (.aload_n 0, 1, 0, 0, 0), some (.new 39, 3, 2, 0, 334)]
def jm_M80_r4 : List (Option jm_I) := [some (.dup, 1, 0, 0, 0), some (.invokespecial 41, 3, 16, 1, 336), none, none, some (.putfield 42, 3, 9, 13006, 546), none, none, some (.aload_n 0, 1, 0, 0, 0), some (.new 46, 3, 0, 0, 349), none, none, some (.dup, 1, 0, 0, 0), some (.aload_n 0, 1, 0, 0, 0), some (.getfield 42, 3, 9, 6, 546)]
def jm_M80_r5 : List (Option jm_I) := [some (.invokespecial 48, 3, 0, 0, 351), none, none, some (.putfield 51, 3, 9, 13007, 547), none, none, some (.aload_n 0, 1, 0, 0, 0), some (.new 55, 3, 3, 0, 359), none, none, some (.dup, 1, 0, 0, 0), some (.aload_n 0, 1, 0, 0, 0), some (.getfield 42, 3, 9, 6, 546), none, none, some (.invokespecial 57, 3, 24, 0, 361)]
def jm_M80_r6 : List (Option jm_I) := [none, none, some (.putfield 58, 3, 9, 13008, 548), none, none, some (.aload_n 0, 1, 0, 0, 0), some (.new 62, 3, 1, 0, 380), none, none, some (.dup, 1, 0, 0, 0), some (.invokespecial 64, 3, 6, 1, 382), none, none, some (.putfield 65, 3, 9, 13009, 549)]
def jm_M80_r7 : List (Option jm_I) := [some (.aload_n 0, 1, 0, 0, 0), some (.new 62, 3, 1, 0, 380), none, none, some (.dup, 1, 0, 0, 0), some (.invokespecial 64, 3, 6, 1, 382), none, none, some (.putfield 69, 3, 9, 13010, 550), none, none, some (.aload_n 0, 1, 0, 0, 0), some (.new 72, 3, 8, 0, 450), none, none, some (.dup, 1, 0, 0, 0)]
def jm_M80_r8 : List (Option jm_I) := [some (.invokespecial 74, 3, 76, 1, 452), none, none, some (.putfield 75, 3, 9, 13011, 551), none, none, some (.aload_n 0, 1, 0, 0, 0), some (.sipush 180, 3, 0, 0, 0), none, none, some (.newarray .int, 2, 0, 0, 0), none, some (.putfield 79, 3, 9, 13012, 552), none, none, some (.aload_n 0, 1, 0, 0, 0)]
def jm_M80_r9 : List (Option jm_I) := [some (.iconst 3, 1, 0, 0, 0), some (.newarray .boolean, 2, 0, 0, 0), none, some (.putfield 83, 3, 9, 13013, 553), none, none, some (.aload_n 0, 1, 0, 0, 0), some (.new 87, 3, 7, 0, 467), none, none, some (.dup, 1, 0, 0, 0), some (.invokespecial 89, 3, 68, 1, 469), none, none, some (.putfield 90, 3, 9, 13014, 554)]
def jm_M80_r10 : List (Option jm_I) := [none, some (.aload_n 0, 1, 0, 0, 0), some (.invokevirtual 94, 3, 117, 0, 485), none, none, some (.return_, 1, 0, 0, 0)]
/-- FallMarket.<init>()V -/
def jm_M80 : jm_M := (⟨"FallMarket", "<init>", "()V"⟩, prog_1_method_1_code, 1, none, [jm_M80_r0, jm_M80_r1, jm_M80_r2, jm_M80_r3, jm_M80_r4, jm_M80_r5, jm_M80_r6, jm_M80_r7, jm_M80_r8, jm_M80_r9, jm_M80_r10], 1, 0, 2, 9)
/-- FallMarket.feed(IIIII)I -/
def jm_M81 : jm_M := (⟨"FallMarket", "feed", "(IIIII)I"⟩, prog_1_method_2_code, 6, some .int, [[some (.aload_n 0, 1, 0, 0, 0), some (.getfield 13, 3, 9, 1, 541), none, none, some (.bipush 20, 2, 0, 0, 0), none, some (.iadd, 1, 0, 0, 0), some (.sipush 2000, 3, 0, 0, 0), none, none, some (.if_icmp .le 5, 3, 0, 0, 0), none, none, some (.iconst (-1), 1, 0, 0, 0), some (.ireturn, 1, 0, 0, 0), some (.aload_n 0, 1, 0, 0, 0)],
  [some (.iload_n 1, 1, 0, 0, 0), some (.invokevirtual 97, 3, 116, 0, 590), none, none, some (.aload_n 0, 1, 0, 0, 0), some (.iload_n 2, 1, 0, 0, 0), some (.invokevirtual 97, 3, 116, 0, 590), none, none, some (.aload_n 0, 1, 0, 0, 0), some (.iload_n 3, 1, 0, 0, 0), some (.invokevirtual 97, 3, 116, 0, 590), none, none, some (.aload_n 0, 1, 0, 0, 0), some (.iload 4, 2, 0, 0, 0)],
  [none, some (.invokevirtual 97, 3, 116, 0, 590), none, none, some (.aload_n 0, 1, 0, 0, 0), some (.iload 5, 2, 0, 0, 0), none, some (.invokevirtual 97, 3, 116, 0, 590), none, none, some (.aload_n 0, 1, 0, 0, 0), some (.getfield 13, 3, 9, 1, 541), none, none, some (.ireturn, 1, 0, 0, 0)]], 1, 5, 1, 9)
/-- FallMarket.back(I)I -/
def jm_M82 : jm_M := (⟨"FallMarket", "back", "(I)I"⟩, prog_1_method_3_code, 2, some .int, [[some (.iload_n 1, 1, 0, 0, 0), some (.ifCond .lt 11, 3, 0, 0, 0), none, none, some (.iload_n 1, 1, 0, 0, 0), some (.aload_n 0, 1, 0, 0, 0), some (.getfield 13, 3, 9, 1, 541), none, none, some (.if_icmp .le 5, 3, 0, 0, 0), none, none, some (.iconst (-1), 1, 0, 0, 0), some (.ireturn, 1, 0, 0, 0), some (.aload_n 0, 1, 0, 0, 0), some (.dup, 1, 0, 0, 0)],
  [some (.getfield 13, 3, 9, 1, 541), none, none, some (.iload_n 1, 1, 0, 0, 0), some (.isub, 1, 0, 0, 0), some (.putfield 13, 3, 9, 1, 541), none, none, some (.aload_n 0, 1, 0, 0, 0), some (.getfield 13, 3, 9, 1, 541), none, none, some (.ireturn, 1, 0, 0, 0)]], 1, 1, 1, 9)
/-- FallMarket.read()I -/
def jm_M83 : jm_M := (⟨"FallMarket", "read", "()I"⟩, prog_1_method_4_code, 3, some .int, [[some (.aload_n 0, 1, 0, 0, 0), some (.getfield 35, 3, 9, 5, 545), none, none, some (.aload_n 0, 1, 0, 0, 0), some (.getfield 9, 3, 9, 0, 540), none, none, some (.aload_n 0, 1, 0, 0, 0), some (.getfield 13, 3, 9, 1, 541), none, none, some (.aload_n 0, 1, 0, 0, 0), some (.getfield 27, 3, 9, 4, 544)],
  [some (.invokevirtual 101, 3, 31, 0, 602), none, none, some (.istore_n 1, 1, 0, 0, 0), some (.aload_n 0, 1, 0, 0, 0), some (.aload_n 0, 1, 0, 0, 0), some (.getfield 35, 3, 9, 5, 545), none, none, some (.invokevirtual 105, 3, 32, 0, 724), none, none, some (.putfield 17, 3, 9, 2, 542), none, none, some (.aload_n 0, 1, 0, 0, 0)],
  [some (.iconst 0, 1, 0, 0, 0), some (.putfield 13, 3, 9, 1, 541), none, none, some (.iload_n 1, 1, 0, 0, 0), some (.ifCond .ne 25, 3, 0, 0, 0), none, none, some (.aload_n 0, 1, 0, 0, 0), some (.getfield 23, 3, 9, 3, 543), none, none, some (.astore_n 2, 1, 0, 0, 0), some (.aload_n 0, 1, 0, 0, 0), some (.aload_n 0, 1, 0, 0, 0), some (.getfield 27, 3, 9, 4, 544)],
  [none, none, some (.putfield 23, 3, 9, 3003, 543), none, none, some (.aload_n 0, 1, 0, 0, 0), some (.aload_n 2, 1, 0, 0, 0), some (.putfield 27, 3, 9, 3004, 544), none, none, some (.aload_n 0, 1, 0, 0, 0), some (.invokevirtual 94, 3, 117, 0, 485), none, none, some (.iload_n 1, 1, 0, 0, 0), some (.ireturn, 1, 0, 0, 0)]], 1, 0, 1, 9)
/-- FallMarket.place()I -/
def jm_M84 : jm_M := (⟨"FallMarket", "place", "()I"⟩, prog_1_method_5_code, 1, some .int, [[some (.aload_n 0, 1, 0, 0, 0), some (.getfield 17, 3, 9, 2, 542), none, none, some (.ireturn, 1, 0, 0, 0)]], 1, 0, 1, 9)
def jm_M85_r0 : List (Option jm_I) := [some (.aload_n 0, 1, 0, 0, 0), some (.iload_n 1, 1, 0, 0, 0), some (.invokevirtual 108, 3, 118, 0, 736), none, none, some (.ifCond .ne 5, 3, 0, 0, 0), none, none, some (.iconst (-1), 1, 0, 0, 0), some (.ireturn, 1, 0, 0, 0), some (.iload_n 2, 1, 0, 0, 0), some (.tableswitch 150 0 7 #[45, 80, 90, 100, 110, 120, 130, 140], 45, 0, 0, 0)]
def jm_M85_r1 : List (Option jm_I) := []
def jm_M85_r2 : List (Option jm_I) := []
def jm_M85_r3 : List (Option jm_I) := [none, none, none, none, none, none, none, none, some (.aload_n 0, 1, 0, 0, 0), some (.getfield 65, 3, 9, 9, 549), none, none, some (.getfield 112, 3, 1, 4, 402), none, none, some (.iload_n 1, 1, 0, 0, 0)]
def jm_M85_r4 : List (Option jm_I) := [some (.iaload, 1, 0, 0, 0), some (.iconst 1, 1, 0, 0, 0), some (.if_icmp .ne 15, 3, 0, 0, 0), none, none, some (.aload_n 0, 1, 0, 0, 0), some (.getfield 65, 3, 9, 9, 549), none, none, some (.getfield 115, 3, 1, 9, 420), none, none, some (.iload_n 1, 1, 0, 0, 0), some (.iaload, 1, 0, 0, 0), some (.goto 12, 3, 0, 0, 0)]
def jm_M85_r5 : List (Option jm_I) := [none, some (.aload_n 0, 1, 0, 0, 0), some (.getfield 23, 3, 9, 3, 543), none, none, some (.getfield 118, 3, 5, 1, 153), none, none, some (.iload_n 1, 1, 0, 0, 0), some (.iaload, 1, 0, 0, 0), some (.ireturn, 1, 0, 0, 0), some (.aload_n 0, 1, 0, 0, 0), some (.getfield 23, 3, 9, 3, 543), none, none, some (.getfield 121, 3, 5, 2, 156)]
def jm_M85_r6 : List (Option jm_I) := [none, none, some (.iload_n 1, 1, 0, 0, 0), some (.iaload, 1, 0, 0, 0), some (.ireturn, 1, 0, 0, 0), some (.aload_n 0, 1, 0, 0, 0), some (.getfield 65, 3, 9, 9, 549), none, none, some (.getfield 124, 3, 1, 3, 398), none, none, some (.iload_n 1, 1, 0, 0, 0), some (.iaload, 1, 0, 0, 0), some (.ireturn, 1, 0, 0, 0), some (.aload_n 0, 1, 0, 0, 0)]
def jm_M85_r7 : List (Option jm_I) := [some (.getfield 65, 3, 9, 9, 549), none, none, some (.getfield 112, 3, 1, 4, 402), none, none, some (.iload_n 1, 1, 0, 0, 0), some (.iaload, 1, 0, 0, 0), some (.ireturn, 1, 0, 0, 0), some (.aload_n 0, 1, 0, 0, 0), some (.getfield 65, 3, 9, 9, 549), none, none, some (.getfield 127, 3, 1, 5, 404)]
def jm_M85_r8 : List (Option jm_I) := [some (.iload_n 1, 1, 0, 0, 0), some (.iaload, 1, 0, 0, 0), some (.ireturn, 1, 0, 0, 0), some (.aload_n 0, 1, 0, 0, 0), some (.getfield 65, 3, 9, 9, 549), none, none, some (.getfield 130, 3, 1, 6, 408), none, none, some (.iload_n 1, 1, 0, 0, 0), some (.iaload, 1, 0, 0, 0), some (.ireturn, 1, 0, 0, 0), some (.aload_n 0, 1, 0, 0, 0), some (.getfield 65, 3, 9, 9, 549)]
def jm_M85_r9 : List (Option jm_I) := [none, some (.getfield 133, 3, 1, 7, 412), none, none, some (.iload_n 1, 1, 0, 0, 0), some (.iaload, 1, 0, 0, 0), some (.ireturn, 1, 0, 0, 0), some (.aload_n 0, 1, 0, 0, 0), some (.getfield 65, 3, 9, 9, 549), none, none, some (.getfield 136, 3, 1, 8, 417), none, none, some (.iload_n 1, 1, 0, 0, 0), some (.iaload, 1, 0, 0, 0)]
def jm_M85_r10 : List (Option jm_I) := [some (.ireturn, 1, 0, 0, 0), some (.iconst (-1), 1, 0, 0, 0), some (.ireturn, 1, 0, 0, 0)]
/-- FallMarket.fruit(II)I -/
def jm_M85 : jm_M := (⟨"FallMarket", "fruit", "(II)I"⟩, prog_1_method_6_code, 3, some .int, [jm_M85_r0, jm_M85_r1, jm_M85_r2, jm_M85_r3, jm_M85_r4, jm_M85_r5, jm_M85_r6, jm_M85_r7, jm_M85_r8, jm_M85_r9, jm_M85_r10], 1, 2, 1, 9)
/-- FallMarket.buyer(II)I -/
def jm_M86 : jm_M := (⟨"FallMarket", "buyer", "(II)I"⟩, prog_1_method_7_code, 3, some .int, [[some (.aload_n 0, 1, 0, 0, 0), some (.iload_n 1, 1, 0, 0, 0), some (.invokevirtual 139, 3, 119, 0, 744), none, none, some (.ifCond .ne 5, 3, 0, 0, 0), none, none, some (.iconst (-1), 1, 0, 0, 0), some (.ireturn, 1, 0, 0, 0), some (.iload_n 2, 1, 0, 0, 0), some (.tableswitch 65 0 3 #[29, 39, 49, 59], 29, 0, 0, 0)],
  [],
  [none, none, none, none, none, none, none, none, some (.aload_n 0, 1, 0, 0, 0), some (.getfield 65, 3, 9, 9, 549), none, none, some (.getfield 142, 3, 1, 10, 422), none, none, some (.iload_n 1, 1, 0, 0, 0)],
  [some (.iaload, 1, 0, 0, 0), some (.ireturn, 1, 0, 0, 0), some (.aload_n 0, 1, 0, 0, 0), some (.getfield 23, 3, 9, 3, 543), none, none, some (.getfield 145, 3, 5, 7, 171), none, none, some (.iload_n 1, 1, 0, 0, 0), some (.iaload, 1, 0, 0, 0), some (.ireturn, 1, 0, 0, 0), some (.aload_n 0, 1, 0, 0, 0), some (.getfield 65, 3, 9, 9, 549)],
  [some (.getfield 148, 3, 1, 11, 424), none, none, some (.iload_n 1, 1, 0, 0, 0), some (.iaload, 1, 0, 0, 0), some (.ireturn, 1, 0, 0, 0), some (.aload_n 0, 1, 0, 0, 0), some (.iload_n 1, 1, 0, 0, 0), some (.invokevirtual 151, 3, 123, 0, 748), none, none, some (.ireturn, 1, 0, 0, 0), some (.iconst (-1), 1, 0, 0, 0), some (.ireturn, 1, 0, 0, 0)]], 1, 2, 1, 9)
/-- FallMarket.tells(II)I -/
def jm_M87 : jm_M := (⟨"FallMarket", "tells", "(II)I"⟩, prog_1_method_8_code, 3, some .int, [[some (.aload_n 0, 1, 0, 0, 0), some (.iload_n 1, 1, 0, 0, 0), some (.invokevirtual 108, 3, 118, 0, 736), none, none, some (.ifCond .ne 6, 3, 0, 0, 0), none, none, some (.bipush (-100), 2, 0, 0, 0), none, some (.ireturn, 1, 0, 0, 0), some (.aload_n 0, 1, 0, 0, 0), some (.iload_n 1, 1, 0, 0, 0), some (.invokevirtual 155, 3, 120, 0, 756)],
  [some (.iload_n 2, 1, 0, 0, 0), some (.tableswitch 83 0 3 #[31, 44, 57, 70], 31, 0, 0, 0)],
  [],
  [some (.aload_n 0, 1, 0, 0, 0), some (.getfield 42, 3, 9, 6, 546), none, none, some (.aload_n 0, 1, 0, 0, 0), some (.getfield 23, 3, 9, 3, 543), none, none, some (.iconst 2, 1, 0, 0, 0), some (.invokevirtual 158, 3, 21, 0, 779), none, none, some (.ireturn, 1, 0, 0, 0), some (.aload_n 0, 1, 0, 0, 0), some (.getfield 42, 3, 9, 6, 546)],
  [none, some (.aload_n 0, 1, 0, 0, 0), some (.getfield 23, 3, 9, 3, 543), none, none, some (.iconst 1, 1, 0, 0, 0), some (.invokevirtual 158, 3, 21, 0, 779), none, none, some (.ireturn, 1, 0, 0, 0), some (.aload_n 0, 1, 0, 0, 0), some (.getfield 42, 3, 9, 6, 546), none, none, some (.aload_n 0, 1, 0, 0, 0), some (.getfield 23, 3, 9, 3, 543)],
  [none, none, some (.iconst 3, 1, 0, 0, 0), some (.invokevirtual 158, 3, 21, 0, 779), none, none, some (.ireturn, 1, 0, 0, 0), some (.aload_n 0, 1, 0, 0, 0), some (.getfield 42, 3, 9, 6, 546), none, none, some (.aload_n 0, 1, 0, 0, 0), some (.getfield 23, 3, 9, 3, 543), none, none, some (.iconst 4, 1, 0, 0, 0)],
  [some (.invokevirtual 158, 3, 21, 0, 779), none, none, some (.ireturn, 1, 0, 0, 0), some (.bipush (-100), 2, 0, 0, 0), none, some (.ireturn, 1, 0, 0, 0)]], 1, 2, 1, 9)
/-- FallMarket.go(II)Z -/
def jm_M88 : jm_M := (⟨"FallMarket", "go", "(II)Z"⟩, prog_1_method_9_code, 3, some .boolean, [[some (.aload_n 0, 1, 0, 0, 0), some (.iload_n 1, 1, 0, 0, 0), some (.invokevirtual 139, 3, 119, 0, 744), none, none, some (.ifCond .eq 26, 3, 0, 0, 0), none, none, some (.iload_n 2, 1, 0, 0, 0), some (.iconst 0, 1, 0, 0, 0), some (.bipush 9, 2, 0, 0, 0), none, some (.invokestatic 161, 3, 128, 0, 784), none, none, some (.ifCond .eq 16, 3, 0, 0, 0)],
  [none, none, some (.aload_n 0, 1, 0, 0, 0), some (.getfield 65, 3, 9, 9, 549), none, none, some (.getfield 142, 3, 1, 10, 422), none, none, some (.iload_n 1, 1, 0, 0, 0), some (.iaload, 1, 0, 0, 0), some (.iload_n 2, 1, 0, 0, 0), some (.if_icmp .ne 5, 3, 0, 0, 0), none, none, some (.iconst 0, 1, 0, 0, 0)],
  [some (.ireturn, 1, 0, 0, 0), some (.aload_n 0, 1, 0, 0, 0), some (.getfield 75, 3, 9, 11, 551), none, none, some (.aload_n 0, 1, 0, 0, 0), some (.getfield 65, 3, 9, 9, 549), none, none, some (.invokevirtual 165, 3, 78, 0, 785), none, none, some (.aload_n 0, 1, 0, 0, 0), some (.getfield 65, 3, 9, 9, 549)],
  [some (.getfield 142, 3, 1, 10, 422), none, none, some (.iload_n 1, 1, 0, 0, 0), some (.iload_n 2, 1, 0, 0, 0), some (.iastore, 1, 0, 0, 0), some (.iconst 1, 1, 0, 0, 0), some (.ireturn, 1, 0, 0, 0)]], 1, 2, 1, 9)
/-- FallMarket.prop(IZ)Z -/
def jm_M89 : jm_M := (⟨"FallMarket", "prop", "(IZ)Z"⟩, prog_1_method_10_code, 4, some .boolean, [[some (.iload_n 2, 1, 0, 0, 0), some (.ifCond .eq 7, 3, 0, 0, 0), none, none, some (.iconst 1, 1, 0, 0, 0), some (.goto 4, 3, 0, 0, 0), none, none, some (.iconst 0, 1, 0, 0, 0), some (.istore_n 3, 1, 0, 0, 0), some (.aload_n 0, 1, 0, 0, 0), some (.iload_n 1, 1, 0, 0, 0), some (.invokevirtual 108, 3, 118, 0, 736), none, none, some (.ifCond .eq 28, 3, 0, 0, 0)],
  [none, none, some (.aload_n 0, 1, 0, 0, 0), some (.getfield 65, 3, 9, 9, 549), none, none, some (.getfield 112, 3, 1, 4, 402), none, none, some (.iload_n 1, 1, 0, 0, 0), some (.iaload, 1, 0, 0, 0), some (.ifCond .ne 16, 3, 0, 0, 0), none, none, some (.aload_n 0, 1, 0, 0, 0), some (.getfield 65, 3, 9, 9, 549)],
  [none, none, some (.getfield 133, 3, 1, 7, 412), none, none, some (.iload_n 1, 1, 0, 0, 0), some (.iaload, 1, 0, 0, 0), some (.iload_n 3, 1, 0, 0, 0), some (.if_icmp .ne 5, 3, 0, 0, 0), none, none, some (.iconst 0, 1, 0, 0, 0), some (.ireturn, 1, 0, 0, 0), some (.aload_n 0, 1, 0, 0, 0), some (.getfield 75, 3, 9, 11, 551)],
  [none, some (.aload_n 0, 1, 0, 0, 0), some (.getfield 65, 3, 9, 9, 549), none, none, some (.invokevirtual 165, 3, 78, 0, 785), none, none, some (.aload_n 0, 1, 0, 0, 0), some (.getfield 65, 3, 9, 9, 549), none, none, some (.getfield 133, 3, 1, 7, 412), none, none, some (.iload_n 1, 1, 0, 0, 0)],
  [some (.iload_n 3, 1, 0, 0, 0), some (.iastore, 1, 0, 0, 0), some (.iconst 1, 1, 0, 0, 0), some (.ireturn, 1, 0, 0, 0)]], 1, 2, 1, 9)
def jm_M90_r0 : List (Option jm_I) := [some (.aload_n 0, 1, 0, 0, 0), some (.iload_n 1, 1, 0, 0, 0), some (.invokevirtual 108, 3, 118, 0, 736), none, none, some (.ifCond .ne 5, 3, 0, 0, 0), none, none, some (.iconst (-1), 1, 0, 0, 0), some (.ireturn, 1, 0, 0, 0), some (.aload_n 0, 1, 0, 0, 0), some (.getfield 65, 3, 9, 9, 549), none, none, some (.getfield 112, 3, 1, 4, 402)]
def jm_M90_r1 : List (Option jm_I) := [none, some (.iload_n 1, 1, 0, 0, 0), some (.iaload, 1, 0, 0, 0), some (.ifCond .eq 6, 3, 0, 0, 0), none, none, some (.bipush (-2), 2, 0, 0, 0), none, some (.ireturn, 1, 0, 0, 0), some (.aload_n 0, 1, 0, 0, 0), some (.getfield 75, 3, 9, 11, 551), none, none, some (.aload_n 0, 1, 0, 0, 0), some (.getfield 65, 3, 9, 9, 549)]
def jm_M90_r2 : List (Option jm_I) := [none, some (.invokevirtual 165, 3, 78, 0, 785), none, none, some (.aload_n 0, 1, 0, 0, 0), some (.getfield 23, 3, 9, 3, 543), none, none, some (.getfield 169, 3, 5, 11, 183), none, none, some (.ldc 172, 2, 1000000, 0, 801), none, some (.aload_n 0, 1, 0, 0, 0), some (.getfield 65, 3, 9, 9, 549)]
def jm_M90_r3 : List (Option jm_I) := [none, some (.getfield 173, 3, 1, 1, 391), none, none, some (.iadd, 1, 0, 0, 0), some (.invokestatic 176, 3, 1, 0, 802), none, none, some (.istore_n 2, 1, 0, 0, 0), some (.aload_n 0, 1, 0, 0, 0), some (.getfield 65, 3, 9, 9, 549), none, none, some (.getfield 136, 3, 1, 8, 417)]
def jm_M90_r4 : List (Option jm_I) := [some (.iload_n 1, 1, 0, 0, 0), some (.dup2, 1, 0, 0, 0), some (.iaload, 1, 0, 0, 0), some (.iconst 1, 1, 0, 0, 0), some (.iadd, 1, 0, 0, 0), some (.iastore, 1, 0, 0, 0), some (.aload_n 0, 1, 0, 0, 0), some (.getfield 65, 3, 9, 9, 549), none, none, some (.dup, 1, 0, 0, 0), some (.getfield 173, 3, 1, 1, 391), none, none, some (.iconst 1, 1, 0, 0, 0), some (.iadd, 1, 0, 0, 0)]
def jm_M90_r5 : List (Option jm_I) := [some (.putfield 173, 3, 1, 1, 391), none, none, some (.aload_n 0, 1, 0, 0, 0), some (.getfield 42, 3, 9, 6, 546), none, none, some (.aload_n 0, 1, 0, 0, 0), some (.getfield 23, 3, 9, 3, 543), none, none, some (.aload_n 0, 1, 0, 0, 0), some (.getfield 65, 3, 9, 9, 549), none, none, some (.getfield 180, 3, 1, 0, 389)]
def jm_M90_r6 : List (Option jm_I) := [none, none, some (.aload_n 0, 1, 0, 0, 0), some (.getfield 65, 3, 9, 9, 549), none, none, some (.iconst 0, 1, 0, 0, 0), some (.aload_n 0, 1, 0, 0, 0), some (.getfield 23, 3, 9, 3, 543), none, none, some (.getfield 183, 3, 5, 0, 148), none, none, some (.invokevirtual 186, 3, 12, 0, 760)]
def jm_M90_r7 : List (Option jm_I) := [none, some (.invokevirtual 189, 3, 17, 0, 774), none, none, some (.aload_n 0, 1, 0, 0, 0), some (.getfield 42, 3, 9, 6, 546), none, none, some (.getfield 193, 3, 2, 0, 342), none, none, some (.iconst 5, 1, 0, 0, 0), some (.aload_n 0, 1, 0, 0, 0), some (.getfield 65, 3, 9, 9, 549)]
def jm_M90_r8 : List (Option jm_I) := [some (.getfield 173, 3, 1, 1, 391), none, none, some (.iastore, 1, 0, 0, 0), some (.iload_n 2, 1, 0, 0, 0), some (.aload_n 0, 1, 0, 0, 0), some (.getfield 42, 3, 9, 6, 546), none, none, some (.aload_n 0, 1, 0, 0, 0), some (.getfield 23, 3, 9, 3, 543), none, none, some (.iconst 5, 1, 0, 0, 0), some (.invokevirtual 158, 3, 21, 0, 779)]
def jm_M90_r9 : List (Option jm_I) := [none, some (.if_icmp .ge 7, 3, 0, 0, 0), none, none, some (.iconst 1, 1, 0, 0, 0), some (.goto 4, 3, 0, 0, 0), none, none, some (.iconst 0, 1, 0, 0, 0), some (.istore_n 3, 1, 0, 0, 0), some (.iload_n 3, 1, 0, 0, 0), some (.ifCond .eq 16, 3, 0, 0, 0), none, none, some (.aload_n 0, 1, 0, 0, 0), some (.getfield 65, 3, 9, 9, 549)]
def jm_M90_r10 : List (Option jm_I) := [none, none, some (.dup, 1, 0, 0, 0), some (.getfield 196, 3, 1, 2, 393), none, none, some (.iconst 1, 1, 0, 0, 0), some (.iadd, 1, 0, 0, 0), some (.putfield 196, 3, 1, 2, 393), none, none, some (.iload_n 3, 1, 0, 0, 0), some (.ifCond .eq 7, 3, 0, 0, 0), none, none, some (.iconst 1, 1, 0, 0, 0)]
def jm_M90_r11 : List (Option jm_I) := [some (.goto 4, 3, 0, 0, 0), none, none, some (.iconst 0, 1, 0, 0, 0), some (.ireturn, 1, 0, 0, 0)]
/-- FallMarket.shake(I)I -/
def jm_M90 : jm_M := (⟨"FallMarket", "shake", "(I)I"⟩, prog_1_method_11_code, 4, some .int, [jm_M90_r0, jm_M90_r1, jm_M90_r2, jm_M90_r3, jm_M90_r4, jm_M90_r5, jm_M90_r6, jm_M90_r7, jm_M90_r8, jm_M90_r9, jm_M90_r10, jm_M90_r11], 1, 1, 1, 9)
/-- FallMarket.hours(I)I -/
def jm_M91 : jm_M := (⟨"FallMarket", "hours", "(I)I"⟩, prog_1_method_12_code, 3, some .int, [[some (.iload_n 1, 1, 0, 0, 0), some (.iconst 0, 1, 0, 0, 0), some (.bipush 48, 2, 0, 0, 0), none, some (.invokestatic 161, 3, 128, 0, 784), none, none, some (.ifCond .ne 5, 3, 0, 0, 0), none, none, some (.iconst (-1), 1, 0, 0, 0), some (.ireturn, 1, 0, 0, 0), some (.iload_n 1, 1, 0, 0, 0), some (.ifCond .le 49, 3, 0, 0, 0)],
  [some (.aload_n 0, 1, 0, 0, 0), some (.getfield 75, 3, 9, 11, 551), none, none, some (.aload_n 0, 1, 0, 0, 0), some (.getfield 65, 3, 9, 9, 549), none, none, some (.invokevirtual 165, 3, 78, 0, 785), none, none, some (.iconst 0, 1, 0, 0, 0), some (.istore_n 2, 1, 0, 0, 0), some (.iload_n 2, 1, 0, 0, 0), some (.iload_n 1, 1, 0, 0, 0), some (.if_icmp .ge 31, 3, 0, 0, 0)],
  [none, none, some (.aload_n 0, 1, 0, 0, 0), some (.getfield 51, 3, 9, 7, 547), none, none, some (.aload_n 0, 1, 0, 0, 0), some (.getfield 23, 3, 9, 3, 543), none, none, some (.aload_n 0, 1, 0, 0, 0), some (.getfield 65, 3, 9, 9, 549), none, none, some (.aload_n 0, 1, 0, 0, 0), some (.getfield 23, 3, 9, 3, 543)],
  [none, none, some (.getfield 169, 3, 5, 11, 183), none, none, some (.invokevirtual 199, 3, 3, 0, 813), none, none, some (.iinc 2 1, 3, 0, 0, 0), none, none, some (.goto (-30), 3, 0, 0, 0), none, none, some (.aload_n 0, 1, 0, 0, 0), some (.getfield 65, 3, 9, 9, 549)],
  [none, none, some (.getfield 180, 3, 1, 0, 389), none, none, some (.ireturn, 1, 0, 0, 0)]], 1, 1, 1, 9)
/-- FallMarket.undo()Z -/
def jm_M92 : jm_M := (⟨"FallMarket", "undo", "()Z"⟩, prog_1_method_13_code, 1, some .boolean, [[some (.aload_n 0, 1, 0, 0, 0), some (.getfield 75, 3, 9, 11, 551), none, none, some (.aload_n 0, 1, 0, 0, 0), some (.getfield 65, 3, 9, 9, 549), none, none, some (.invokevirtual 203, 3, 79, 0, 852), none, none, some (.ireturn, 1, 0, 0, 0)]], 1, 0, 1, 9)
/-- FallMarket.hangsOn(IIZ)I -/
def jm_M93 : jm_M := (⟨"FallMarket", "hangsOn", "(IIZ)I"⟩, prog_1_method_14_code, 7, some .int, [[some (.aload_n 0, 1, 0, 0, 0), some (.iload_n 1, 1, 0, 0, 0), some (.invokevirtual 108, 3, 118, 0, 736), none, none, some (.ifCond .eq 12, 3, 0, 0, 0), none, none, some (.iload_n 2, 1, 0, 0, 0), some (.iconst 1, 1, 0, 0, 0), some (.iconst 4, 1, 0, 0, 0), some (.invokestatic 161, 3, 128, 0, 784), none, none, some (.ifCond .ne 5, 3, 0, 0, 0)],
  [none, some (.iconst (-1), 1, 0, 0, 0), some (.ireturn, 1, 0, 0, 0), some (.aload_n 0, 1, 0, 0, 0), some (.getfield 65, 3, 9, 9, 549), none, none, some (.getfield 112, 3, 1, 4, 402), none, none, some (.iload_n 1, 1, 0, 0, 0), some (.iaload, 1, 0, 0, 0), some (.ifCond .eq 6, 3, 0, 0, 0), none, none, some (.bipush (-2), 2, 0, 0, 0)],
  [none, some (.ireturn, 1, 0, 0, 0), some (.aload_n 0, 1, 0, 0, 0), some (.getfield 58, 3, 9, 8, 548), none, none, some (.aload_n 0, 1, 0, 0, 0), some (.getfield 23, 3, 9, 3, 543), none, none, some (.aload_n 0, 1, 0, 0, 0), some (.getfield 65, 3, 9, 9, 549), none, none, some (.iload_n 1, 1, 0, 0, 0), some (.iload_n 2, 1, 0, 0, 0)],
  [some (.aload_n 0, 1, 0, 0, 0), some (.getfield 65, 3, 9, 9, 549), none, none, some (.getfield 133, 3, 1, 7, 412), none, none, some (.iload_n 1, 1, 0, 0, 0), some (.iaload, 1, 0, 0, 0), some (.invokevirtual 207, 3, 25, 0, 864), none, none, some (.iconst 1, 1, 0, 0, 0), some (.istore 4, 2, 0, 0, 0), none, some (.iconst 1, 1, 0, 0, 0)],
  [some (.istore 5, 2, 0, 0, 0), none, some (.iconst 0, 1, 0, 0, 0), some (.istore 6, 2, 0, 0, 0), none, some (.iload 6, 2, 0, 0, 0), none, some (.iload_n 2, 1, 0, 0, 0), some (.if_icmp .ge 34, 3, 0, 0, 0), none, none, some (.iload 4, 2, 0, 0, 0), none, some (.bipush 100, 2, 0, 0, 0), none, some (.aload_n 0, 1, 0, 0, 0)],
  [some (.getfield 58, 3, 9, 8, 548), none, none, some (.getfield 211, 3, 3, 0, 366), none, none, some (.iload 6, 2, 0, 0, 0), none, some (.iaload, 1, 0, 0, 0), some (.isub, 1, 0, 0, 0), some (.imul, 1, 0, 0, 0), some (.istore 4, 2, 0, 0, 0), none, some (.iload 5, 2, 0, 0, 0), none, some (.bipush 100, 2, 0, 0, 0)],
  [none, some (.imul, 1, 0, 0, 0), some (.istore 5, 2, 0, 0, 0), none, some (.iinc 6 1, 3, 0, 0, 0), none, none, some (.goto (-34), 3, 0, 0, 0), none, none, some (.iload 4, 2, 0, 0, 0), none, some (.iload 5, 2, 0, 0, 0), none, some (.invokestatic 214, 3, 131, 0, 873)],
  [none, some (.istore 6, 2, 0, 0, 0), none, some (.iload 6, 2, 0, 0, 0), none, some (.ifCond .ne 5, 3, 0, 0, 0), none, none, some (.iconst (-1), 1, 0, 0, 0), some (.ireturn, 1, 0, 0, 0), some (.iload_n 3, 1, 0, 0, 0), some (.ifCond .eq 11, 3, 0, 0, 0), none, none, some (.iload 5, 2, 0, 0, 0)],
  [some (.iload 6, 2, 0, 0, 0), none, some (.idiv, 1, 0, 0, 0), some (.goto 8, 3, 0, 0, 0), none, none, some (.iload 4, 2, 0, 0, 0), none, some (.iload 6, 2, 0, 0, 0), none, some (.idiv, 1, 0, 0, 0), some (.ireturn, 1, 0, 0, 0)]], 1, 3, 1, 9)
/-- FallMarket.mean(III)I -/
def jm_M94 : jm_M := (⟨"FallMarket", "mean", "(III)I"⟩, prog_1_method_15_code, 4, some .int, [[some (.aload_n 0, 1, 0, 0, 0), some (.iload_n 1, 1, 0, 0, 0), some (.invokevirtual 139, 3, 119, 0, 744), none, none, some (.ifCond .eq 22, 3, 0, 0, 0), none, none, some (.iload_n 2, 1, 0, 0, 0), some (.iconst 0, 1, 0, 0, 0), some (.bipush 9, 2, 0, 0, 0), none, some (.invokestatic 161, 3, 128, 0, 784), none, none, some (.ifCond .eq 12, 3, 0, 0, 0)],
  [none, none, some (.iload_n 3, 1, 0, 0, 0), some (.iconst 1, 1, 0, 0, 0), some (.iconst 4, 1, 0, 0, 0), some (.invokestatic 161, 3, 128, 0, 784), none, none, some (.ifCond .ne 5, 3, 0, 0, 0), none, none, some (.iconst (-1), 1, 0, 0, 0), some (.ireturn, 1, 0, 0, 0), some (.aload_n 0, 1, 0, 0, 0), some (.getfield 58, 3, 9, 8, 548)],
  [none, some (.aload_n 0, 1, 0, 0, 0), some (.getfield 23, 3, 9, 3, 543), none, none, some (.aload_n 0, 1, 0, 0, 0), some (.getfield 65, 3, 9, 9, 549), none, none, some (.iload_n 3, 1, 0, 0, 0), some (.invokevirtual 217, 3, 26, 0, 880), none, none, some (.aload_n 0, 1, 0, 0, 0), some (.iload_n 1, 1, 0, 0, 0), some (.iload_n 2, 1, 0, 0, 0)],
  [some (.invokevirtual 220, 3, 122, 0, 890), none, none, some (.iload_n 3, 1, 0, 0, 0), some (.invokestatic 224, 3, 29, 0, 899), none, none, some (.ireturn, 1, 0, 0, 0)]], 1, 3, 1, 9)
/-- FallMarket.stand(III)I -/
def jm_M95 : jm_M := (⟨"FallMarket", "stand", "(III)I"⟩, prog_1_method_16_code, 10, some .int, [[some (.aload_n 0, 1, 0, 0, 0), some (.iload_n 1, 1, 0, 0, 0), some (.invokevirtual 139, 3, 119, 0, 744), none, none, some (.ifCond .eq 21, 3, 0, 0, 0), none, none, some (.iload_n 2, 1, 0, 0, 0), some (.iconst 1, 1, 0, 0, 0), some (.iconst 4, 1, 0, 0, 0), some (.invokestatic 161, 3, 128, 0, 784), none, none, some (.ifCond .eq 12, 3, 0, 0, 0)],
  [none, some (.iload_n 3, 1, 0, 0, 0), some (.iconst 0, 1, 0, 0, 0), some (.iconst 1, 1, 0, 0, 0), some (.invokestatic 161, 3, 128, 0, 784), none, none, some (.ifCond .ne 5, 3, 0, 0, 0), none, none, some (.iconst (-1), 1, 0, 0, 0), some (.ireturn, 1, 0, 0, 0), some (.aload_n 0, 1, 0, 0, 0), some (.getfield 58, 3, 9, 8, 548)],
  [some (.aload_n 0, 1, 0, 0, 0), some (.getfield 23, 3, 9, 3, 543), none, none, some (.aload_n 0, 1, 0, 0, 0), some (.getfield 65, 3, 9, 9, 549), none, none, some (.iload_n 2, 1, 0, 0, 0), some (.invokevirtual 217, 3, 26, 0, 880), none, none, some (.iconst 0, 1, 0, 0, 0), some (.istore 4, 2, 0, 0, 0), none, some (.ldc2_w 228, 3, 18446744073709551615, 0, 906)],
  [none, none, some (.lstore 5, 2, 0, 0, 0), none, some (.iconst 0, 1, 0, 0, 0), some (.istore 7, 2, 0, 0, 0), none, some (.iload 7, 2, 0, 0, 0), none, some (.bipush 9, 2, 0, 0, 0), none, some (.if_icmp .gt 34, 3, 0, 0, 0), none, none, some (.aload_n 0, 1, 0, 0, 0), some (.iload_n 1, 1, 0, 0, 0)],
  [some (.iload 7, 2, 0, 0, 0), none, some (.invokevirtual 220, 3, 122, 0, 890), none, none, some (.lstore 8, 2, 0, 0, 0), none, some (.lload 8, 2, 0, 0, 0), none, some (.lload 5, 2, 0, 0, 0), none, some (.lcmp, 1, 0, 0, 0), some (.ifCond .le 11, 3, 0, 0, 0), none, none, some (.lload 8, 2, 0, 0, 0)],
  [none, some (.lstore 5, 2, 0, 0, 0), none, some (.iload 7, 2, 0, 0, 0), none, some (.istore 4, 2, 0, 0, 0), none, some (.iinc 7 1, 3, 0, 0, 0), none, none, some (.goto (-35), 3, 0, 0, 0), none, none, some (.iload_n 3, 1, 0, 0, 0), some (.ifCond .ne 8, 3, 0, 0, 0)],
  [none, some (.iload 4, 2, 0, 0, 0), none, some (.goto 9, 3, 0, 0, 0), none, none, some (.lload 5, 2, 0, 0, 0), none, some (.iload_n 2, 1, 0, 0, 0), some (.invokestatic 224, 3, 29, 0, 899), none, none, some (.ireturn, 1, 0, 0, 0)]], 1, 3, 1, 9)
/-- FallMarket.props(II)I -/
def jm_M96 : jm_M := (⟨"FallMarket", "props", "(II)I"⟩, prog_1_method_17_code, 11, some .int, [[some (.iload_n 1, 1, 0, 0, 0), some (.iconst 1, 1, 0, 0, 0), some (.iconst 3, 1, 0, 0, 0), some (.invokestatic 161, 3, 128, 0, 784), none, none, some (.ifCond .eq 12, 3, 0, 0, 0), none, none, some (.iload_n 2, 1, 0, 0, 0), some (.iconst 0, 1, 0, 0, 0), some (.iconst 1, 1, 0, 0, 0), some (.invokestatic 161, 3, 128, 0, 784), none, none, some (.ifCond .ne 5, 3, 0, 0, 0)],
  [none, none, some (.iconst (-1), 1, 0, 0, 0), some (.ireturn, 1, 0, 0, 0), some (.iconst 0, 1, 0, 0, 0), some (.istore_n 3, 1, 0, 0, 0), some (.lconst 0, 1, 0, 0, 0), some (.lstore 4, 2, 0, 0, 0), none, some (.iconst 0, 1, 0, 0, 0), some (.istore 6, 2, 0, 0, 0), none, some (.iload 6, 2, 0, 0, 0), none, some (.aload_n 0, 1, 0, 0, 0), some (.getfield 23, 3, 9, 3, 543)],
  [none, none, some (.getfield 183, 3, 5, 0, 148), none, none, some (.if_icmp .ge 91, 3, 0, 0, 0), none, none, some (.aload_n 0, 1, 0, 0, 0), some (.getfield 65, 3, 9, 9, 549), none, none, some (.getfield 112, 3, 1, 4, 402), none, none, some (.iload 6, 2, 0, 0, 0)],
  [none, some (.iaload, 1, 0, 0, 0), some (.ifCond .ne 72, 3, 0, 0, 0), none, none, some (.aload_n 0, 1, 0, 0, 0), some (.getfield 58, 3, 9, 8, 548), none, none, some (.aload_n 0, 1, 0, 0, 0), some (.getfield 23, 3, 9, 3, 543), none, none, some (.aload_n 0, 1, 0, 0, 0), some (.getfield 65, 3, 9, 9, 549)],
  [none, some (.iload 6, 2, 0, 0, 0), none, some (.iload_n 1, 1, 0, 0, 0), some (.iconst 0, 1, 0, 0, 0), some (.invokevirtual 230, 3, 28, 0, 911), none, none, some (.lstore 7, 2, 0, 0, 0), none, some (.aload_n 0, 1, 0, 0, 0), some (.getfield 58, 3, 9, 8, 548), none, none, some (.aload_n 0, 1, 0, 0, 0), some (.getfield 23, 3, 9, 3, 543)],
  [none, none, some (.aload_n 0, 1, 0, 0, 0), some (.getfield 65, 3, 9, 9, 549), none, none, some (.iload 6, 2, 0, 0, 0), none, some (.iload_n 1, 1, 0, 0, 0), some (.iconst 1, 1, 0, 0, 0), some (.invokevirtual 230, 3, 28, 0, 911), none, none, some (.lstore 9, 2, 0, 0, 0), none, some (.lload 9, 2, 0, 0, 0)],
  [none, some (.lload 7, 2, 0, 0, 0), none, some (.lcmp, 1, 0, 0, 0), some (.ifCond .le 10, 3, 0, 0, 0), none, none, some (.iload_n 3, 1, 0, 0, 0), some (.iconst 1, 1, 0, 0, 0), some (.iload 6, 2, 0, 0, 0), none, some (.ishl, 1, 0, 0, 0), some (.ior, 1, 0, 0, 0), some (.istore_n 3, 1, 0, 0, 0), some (.lload 4, 2, 0, 0, 0)],
  [some (.lload 7, 2, 0, 0, 0), none, some (.lload 9, 2, 0, 0, 0), none, some (.invokestatic 234, 3, 242, 0, 915), none, none, some (.ladd, 1, 0, 0, 0), some (.lstore 4, 2, 0, 0, 0), none, some (.iinc 6 1, 3, 0, 0, 0), none, none, some (.goto (-97), 3, 0, 0, 0)],
  [some (.iload_n 2, 1, 0, 0, 0), some (.ifCond .ne 12, 3, 0, 0, 0), none, none, some (.lload 4, 2, 0, 0, 0), none, some (.iload_n 1, 1, 0, 0, 0), some (.invokestatic 224, 3, 29, 0, 899), none, none, some (.goto 4, 3, 0, 0, 0), none, none, some (.iload_n 3, 1, 0, 0, 0), some (.ireturn, 1, 0, 0, 0)]], 1, 2, 1, 9)
/-- FallMarket.shakes(II)I -/
def jm_M97 : jm_M := (⟨"FallMarket", "shakes", "(II)I"⟩, prog_1_method_18_code, 4, some .int, [[some (.aload_n 0, 1, 0, 0, 0), some (.iload_n 1, 1, 0, 0, 0), some (.invokevirtual 108, 3, 118, 0, 736), none, none, some (.ifCond .eq 13, 3, 0, 0, 0), none, none, some (.iload_n 2, 1, 0, 0, 0), some (.iconst 0, 1, 0, 0, 0), some (.bipush 100, 2, 0, 0, 0), none, some (.invokestatic 161, 3, 128, 0, 784), none, none, some (.ifCond .ne 5, 3, 0, 0, 0)],
  [none, none, some (.iconst (-1), 1, 0, 0, 0), some (.ireturn, 1, 0, 0, 0), some (.aload_n 0, 1, 0, 0, 0), some (.getfield 65, 3, 9, 9, 549), none, none, some (.getfield 112, 3, 1, 4, 402), none, none, some (.iload_n 1, 1, 0, 0, 0), some (.iaload, 1, 0, 0, 0), some (.ifCond .eq 6, 3, 0, 0, 0)],
  [some (.bipush (-2), 2, 0, 0, 0), none, some (.ireturn, 1, 0, 0, 0), some (.aload_n 0, 1, 0, 0, 0), some (.iload_n 1, 1, 0, 0, 0), some (.invokevirtual 155, 3, 120, 0, 756), none, none, some (.iconst 0, 1, 0, 0, 0), some (.istore_n 3, 1, 0, 0, 0), some (.iload_n 3, 1, 0, 0, 0), some (.bipush 20, 2, 0, 0, 0), none, some (.if_icmp .gt 47, 3, 0, 0, 0)],
  [some (.aload_n 0, 1, 0, 0, 0), some (.getfield 42, 3, 9, 6, 546), none, none, some (.getfield 193, 3, 2, 0, 342), none, none, some (.iconst 5, 1, 0, 0, 0), some (.aload_n 0, 1, 0, 0, 0), some (.getfield 65, 3, 9, 9, 549), none, none, some (.getfield 136, 3, 1, 8, 417), none, none, some (.iload_n 1, 1, 0, 0, 0)],
  [some (.iaload, 1, 0, 0, 0), some (.iload_n 3, 1, 0, 0, 0), some (.iadd, 1, 0, 0, 0), some (.iastore, 1, 0, 0, 0), some (.aload_n 0, 1, 0, 0, 0), some (.getfield 42, 3, 9, 6, 546), none, none, some (.aload_n 0, 1, 0, 0, 0), some (.getfield 23, 3, 9, 3, 543), none, none, some (.iconst 2, 1, 0, 0, 0), some (.invokevirtual 158, 3, 21, 0, 779)],
  [some (.iload_n 2, 1, 0, 0, 0), some (.if_icmp .lt 5, 3, 0, 0, 0), none, none, some (.iload_n 3, 1, 0, 0, 0), some (.ireturn, 1, 0, 0, 0), some (.iinc 3 1, 3, 0, 0, 0), none, none, some (.goto (-47), 3, 0, 0, 0), none, none, some (.bipush (-2), 2, 0, 0, 0), none, some (.ireturn, 1, 0, 0, 0)]], 1, 2, 1, 9)
/-- FallMarket.passes(II)I -/
def jm_M98 : jm_M := (⟨"FallMarket", "passes", "(II)I"⟩, prog_1_method_19_code, 5, some .int, [[some (.aload_n 0, 1, 0, 0, 0), some (.iload_n 1, 1, 0, 0, 0), some (.invokevirtual 108, 3, 118, 0, 736), none, none, some (.ifCond .eq 13, 3, 0, 0, 0), none, none, some (.iload_n 2, 1, 0, 0, 0), some (.iconst 0, 1, 0, 0, 0), some (.bipush 20, 2, 0, 0, 0), none, some (.invokestatic 161, 3, 128, 0, 784), none, none, some (.ifCond .ne 5, 3, 0, 0, 0)],
  [none, none, some (.iconst (-1), 1, 0, 0, 0), some (.ireturn, 1, 0, 0, 0), some (.aload_n 0, 1, 0, 0, 0), some (.getfield 65, 3, 9, 9, 549), none, none, some (.getfield 112, 3, 1, 4, 402), none, none, some (.iload_n 1, 1, 0, 0, 0), some (.iaload, 1, 0, 0, 0), some (.ifCond .eq 6, 3, 0, 0, 0)],
  [some (.bipush (-2), 2, 0, 0, 0), none, some (.ireturn, 1, 0, 0, 0), some (.aload_n 0, 1, 0, 0, 0), some (.iload_n 1, 1, 0, 0, 0), some (.invokevirtual 155, 3, 120, 0, 756), none, none, some (.aload_n 0, 1, 0, 0, 0), some (.getfield 42, 3, 9, 6, 546), none, none, some (.getfield 193, 3, 2, 0, 342), none, none, some (.iconst 5, 1, 0, 0, 0)],
  [some (.iload_n 2, 1, 0, 0, 0), some (.iastore, 1, 0, 0, 0), some (.aload_n 0, 1, 0, 0, 0), some (.getfield 42, 3, 9, 6, 546), none, none, some (.aload_n 0, 1, 0, 0, 0), some (.getfield 23, 3, 9, 3, 543), none, none, some (.iconst 2, 1, 0, 0, 0), some (.invokevirtual 158, 3, 21, 0, 779), none, none, some (.istore_n 3, 1, 0, 0, 0), some (.aload_n 0, 1, 0, 0, 0)],
  [some (.getfield 42, 3, 9, 6, 546), none, none, some (.getfield 193, 3, 2, 0, 342), none, none, some (.iconst 5, 1, 0, 0, 0), some (.iconst 0, 1, 0, 0, 0), some (.iastore, 1, 0, 0, 0), some (.iconst 0, 1, 0, 0, 0), some (.istore 4, 2, 0, 0, 0), none, some (.iload 4, 2, 0, 0, 0), none, some (.bipush 9, 2, 0, 0, 0)],
  [some (.if_icmp .gt 39, 3, 0, 0, 0), none, none, some (.aload_n 0, 1, 0, 0, 0), some (.getfield 42, 3, 9, 6, 546), none, none, some (.getfield 193, 3, 2, 0, 342), none, none, some (.iconst 3, 1, 0, 0, 0), some (.iload 4, 2, 0, 0, 0), none, some (.iastore, 1, 0, 0, 0), some (.aload_n 0, 1, 0, 0, 0), some (.getfield 42, 3, 9, 6, 546)],
  [none, none, some (.aload_n 0, 1, 0, 0, 0), some (.getfield 23, 3, 9, 3, 543), none, none, some (.iconst 2, 1, 0, 0, 0), some (.invokevirtual 158, 3, 21, 0, 779), none, none, some (.iload_n 3, 1, 0, 0, 0), some (.if_icmp .lt 6, 3, 0, 0, 0), none, none, some (.iload 4, 2, 0, 0, 0)],
  [some (.ireturn, 1, 0, 0, 0), some (.iinc 4 1, 3, 0, 0, 0), none, none, some (.goto (-40), 3, 0, 0, 0), none, none, some (.bipush (-2), 2, 0, 0, 0), none, some (.ireturn, 1, 0, 0, 0)]], 1, 2, 1, 9)
/-- FallMarket.windIn(I)I -/
def jm_M99 : jm_M := (⟨"FallMarket", "windIn", "(I)I"⟩, prog_1_method_20_code, 2, some .int, [[some (.iload_n 1, 1, 0, 0, 0), some (.iconst 0, 1, 0, 0, 0), some (.bipush 60, 2, 0, 0, 0), none, some (.invokestatic 161, 3, 128, 0, 784), none, none, some (.ifCond .ne 5, 3, 0, 0, 0), none, none, some (.iconst (-1), 1, 0, 0, 0), some (.ireturn, 1, 0, 0, 0), some (.aload_n 0, 1, 0, 0, 0), some (.getfield 42, 3, 9, 6, 546)],
  [some (.aload_n 0, 1, 0, 0, 0), some (.getfield 23, 3, 9, 3, 543), none, none, some (.aload_n 0, 1, 0, 0, 0), some (.getfield 65, 3, 9, 9, 549), none, none, some (.getfield 180, 3, 1, 0, 389), none, none, some (.iload_n 1, 1, 0, 0, 0), some (.iadd, 1, 0, 0, 0), some (.aload_n 0, 1, 0, 0, 0), some (.getfield 65, 3, 9, 9, 549)],
  [none, some (.iconst 0, 1, 0, 0, 0), some (.aload_n 0, 1, 0, 0, 0), some (.getfield 23, 3, 9, 3, 543), none, none, some (.getfield 183, 3, 5, 0, 148), none, none, some (.invokevirtual 186, 3, 12, 0, 760), none, none, some (.invokevirtual 189, 3, 17, 0, 774), none, none, some (.aload_n 0, 1, 0, 0, 0)],
  [some (.getfield 42, 3, 9, 6, 546), none, none, some (.getfield 193, 3, 2, 0, 342), none, none, some (.iconst 3, 1, 0, 0, 0), some (.iaload, 1, 0, 0, 0), some (.ireturn, 1, 0, 0, 0)]], 1, 1, 1, 9)
/-- FallMarket.next(Z)I -/
def jm_M100 : jm_M := (⟨"FallMarket", "next", "(Z)I"⟩, prog_1_method_21_code, 6, some .int, [[some (.bipush (-2), 2, 0, 0, 0), none, some (.istore_n 2, 1, 0, 0, 0), some (.bipush (-2), 2, 0, 0, 0), none, some (.istore_n 3, 1, 0, 0, 0), some (.iconst 0, 1, 0, 0, 0), some (.istore 4, 2, 0, 0, 0), none, some (.iload 4, 2, 0, 0, 0), none, some (.aload_n 0, 1, 0, 0, 0), some (.getfield 23, 3, 9, 3, 543), none, none, some (.getfield 183, 3, 5, 0, 148)],
  [none, none, some (.if_icmp .ge 54, 3, 0, 0, 0), none, none, some (.aload_n 0, 1, 0, 0, 0), some (.getfield 65, 3, 9, 9, 549), none, none, some (.getfield 112, 3, 1, 4, 402), none, none, some (.iload 4, 2, 0, 0, 0), none, some (.iaload, 1, 0, 0, 0), some (.ifCond .ne 35, 3, 0, 0, 0)],
  [none, none, some (.aload_n 0, 1, 0, 0, 0), some (.iload 4, 2, 0, 0, 0), none, some (.invokevirtual 155, 3, 120, 0, 756), none, none, some (.aload_n 0, 1, 0, 0, 0), some (.getfield 42, 3, 9, 6, 546), none, none, some (.aload_n 0, 1, 0, 0, 0), some (.getfield 23, 3, 9, 3, 543)],
  [some (.iconst 2, 1, 0, 0, 0), some (.invokevirtual 158, 3, 21, 0, 779), none, none, some (.istore 5, 2, 0, 0, 0), none, some (.iload 5, 2, 0, 0, 0), none, some (.iload_n 3, 1, 0, 0, 0), some (.if_icmp .le 9, 3, 0, 0, 0), none, none, some (.iload 5, 2, 0, 0, 0), none, some (.istore_n 3, 1, 0, 0, 0), some (.iload 4, 2, 0, 0, 0)],
  [none, some (.istore_n 2, 1, 0, 0, 0), some (.iinc 4 1, 3, 0, 0, 0), none, none, some (.goto (-60), 3, 0, 0, 0), none, none, some (.iload_n 1, 1, 0, 0, 0), some (.ifCond .eq 7, 3, 0, 0, 0), none, none, some (.iload_n 3, 1, 0, 0, 0), some (.goto 4, 3, 0, 0, 0)],
  [some (.iload_n 2, 1, 0, 0, 0), some (.ireturn, 1, 0, 0, 0)]], 1, 1, 1, 9)
/-- FallMarket.catcher(I)I -/
def jm_M101 : jm_M := (⟨"FallMarket", "catcher", "(I)I"⟩, prog_1_method_22_code, 2, some .int, [[some (.aload_n 0, 1, 0, 0, 0), some (.iload_n 1, 1, 0, 0, 0), some (.invokevirtual 108, 3, 118, 0, 736), none, none, some (.ifCond .ne 5, 3, 0, 0, 0), none, none, some (.iconst (-1), 1, 0, 0, 0), some (.ireturn, 1, 0, 0, 0), some (.aload_n 0, 1, 0, 0, 0), some (.iload_n 1, 1, 0, 0, 0), some (.invokevirtual 155, 3, 120, 0, 756), none, none, some (.aload_n 0, 1, 0, 0, 0)],
  [some (.getfield 42, 3, 9, 6, 546), none, none, some (.getfield 193, 3, 2, 0, 342), none, none, some (.bipush 7, 2, 0, 0, 0), none, some (.iconst 0, 1, 0, 0, 0), some (.iastore, 1, 0, 0, 0), some (.aload_n 0, 1, 0, 0, 0), some (.getfield 65, 3, 9, 9, 549), none, none, some (.aload_n 0, 1, 0, 0, 0), some (.getfield 23, 3, 9, 3, 543)],
  [none, none, some (.aload_n 0, 1, 0, 0, 0), some (.getfield 23, 3, 9, 3, 543), none, none, some (.getfield 118, 3, 5, 1, 153), none, none, some (.iload_n 1, 1, 0, 0, 0), some (.iaload, 1, 0, 0, 0), some (.aload_n 0, 1, 0, 0, 0), some (.getfield 42, 3, 9, 6, 546), none, none, some (.aload_n 0, 1, 0, 0, 0)],
  [some (.getfield 23, 3, 9, 3, 543), none, none, some (.iconst 3, 1, 0, 0, 0), some (.invokevirtual 158, 3, 21, 0, 779), none, none, some (.invokevirtual 240, 3, 13, 0, 898), none, none, some (.ireturn, 1, 0, 0, 0)]], 1, 1, 1, 9)
/-- FallMarket.then(III)I -/
def jm_M102 : jm_M := (⟨"FallMarket", "then", "(III)I"⟩, prog_1_method_23_code, 4, some .int, [[some (.aload_n 0, 1, 0, 0, 0), some (.iload_n 1, 1, 0, 0, 0), some (.invokevirtual 108, 3, 118, 0, 736), none, none, some (.ifCond .eq 22, 3, 0, 0, 0), none, none, some (.iload_n 2, 1, 0, 0, 0), some (.iconst 0, 1, 0, 0, 0), some (.bipush 60, 2, 0, 0, 0), none, some (.invokestatic 161, 3, 128, 0, 784), none, none, some (.ifCond .eq 12, 3, 0, 0, 0)],
  [none, none, some (.iload_n 3, 1, 0, 0, 0), some (.iconst 0, 1, 0, 0, 0), some (.iconst 1, 1, 0, 0, 0), some (.invokestatic 161, 3, 128, 0, 784), none, none, some (.ifCond .ne 5, 3, 0, 0, 0), none, none, some (.iconst (-1), 1, 0, 0, 0), some (.ireturn, 1, 0, 0, 0), some (.aload_n 0, 1, 0, 0, 0), some (.iload_n 2, 1, 0, 0, 0), some (.invokevirtual 244, 3, 121, 0, 942)],
  [none, none, some (.iload_n 3, 1, 0, 0, 0), some (.ifCond .ne 15, 3, 0, 0, 0), none, none, some (.aload_n 0, 1, 0, 0, 0), some (.getfield 69, 3, 9, 10, 550), none, none, some (.getfield 112, 3, 1, 4, 402), none, none, some (.iload_n 1, 1, 0, 0, 0), some (.iaload, 1, 0, 0, 0), some (.goto 12, 3, 0, 0, 0)],
  [none, none, some (.aload_n 0, 1, 0, 0, 0), some (.getfield 69, 3, 9, 10, 550), none, none, some (.getfield 127, 3, 1, 5, 404), none, none, some (.iload_n 1, 1, 0, 0, 0), some (.iaload, 1, 0, 0, 0), some (.ireturn, 1, 0, 0, 0)]], 1, 3, 1, 9)
/-- FallMarket.paid(II)I -/
def jm_M103 : jm_M := (⟨"FallMarket", "paid", "(II)I"⟩, prog_1_method_24_code, 3, some .int, [[some (.aload_n 0, 1, 0, 0, 0), some (.iload_n 1, 1, 0, 0, 0), some (.invokevirtual 139, 3, 119, 0, 744), none, none, some (.ifCond .eq 13, 3, 0, 0, 0), none, none, some (.iload_n 2, 1, 0, 0, 0), some (.iconst 0, 1, 0, 0, 0), some (.bipush 60, 2, 0, 0, 0), none, some (.invokestatic 161, 3, 128, 0, 784), none, none, some (.ifCond .ne 5, 3, 0, 0, 0)],
  [none, none, some (.iconst (-1), 1, 0, 0, 0), some (.ireturn, 1, 0, 0, 0), some (.aload_n 0, 1, 0, 0, 0), some (.iload_n 2, 1, 0, 0, 0), some (.invokevirtual 244, 3, 121, 0, 942), none, none, some (.aload_n 0, 1, 0, 0, 0), some (.getfield 65, 3, 9, 9, 549), none, none, some (.getfield 148, 3, 1, 11, 424)],
  [some (.iload_n 1, 1, 0, 0, 0), some (.iaload, 1, 0, 0, 0), some (.aload_n 0, 1, 0, 0, 0), some (.getfield 69, 3, 9, 10, 550), none, none, some (.getfield 148, 3, 1, 11, 424), none, none, some (.iload_n 1, 1, 0, 0, 0), some (.iaload, 1, 0, 0, 0), some (.isub, 1, 0, 0, 0), some (.ireturn, 1, 0, 0, 0)]], 1, 2, 1, 9)
/-- FallMarket.much(II)I -/
def jm_M104 : jm_M := (⟨"FallMarket", "much", "(II)I"⟩, prog_1_method_25_code, 3, some .int, [[some (.iload_n 1, 1, 0, 0, 0), some (.iconst 0, 1, 0, 0, 0), some (.bipush 60, 2, 0, 0, 0), none, some (.invokestatic 161, 3, 128, 0, 784), none, none, some (.ifCond .eq 12, 3, 0, 0, 0), none, none, some (.iload_n 2, 1, 0, 0, 0), some (.iconst 0, 1, 0, 0, 0), some (.iconst 3, 1, 0, 0, 0), some (.invokestatic 161, 3, 128, 0, 784)],
  [some (.ifCond .ne 5, 3, 0, 0, 0), none, none, some (.iconst (-1), 1, 0, 0, 0), some (.ireturn, 1, 0, 0, 0), some (.aload_n 0, 1, 0, 0, 0), some (.iload_n 1, 1, 0, 0, 0), some (.invokevirtual 244, 3, 121, 0, 942), none, none, some (.aload_n 0, 1, 0, 0, 0), some (.getfield 69, 3, 9, 10, 550), none, none, some (.iload_n 2, 1, 0, 0, 0), some (.aload_n 0, 1, 0, 0, 0)],
  [some (.getfield 23, 3, 9, 3, 543), none, none, some (.getfield 183, 3, 5, 0, 148), none, none, some (.invokevirtual 186, 3, 12, 0, 760), none, none, some (.ireturn, 1, 0, 0, 0)]], 1, 2, 1, 9)
/-- FallMarket.last(I)I -/
def jm_M105 : jm_M := (⟨"FallMarket", "last", "(I)I"⟩, prog_1_method_26_code, 5, some .int, [[some (.iload_n 1, 1, 0, 0, 0), some (.iconst 0, 1, 0, 0, 0), some (.iconst 1, 1, 0, 0, 0), some (.invokestatic 161, 3, 128, 0, 784), none, none, some (.ifCond .ne 5, 3, 0, 0, 0), none, none, some (.iconst (-1), 1, 0, 0, 0), some (.ireturn, 1, 0, 0, 0), some (.aload_n 0, 1, 0, 0, 0), some (.getfield 69, 3, 9, 10, 550), none, none, some (.aload_n 0, 1, 0, 0, 0)],
  [some (.getfield 65, 3, 9, 9, 549), none, none, some (.invokevirtual 247, 3, 8, 0, 894), none, none, some (.aload_n 0, 1, 0, 0, 0), some (.getfield 69, 3, 9, 10, 550), none, none, some (.iconst 0, 1, 0, 0, 0), some (.aload_n 0, 1, 0, 0, 0), some (.getfield 23, 3, 9, 3, 543), none, none, some (.getfield 183, 3, 5, 0, 148)],
  [none, none, some (.invokevirtual 250, 3, 11, 0, 958), none, none, some (.istore_n 2, 1, 0, 0, 0), some (.iconst 1, 1, 0, 0, 0), some (.istore_n 3, 1, 0, 0, 0), some (.iload_n 3, 1, 0, 0, 0), some (.sipush 200, 3, 0, 0, 0), none, none, some (.if_icmp .gt 73, 3, 0, 0, 0), none, none, some (.iload_n 2, 1, 0, 0, 0)],
  [some (.ifCond .eq 69, 3, 0, 0, 0), none, none, some (.aload_n 0, 1, 0, 0, 0), some (.getfield 51, 3, 9, 7, 547), none, none, some (.aload_n 0, 1, 0, 0, 0), some (.getfield 23, 3, 9, 3, 543), none, none, some (.aload_n 0, 1, 0, 0, 0), some (.getfield 69, 3, 9, 10, 550), none, none, some (.aload_n 0, 1, 0, 0, 0)],
  [some (.getfield 23, 3, 9, 3, 543), none, none, some (.getfield 169, 3, 5, 11, 183), none, none, some (.invokevirtual 199, 3, 3, 0, 813), none, none, some (.aload_n 0, 1, 0, 0, 0), some (.getfield 69, 3, 9, 10, 550), none, none, some (.iconst 0, 1, 0, 0, 0), some (.aload_n 0, 1, 0, 0, 0), some (.getfield 23, 3, 9, 3, 543)],
  [none, none, some (.getfield 183, 3, 5, 0, 148), none, none, some (.invokevirtual 250, 3, 11, 0, 958), none, none, some (.istore 4, 2, 0, 0, 0), none, some (.iload 4, 2, 0, 0, 0), none, some (.ifCond .ne 16, 3, 0, 0, 0), none, none, some (.iload_n 1, 1, 0, 0, 0)],
  [some (.ifCond .ne 10, 3, 0, 0, 0), none, none, some (.iload_n 2, 1, 0, 0, 0), some (.invokestatic 253, 3, 130, 0, 959), none, none, some (.goto 4, 3, 0, 0, 0), none, none, some (.iload_n 3, 1, 0, 0, 0), some (.ireturn, 1, 0, 0, 0), some (.iload 4, 2, 0, 0, 0), none, some (.istore_n 2, 1, 0, 0, 0), some (.iinc 3 1, 3, 0, 0, 0)],
  [none, none, some (.goto (-74), 3, 0, 0, 0), none, none, some (.bipush (-2), 2, 0, 0, 0), none, some (.ireturn, 1, 0, 0, 0)]], 1, 1, 1, 9)
/-- FallMarket.asleep()I -/
def jm_M106 : jm_M := (⟨"FallMarket", "asleep", "()I"⟩, prog_1_method_27_code, 3, some .int, [[some (.aload_n 0, 1, 0, 0, 0), some (.getfield 69, 3, 9, 10, 550), none, none, some (.aload_n 0, 1, 0, 0, 0), some (.getfield 65, 3, 9, 9, 549), none, none, some (.invokevirtual 247, 3, 8, 0, 894), none, none, some (.iconst 0, 1, 0, 0, 0), some (.istore_n 1, 1, 0, 0, 0), some (.iload_n 1, 1, 0, 0, 0), some (.sipush 200, 3, 0, 0, 0)],
  [none, some (.if_icmp .gt 68, 3, 0, 0, 0), none, none, some (.aload_n 0, 1, 0, 0, 0), some (.getfield 69, 3, 9, 10, 550), none, none, some (.iconst 2, 1, 0, 0, 0), some (.aload_n 0, 1, 0, 0, 0), some (.getfield 23, 3, 9, 3, 543), none, none, some (.getfield 183, 3, 5, 0, 148)],
  [some (.invokevirtual 186, 3, 12, 0, 760), none, none, some (.istore_n 2, 1, 0, 0, 0), some (.aload_n 0, 1, 0, 0, 0), some (.getfield 51, 3, 9, 7, 547), none, none, some (.aload_n 0, 1, 0, 0, 0), some (.getfield 23, 3, 9, 3, 543), none, none, some (.aload_n 0, 1, 0, 0, 0), some (.getfield 69, 3, 9, 10, 550)],
  [some (.aload_n 0, 1, 0, 0, 0), some (.getfield 23, 3, 9, 3, 543), none, none, some (.getfield 169, 3, 5, 11, 183), none, none, some (.invokevirtual 199, 3, 3, 0, 813), none, none, some (.aload_n 0, 1, 0, 0, 0), some (.getfield 69, 3, 9, 10, 550), none, none, some (.iconst 2, 1, 0, 0, 0), some (.aload_n 0, 1, 0, 0, 0)],
  [some (.getfield 23, 3, 9, 3, 543), none, none, some (.getfield 183, 3, 5, 0, 148), none, none, some (.invokevirtual 186, 3, 12, 0, 760), none, none, some (.iload_n 2, 1, 0, 0, 0), some (.if_icmp .ne 5, 3, 0, 0, 0), none, none, some (.iload_n 1, 1, 0, 0, 0), some (.ireturn, 1, 0, 0, 0), some (.iinc 1 1, 3, 0, 0, 0)],
  [none, none, some (.goto (-69), 3, 0, 0, 0), none, none, some (.bipush (-2), 2, 0, 0, 0), none, some (.ireturn, 1, 0, 0, 0)]], 1, 0, 1, 9)
/-- FallMarket.year(IIII)I -/
def jm_M107 : jm_M := (⟨"FallMarket", "year", "(IIII)I"⟩, prog_1_method_28_code, 8, some .int, [[some (.aload_n 0, 1, 0, 0, 0), some (.iload_n 1, 1, 0, 0, 0), some (.invokevirtual 139, 3, 119, 0, 744), none, none, some (.ifCond .eq 32, 3, 0, 0, 0), none, none, some (.aload_n 0, 1, 0, 0, 0), some (.iload_n 2, 1, 0, 0, 0), some (.invokevirtual 108, 3, 118, 0, 736), none, none, some (.ifCond .eq 24, 3, 0, 0, 0)],
  [some (.iload_n 3, 1, 0, 0, 0), some (.iconst 0, 1, 0, 0, 0), some (.bipush 60, 2, 0, 0, 0), none, some (.invokestatic 161, 3, 128, 0, 784), none, none, some (.ifCond .eq 14, 3, 0, 0, 0), none, none, some (.iload 4, 2, 0, 0, 0), none, some (.iconst 1, 1, 0, 0, 0), some (.bipush 20, 2, 0, 0, 0), none, some (.invokestatic 161, 3, 128, 0, 784)],
  [none, none, some (.ifCond .ne 5, 3, 0, 0, 0), none, none, some (.iconst (-1), 1, 0, 0, 0), some (.ireturn, 1, 0, 0, 0), some (.iconst 0, 1, 0, 0, 0), some (.istore 5, 2, 0, 0, 0), none, some (.iconst 0, 1, 0, 0, 0), some (.istore 6, 2, 0, 0, 0), none, some (.iload 6, 2, 0, 0, 0), none, some (.iload 4, 2, 0, 0, 0)],
  [none, some (.if_icmp .ge 89, 3, 0, 0, 0), none, none, some (.aload_n 0, 1, 0, 0, 0), some (.getfield 69, 3, 9, 10, 550), none, none, some (.aload_n 0, 1, 0, 0, 0), some (.getfield 65, 3, 9, 9, 549), none, none, some (.invokevirtual 247, 3, 8, 0, 894), none, none, some (.iconst 0, 1, 0, 0, 0)],
  [some (.istore 7, 2, 0, 0, 0), none, some (.iload 7, 2, 0, 0, 0), none, some (.iload_n 3, 1, 0, 0, 0), some (.if_icmp .ge 47, 3, 0, 0, 0), none, none, some (.aload_n 0, 1, 0, 0, 0), some (.getfield 69, 3, 9, 10, 550), none, none, some (.getfield 112, 3, 1, 4, 402), none, none, some (.iload_n 2, 1, 0, 0, 0)],
  [some (.iaload, 1, 0, 0, 0), some (.iconst 1, 1, 0, 0, 0), some (.if_icmp .gt 34, 3, 0, 0, 0), none, none, some (.aload_n 0, 1, 0, 0, 0), some (.getfield 51, 3, 9, 7, 547), none, none, some (.aload_n 0, 1, 0, 0, 0), some (.getfield 23, 3, 9, 3, 543), none, none, some (.aload_n 0, 1, 0, 0, 0), some (.getfield 69, 3, 9, 10, 550)],
  [none, some (.aload_n 0, 1, 0, 0, 0), some (.getfield 23, 3, 9, 3, 543), none, none, some (.getfield 169, 3, 5, 11, 183), none, none, some (.iload 6, 2, 0, 0, 0), none, some (.iadd, 1, 0, 0, 0), some (.invokevirtual 199, 3, 3, 0, 813), none, none, some (.iinc 7 1, 3, 0, 0, 0)],
  [none, some (.goto (-47), 3, 0, 0, 0), none, none, some (.aload_n 0, 1, 0, 0, 0), some (.getfield 69, 3, 9, 10, 550), none, none, some (.getfield 127, 3, 1, 5, 404), none, none, some (.iload_n 2, 1, 0, 0, 0), some (.iaload, 1, 0, 0, 0), some (.iload_n 1, 1, 0, 0, 0), some (.if_icmp .ne 6, 3, 0, 0, 0)],
  [none, some (.iinc 5 1, 3, 0, 0, 0), none, none, some (.iinc 6 1, 3, 0, 0, 0), none, none, some (.goto (-90), 3, 0, 0, 0), none, none, some (.iload 5, 2, 0, 0, 0), none, some (.ireturn, 1, 0, 0, 0)]], 1, 4, 1, 9)
/-- FallMarket.tell(II)I -/
def jm_M108 : jm_M := (⟨"FallMarket", "tell", "(II)I"⟩, prog_1_method_29_code, 3, some .int, [[some (.iload_n 1, 1, 0, 0, 0), some (.iconst 1, 1, 0, 0, 0), some (.bipush 9, 2, 0, 0, 0), none, some (.invokestatic 161, 3, 128, 0, 784), none, none, some (.ifCond .eq 13, 3, 0, 0, 0), none, none, some (.iload_n 2, 1, 0, 0, 0), some (.iconst 0, 1, 0, 0, 0), some (.bipush 9, 2, 0, 0, 0), none, some (.invokestatic 161, 3, 128, 0, 784)],
  [none, some (.ifCond .ne 5, 3, 0, 0, 0), none, none, some (.iconst (-1), 1, 0, 0, 0), some (.ireturn, 1, 0, 0, 0), some (.aload_n 0, 1, 0, 0, 0), some (.getfield 90, 3, 9, 14, 554), none, none, some (.iload_n 1, 1, 0, 0, 0), some (.iload_n 2, 1, 0, 0, 0), some (.invokevirtual 256, 3, 69, 0, 974), none, none, some (.ireturn, 1, 0, 0, 0)]], 1, 2, 1, 9)
/-- FallMarket.forget()I -/
def jm_M109 : jm_M := (⟨"FallMarket", "forget", "()I"⟩, prog_1_method_30_code, 2, some .int, [[some (.aload_n 0, 1, 0, 0, 0), some (.getfield 90, 3, 9, 14, 554), none, none, some (.getfield 259, 3, 7, 2, 476), none, none, some (.istore_n 1, 1, 0, 0, 0), some (.aload_n 0, 1, 0, 0, 0), some (.getfield 90, 3, 9, 14, 554), none, none, some (.iconst 0, 1, 0, 0, 0), some (.putfield 259, 3, 7, 2, 476)],
  [some (.iload_n 1, 1, 0, 0, 0), some (.ireturn, 1, 0, 0, 0)]], 1, 0, 1, 9)
/-- FallMarket.rows(I)I -/
def jm_M110 : jm_M := (⟨"FallMarket", "rows", "(I)I"⟩, prog_1_method_31_code, 2, some .int, [[some (.iload_n 1, 1, 0, 0, 0), some (.iconst 0, 1, 0, 0, 0), some (.aload_n 0, 1, 0, 0, 0), some (.getfield 90, 3, 9, 14, 554), none, none, some (.getfield 259, 3, 7, 2, 476), none, none, some (.invokestatic 161, 3, 128, 0, 784), none, none, some (.ifCond .eq 18, 3, 0, 0, 0), none, none, some (.aload_n 0, 1, 0, 0, 0)],
  [some (.getfield 90, 3, 9, 14, 554), none, none, some (.aload_n 0, 1, 0, 0, 0), some (.getfield 23, 3, 9, 3, 543), none, none, some (.iload_n 1, 1, 0, 0, 0), some (.invokevirtual 262, 3, 70, 0, 986), none, none, some (.goto 4, 3, 0, 0, 0), none, none, some (.iconst (-1), 1, 0, 0, 0), some (.ireturn, 1, 0, 0, 0)]], 1, 1, 1, 9)
/-- FallMarket.sure(II)I -/
def jm_M111 : jm_M := (⟨"FallMarket", "sure", "(II)I"⟩, prog_1_method_32_code, 4, some .int, [[some (.iload_n 1, 1, 0, 0, 0), some (.iconst 0, 1, 0, 0, 0), some (.aload_n 0, 1, 0, 0, 0), some (.getfield 90, 3, 9, 14, 554), none, none, some (.getfield 259, 3, 7, 2, 476), none, none, some (.invokestatic 161, 3, 128, 0, 784), none, none, some (.ifCond .eq 14, 3, 0, 0, 0), none, none, some (.iload_n 2, 1, 0, 0, 0)],
  [some (.iconst 0, 1, 0, 0, 0), some (.iload_n 1, 1, 0, 0, 0), some (.iconst 1, 1, 0, 0, 0), some (.isub, 1, 0, 0, 0), some (.invokestatic 161, 3, 128, 0, 784), none, none, some (.ifCond .ne 5, 3, 0, 0, 0), none, none, some (.iconst (-1), 1, 0, 0, 0), some (.ireturn, 1, 0, 0, 0), some (.aload_n 0, 1, 0, 0, 0), some (.getfield 90, 3, 9, 14, 554)],
  [some (.aload_n 0, 1, 0, 0, 0), some (.getfield 23, 3, 9, 3, 543), none, none, some (.iload_n 1, 1, 0, 0, 0), some (.invokevirtual 262, 3, 70, 0, 986), none, none, some (.ifCond .le 23, 3, 0, 0, 0), none, none, some (.aload_n 0, 1, 0, 0, 0), some (.getfield 90, 3, 9, 14, 554), none, none, some (.aload_n 0, 1, 0, 0, 0)],
  [some (.getfield 23, 3, 9, 3, 543), none, none, some (.iload_n 2, 1, 0, 0, 0), some (.invokevirtual 265, 3, 71, 0, 1006), none, none, some (.iconst 1, 1, 0, 0, 0), some (.if_icmp .ne 7, 3, 0, 0, 0), none, none, some (.iconst 1, 1, 0, 0, 0), some (.goto 4, 3, 0, 0, 0), none, none, some (.iconst 0, 1, 0, 0, 0)],
  [some (.istore_n 3, 1, 0, 0, 0), some (.iload_n 3, 1, 0, 0, 0), some (.ifCond .eq 18, 3, 0, 0, 0), none, none, some (.aload_n 0, 1, 0, 0, 0), some (.getfield 90, 3, 9, 14, 554), none, none, some (.aload_n 0, 1, 0, 0, 0), some (.getfield 23, 3, 9, 3, 543), none, none, some (.iload_n 2, 1, 0, 0, 0), some (.invokevirtual 268, 3, 72, 0, 1007)],
  [none, some (.goto 5, 3, 0, 0, 0), none, none, some (.bipush (-2), 2, 0, 0, 0), none, some (.ireturn, 1, 0, 0, 0)]], 1, 2, 1, 9)
end
section
/-! ===== the methods, a row each ===== -/
/-- FallMarket.ask(I)I -/
def jm_M112 : jm_M := (⟨"FallMarket", "ask", "(I)I"⟩, prog_1_method_33_code, 2, some .int, [[some (.iload_n 1, 1, 0, 0, 0), some (.iconst 0, 1, 0, 0, 0), some (.aload_n 0, 1, 0, 0, 0), some (.getfield 90, 3, 9, 14, 554), none, none, some (.getfield 259, 3, 7, 2, 476), none, none, some (.invokestatic 161, 3, 128, 0, 784), none, none, some (.ifCond .ne 5, 3, 0, 0, 0), none, none, some (.iconst (-1), 1, 0, 0, 0)],
  [some (.ireturn, 1, 0, 0, 0), some (.iload_n 1, 1, 0, 0, 0), some (.ifCond .eq 18, 3, 0, 0, 0), none, none, some (.aload_n 0, 1, 0, 0, 0), some (.getfield 90, 3, 9, 14, 554), none, none, some (.aload_n 0, 1, 0, 0, 0), some (.getfield 23, 3, 9, 3, 543), none, none, some (.iload_n 1, 1, 0, 0, 0), some (.invokevirtual 262, 3, 70, 0, 986)],
  [none, some (.ifCond .ne 6, 3, 0, 0, 0), none, none, some (.bipush (-2), 2, 0, 0, 0), none, some (.ireturn, 1, 0, 0, 0), some (.aload_n 0, 1, 0, 0, 0), some (.getfield 90, 3, 9, 14, 554), none, none, some (.aload_n 0, 1, 0, 0, 0), some (.getfield 23, 3, 9, 3, 543), none, none, some (.iload_n 1, 1, 0, 0, 0)],
  [some (.invokevirtual 271, 3, 73, 0, 1015), none, none, some (.ireturn, 1, 0, 0, 0)]], 1, 1, 1, 9)
/-- FallMarket.hold(I)Z -/
def jm_M113 : jm_M := (⟨"FallMarket", "hold", "(I)Z"⟩, prog_1_method_34_code, 2, some .boolean, [[some (.iload_n 1, 1, 0, 0, 0), some (.iconst 0, 1, 0, 0, 0), some (.iconst 2, 1, 0, 0, 0), some (.invokestatic 161, 3, 128, 0, 784), none, none, some (.ifCond .ne 5, 3, 0, 0, 0), none, none, some (.iconst 0, 1, 0, 0, 0), some (.ireturn, 1, 0, 0, 0), some (.aload_n 0, 1, 0, 0, 0), some (.getfield 65, 3, 9, 9, 549), none, none, some (.aload_n 0, 1, 0, 0, 0)],
  [some (.getfield 79, 3, 9, 12, 552), none, none, some (.iload_n 1, 1, 0, 0, 0), some (.bipush 60, 2, 0, 0, 0), none, some (.imul, 1, 0, 0, 0), some (.invokevirtual 274, 3, 9, 0, 1023), none, none, some (.aload_n 0, 1, 0, 0, 0), some (.getfield 83, 3, 9, 13, 553), none, none, some (.iload_n 1, 1, 0, 0, 0), some (.iconst 1, 1, 0, 0, 0)],
  [some (.bastore, 1, 0, 0, 0), some (.iconst 1, 1, 0, 0, 0), some (.ireturn, 1, 0, 0, 0)]], 1, 1, 1, 9)
/-- FallMarket.restore(I)Z -/
def jm_M114 : jm_M := (⟨"FallMarket", "restore", "(I)Z"⟩, prog_1_method_35_code, 2, some .boolean, [[some (.iload_n 1, 1, 0, 0, 0), some (.iconst 0, 1, 0, 0, 0), some (.iconst 2, 1, 0, 0, 0), some (.invokestatic 161, 3, 128, 0, 784), none, none, some (.ifCond .eq 12, 3, 0, 0, 0), none, none, some (.aload_n 0, 1, 0, 0, 0), some (.getfield 83, 3, 9, 13, 553), none, none, some (.iload_n 1, 1, 0, 0, 0), some (.baload, 1, 0, 0, 0), some (.ifCond .ne 5, 3, 0, 0, 0)],
  [none, none, some (.iconst 0, 1, 0, 0, 0), some (.ireturn, 1, 0, 0, 0), some (.aload_n 0, 1, 0, 0, 0), some (.getfield 65, 3, 9, 9, 549), none, none, some (.aload_n 0, 1, 0, 0, 0), some (.getfield 79, 3, 9, 12, 552), none, none, some (.iload_n 1, 1, 0, 0, 0), some (.bipush 60, 2, 0, 0, 0), none, some (.imul, 1, 0, 0, 0)],
  [some (.invokevirtual 278, 3, 10, 0, 1028), none, none, some (.aload_n 0, 1, 0, 0, 0), some (.getfield 75, 3, 9, 11, 551), none, none, some (.invokevirtual 281, 3, 77, 0, 535), none, none, some (.iconst 1, 1, 0, 0, 0), some (.ireturn, 1, 0, 0, 0)]], 1, 1, 1, 9)
def jm_M115_r0 : List (Option jm_I) := [some (.iload_n 1, 1, 0, 0, 0), some (.tableswitch 274 0 18 #[91, 99, 107, 115, 121, 137, 153, 169, 185, 190, 198, 206, 211, 219, 227, 243, 248, 253, 258], 91, 0, 0, 0)]
def jm_M115_r1 : List (Option jm_I) := []
def jm_M115_r2 : List (Option jm_I) := []
def jm_M115_r3 : List (Option jm_I) := []
def jm_M115_r4 : List (Option jm_I) := []
def jm_M115_r5 : List (Option jm_I) := [none, none, none, none, none, none, none, none, none, none, none, none, some (.aload_n 0, 1, 0, 0, 0), some (.getfield 23, 3, 9, 3, 543)]
def jm_M115_r6 : List (Option jm_I) := [some (.getfield 183, 3, 5, 0, 148), none, none, some (.ireturn, 1, 0, 0, 0), some (.aload_n 0, 1, 0, 0, 0), some (.getfield 23, 3, 9, 3, 543), none, none, some (.getfield 284, 3, 5, 5, 167), none, none, some (.ireturn, 1, 0, 0, 0), some (.aload_n 0, 1, 0, 0, 0), some (.getfield 65, 3, 9, 9, 549)]
def jm_M115_r7 : List (Option jm_I) := [some (.getfield 180, 3, 1, 0, 389), none, none, some (.ireturn, 1, 0, 0, 0), some (.aload_n 0, 1, 0, 0, 0), some (.iconst 0, 1, 0, 0, 0), some (.invokevirtual 287, 3, 99, 0, 1033), none, none, some (.ireturn, 1, 0, 0, 0), some (.aload_n 0, 1, 0, 0, 0), some (.getfield 65, 3, 9, 9, 549), none, none, some (.iconst 0, 1, 0, 0, 0), some (.aload_n 0, 1, 0, 0, 0)]
def jm_M115_r8 : List (Option jm_I) := [some (.getfield 23, 3, 9, 3, 543), none, none, some (.getfield 183, 3, 5, 0, 148), none, none, some (.invokevirtual 250, 3, 11, 0, 958), none, none, some (.ireturn, 1, 0, 0, 0), some (.aload_n 0, 1, 0, 0, 0), some (.getfield 65, 3, 9, 9, 549), none, none, some (.iconst 1, 1, 0, 0, 0), some (.aload_n 0, 1, 0, 0, 0)]
def jm_M115_r9 : List (Option jm_I) := [some (.getfield 23, 3, 9, 3, 543), none, none, some (.getfield 183, 3, 5, 0, 148), none, none, some (.invokevirtual 250, 3, 11, 0, 958), none, none, some (.ireturn, 1, 0, 0, 0), some (.aload_n 0, 1, 0, 0, 0), some (.getfield 65, 3, 9, 9, 549), none, none, some (.iconst 2, 1, 0, 0, 0), some (.aload_n 0, 1, 0, 0, 0)]
def jm_M115_r10 : List (Option jm_I) := [some (.getfield 23, 3, 9, 3, 543), none, none, some (.getfield 183, 3, 5, 0, 148), none, none, some (.invokevirtual 250, 3, 11, 0, 958), none, none, some (.ireturn, 1, 0, 0, 0), some (.aload_n 0, 1, 0, 0, 0), some (.getfield 65, 3, 9, 9, 549), none, none, some (.iconst 3, 1, 0, 0, 0), some (.aload_n 0, 1, 0, 0, 0)]
def jm_M115_r11 : List (Option jm_I) := [some (.getfield 23, 3, 9, 3, 543), none, none, some (.getfield 183, 3, 5, 0, 148), none, none, some (.invokevirtual 250, 3, 11, 0, 958), none, none, some (.ireturn, 1, 0, 0, 0), some (.aload_n 0, 1, 0, 0, 0), some (.getfield 13, 3, 9, 1, 541), none, none, some (.ireturn, 1, 0, 0, 0), some (.aload_n 0, 1, 0, 0, 0)]
def jm_M115_r12 : List (Option jm_I) := [some (.getfield 75, 3, 9, 11, 551), none, none, some (.getfield 290, 3, 8, 2, 459), none, none, some (.ireturn, 1, 0, 0, 0), some (.aload_n 0, 1, 0, 0, 0), some (.getfield 90, 3, 9, 14, 554), none, none, some (.getfield 259, 3, 7, 2, 476), none, none, some (.ireturn, 1, 0, 0, 0), some (.aload_n 0, 1, 0, 0, 0)]
def jm_M115_r13 : List (Option jm_I) := [some (.invokevirtual 291, 3, 124, 0, 1034), none, none, some (.ireturn, 1, 0, 0, 0), some (.aload_n 0, 1, 0, 0, 0), some (.getfield 65, 3, 9, 9, 549), none, none, some (.getfield 173, 3, 1, 1, 391), none, none, some (.ireturn, 1, 0, 0, 0), some (.aload_n 0, 1, 0, 0, 0), some (.getfield 65, 3, 9, 9, 549)]
def jm_M115_r14 : List (Option jm_I) := [some (.getfield 196, 3, 1, 2, 393), none, none, some (.ireturn, 1, 0, 0, 0), some (.aload_n 0, 1, 0, 0, 0), some (.getfield 65, 3, 9, 9, 549), none, none, some (.getfield 196, 3, 1, 2, 393), none, none, some (.aload_n 0, 1, 0, 0, 0), some (.getfield 23, 3, 9, 3, 543), none, none, some (.getfield 294, 3, 5, 9, 177)]
def jm_M115_r15 : List (Option jm_I) := [none, none, some (.imul, 1, 0, 0, 0), some (.ireturn, 1, 0, 0, 0), some (.aload_n 0, 1, 0, 0, 0), some (.invokevirtual 297, 3, 125, 0, 1038), none, none, some (.ireturn, 1, 0, 0, 0), some (.aload_n 0, 1, 0, 0, 0), some (.invokevirtual 300, 3, 126, 0, 1042), none, none, some (.ireturn, 1, 0, 0, 0), some (.aload_n 0, 1, 0, 0, 0), some (.invokevirtual 303, 3, 127, 0, 1046)]
def jm_M115_r16 : List (Option jm_I) := [none, none, some (.ireturn, 1, 0, 0, 0), some (.aload_n 0, 1, 0, 0, 0), some (.getfield 65, 3, 9, 9, 549), none, none, some (.iconst 2, 1, 0, 0, 0), some (.aload_n 0, 1, 0, 0, 0), some (.getfield 23, 3, 9, 3, 543), none, none, some (.getfield 183, 3, 5, 0, 148), none, none, some (.invokevirtual 186, 3, 12, 0, 760)]
def jm_M115_r17 : List (Option jm_I) := [none, none, some (.ireturn, 1, 0, 0, 0), some (.iconst (-1), 1, 0, 0, 0), some (.ireturn, 1, 0, 0, 0)]
/-- FallMarket.count(I)I -/
def jm_M115 : jm_M := (⟨"FallMarket", "count", "(I)I"⟩, prog_1_method_36_code, 2, some .int, [jm_M115_r0, jm_M115_r1, jm_M115_r2, jm_M115_r3, jm_M115_r4, jm_M115_r5, jm_M115_r6, jm_M115_r7, jm_M115_r8, jm_M115_r9, jm_M115_r10, jm_M115_r11, jm_M115_r12, jm_M115_r13, jm_M115_r14, jm_M115_r15, jm_M115_r16, jm_M115_r17], 1, 1, 1, 9)
/-- FallMarket.append(I)V -/
def jm_M116 : jm_M := (⟨"FallMarket", "append", "(I)V"⟩, prog_1_method_37_code, 3, none, [[some (.bipush 24, 2, 0, 0, 0), none, some (.istore_n 2, 1, 0, 0, 0), some (.iload_n 2, 1, 0, 0, 0), some (.ifCond .lt 42, 3, 0, 0, 0), none, none, some (.aload_n 0, 1, 0, 0, 0), some (.getfield 13, 3, 9, 1, 541), none, none, some (.sipush 2000, 3, 0, 0, 0), none, none, some (.if_icmp .ge 32, 3, 0, 0, 0)],
  [none, some (.aload_n 0, 1, 0, 0, 0), some (.getfield 9, 3, 9, 0, 540), none, none, some (.aload_n 0, 1, 0, 0, 0), some (.getfield 13, 3, 9, 1, 541), none, none, some (.iload_n 1, 1, 0, 0, 0), some (.iload_n 2, 1, 0, 0, 0), some (.iushr, 1, 0, 0, 0), some (.i2b, 1, 0, 0, 0), some (.bastore, 1, 0, 0, 0), some (.aload_n 0, 1, 0, 0, 0), some (.dup, 1, 0, 0, 0)],
  [some (.getfield 13, 3, 9, 1, 541), none, none, some (.iconst 1, 1, 0, 0, 0), some (.iadd, 1, 0, 0, 0), some (.putfield 13, 3, 9, 1, 541), none, none, some (.iinc 2 (-8), 3, 0, 0, 0), none, none, some (.goto (-40), 3, 0, 0, 0), none, none, some (.return_, 1, 0, 0, 0)]], 1, 1, 1, 9)
/-- FallMarket.begin()V -/
def jm_M117 : jm_M := (⟨"FallMarket", "begin", "()V"⟩, prog_1_method_38_code, 2, none, [[some (.aload_n 0, 1, 0, 0, 0), some (.getfield 65, 3, 9, 9, 549), none, none, some (.aload_n 0, 1, 0, 0, 0), some (.getfield 23, 3, 9, 3, 543), none, none, some (.invokevirtual 306, 3, 7, 0, 489), none, none, some (.aload_n 0, 1, 0, 0, 0), some (.getfield 42, 3, 9, 6, 546), none, none, some (.aload_n 0, 1, 0, 0, 0)],
  [some (.getfield 23, 3, 9, 3, 543), none, none, some (.invokevirtual 308, 3, 19, 0, 499), none, none, some (.aload_n 0, 1, 0, 0, 0), some (.getfield 75, 3, 9, 11, 551), none, none, some (.invokevirtual 281, 3, 77, 0, 535), none, none, some (.aload_n 0, 1, 0, 0, 0), some (.getfield 79, 3, 9, 12, 552)],
  [none, some (.iconst 0, 1, 0, 0, 0), some (.invokestatic 311, 3, 254, 0, 539), none, none, some (.iconst 0, 1, 0, 0, 0), some (.istore_n 1, 1, 0, 0, 0), some (.iload_n 1, 1, 0, 0, 0), some (.iconst 3, 1, 0, 0, 0), some (.if_icmp .ge 16, 3, 0, 0, 0), none, none, some (.aload_n 0, 1, 0, 0, 0), some (.getfield 83, 3, 9, 13, 553)],
  [some (.iload_n 1, 1, 0, 0, 0), some (.iconst 0, 1, 0, 0, 0), some (.bastore, 1, 0, 0, 0), some (.iinc 1 1, 3, 0, 0, 0), none, none, some (.goto (-15), 3, 0, 0, 0), none, none, some (.aload_n 0, 1, 0, 0, 0), some (.getfield 90, 3, 9, 14, 554), none, none, some (.iconst 0, 1, 0, 0, 0), some (.putfield 259, 3, 7, 2, 476)],
  [none, some (.return_, 1, 0, 0, 0)]], 1, 0, 1, 9)
/-- FallMarket.isFruit(I)Z -/
def jm_M118 : jm_M := (⟨"FallMarket", "isFruit", "(I)Z"⟩, prog_1_method_39_code, 2, some .boolean, [[some (.iload_n 1, 1, 0, 0, 0), some (.ifCond .lt 18, 3, 0, 0, 0), none, none, some (.iload_n 1, 1, 0, 0, 0), some (.aload_n 0, 1, 0, 0, 0), some (.getfield 23, 3, 9, 3, 543), none, none, some (.getfield 183, 3, 5, 0, 148), none, none, some (.if_icmp .ge 7, 3, 0, 0, 0), none, none, some (.iconst 1, 1, 0, 0, 0)],
  [some (.goto 4, 3, 0, 0, 0), none, none, some (.iconst 0, 1, 0, 0, 0), some (.ireturn, 1, 0, 0, 0)]], 1, 1, 1, 9)
/-- FallMarket.isBuyer(I)Z -/
def jm_M119 : jm_M := (⟨"FallMarket", "isBuyer", "(I)Z"⟩, prog_1_method_40_code, 2, some .boolean, [[some (.iload_n 1, 1, 0, 0, 0), some (.ifCond .lt 18, 3, 0, 0, 0), none, none, some (.iload_n 1, 1, 0, 0, 0), some (.aload_n 0, 1, 0, 0, 0), some (.getfield 23, 3, 9, 3, 543), none, none, some (.getfield 284, 3, 5, 5, 167), none, none, some (.if_icmp .ge 7, 3, 0, 0, 0), none, none, some (.iconst 1, 1, 0, 0, 0)],
  [some (.goto 4, 3, 0, 0, 0), none, none, some (.iconst 0, 1, 0, 0, 0), some (.ireturn, 1, 0, 0, 0)]], 1, 1, 1, 9)
/-- FallMarket.lookAtNow(I)V -/
def jm_M120 : jm_M := (⟨"FallMarket", "lookAtNow", "(I)V"⟩, prog_1_method_41_code, 2, none, [[some (.aload_n 0, 1, 0, 0, 0), some (.getfield 42, 3, 9, 6, 546), none, none, some (.aload_n 0, 1, 0, 0, 0), some (.getfield 23, 3, 9, 3, 543), none, none, some (.aload_n 0, 1, 0, 0, 0), some (.getfield 65, 3, 9, 9, 549), none, none, some (.getfield 180, 3, 1, 0, 389), none, none, some (.aload_n 0, 1, 0, 0, 0)],
  [some (.getfield 65, 3, 9, 9, 549), none, none, some (.iconst 0, 1, 0, 0, 0), some (.aload_n 0, 1, 0, 0, 0), some (.getfield 23, 3, 9, 3, 543), none, none, some (.getfield 183, 3, 5, 0, 148), none, none, some (.invokevirtual 186, 3, 12, 0, 760), none, none, some (.invokevirtual 189, 3, 17, 0, 774)],
  [none, some (.aload_n 0, 1, 0, 0, 0), some (.getfield 42, 3, 9, 6, 546), none, none, some (.aload_n 0, 1, 0, 0, 0), some (.getfield 23, 3, 9, 3, 543), none, none, some (.aload_n 0, 1, 0, 0, 0), some (.getfield 65, 3, 9, 9, 549), none, none, some (.iload_n 1, 1, 0, 0, 0), some (.invokevirtual 316, 3, 18, 0, 775)],
  [none, some (.return_, 1, 0, 0, 0)]], 1, 1, 1, 9)
/-- FallMarket.goAhead(I)V -/
def jm_M121 : jm_M := (⟨"FallMarket", "goAhead", "(I)V"⟩, prog_1_method_42_code, 3, none, [[some (.aload_n 0, 1, 0, 0, 0), some (.getfield 69, 3, 9, 10, 550), none, none, some (.aload_n 0, 1, 0, 0, 0), some (.getfield 65, 3, 9, 9, 549), none, none, some (.invokevirtual 247, 3, 8, 0, 894), none, none, some (.iconst 0, 1, 0, 0, 0), some (.istore_n 2, 1, 0, 0, 0), some (.iload_n 2, 1, 0, 0, 0), some (.iload_n 1, 1, 0, 0, 0), some (.if_icmp .ge 31, 3, 0, 0, 0)],
  [none, none, some (.aload_n 0, 1, 0, 0, 0), some (.getfield 51, 3, 9, 7, 547), none, none, some (.aload_n 0, 1, 0, 0, 0), some (.getfield 23, 3, 9, 3, 543), none, none, some (.aload_n 0, 1, 0, 0, 0), some (.getfield 69, 3, 9, 10, 550), none, none, some (.aload_n 0, 1, 0, 0, 0), some (.getfield 23, 3, 9, 3, 543)],
  [none, none, some (.getfield 169, 3, 5, 11, 183), none, none, some (.invokevirtual 199, 3, 3, 0, 813), none, none, some (.iinc 2 1, 3, 0, 0, 0), none, none, some (.goto (-30), 3, 0, 0, 0), none, none, some (.return_, 1, 0, 0, 0)]], 1, 1, 1, 9)
/-- FallMarket.catchesAt(II)J -/
def jm_M122 : jm_M := (⟨"FallMarket", "catchesAt", "(II)J"⟩, prog_1_method_43_code, 6, some .long, [[some (.aload_n 0, 1, 0, 0, 0), some (.getfield 69, 3, 9, 10, 550), none, none, some (.aload_n 0, 1, 0, 0, 0), some (.getfield 65, 3, 9, 9, 549), none, none, some (.invokevirtual 247, 3, 8, 0, 894), none, none, some (.aload_n 0, 1, 0, 0, 0), some (.getfield 69, 3, 9, 10, 550), none, none, some (.getfield 142, 3, 1, 10, 422)],
  [none, none, some (.iload_n 1, 1, 0, 0, 0), some (.iload_n 2, 1, 0, 0, 0), some (.iastore, 1, 0, 0, 0), some (.lconst 0, 1, 0, 0, 0), some (.lstore_n 3, 1, 0, 0, 0), some (.iconst 0, 1, 0, 0, 0), some (.istore 5, 2, 0, 0, 0), none, some (.iload 5, 2, 0, 0, 0), none, some (.aload_n 0, 1, 0, 0, 0), some (.getfield 23, 3, 9, 3, 543)],
  [some (.getfield 183, 3, 5, 0, 148), none, none, some (.if_icmp .ge 48, 3, 0, 0, 0), none, none, some (.aload_n 0, 1, 0, 0, 0), some (.getfield 69, 3, 9, 10, 550), none, none, some (.aload_n 0, 1, 0, 0, 0), some (.getfield 23, 3, 9, 3, 543), none, none, some (.aload_n 0, 1, 0, 0, 0), some (.getfield 23, 3, 9, 3, 543)],
  [none, none, some (.getfield 118, 3, 5, 1, 153), none, none, some (.iload 5, 2, 0, 0, 0), none, some (.iaload, 1, 0, 0, 0), some (.iconst 0, 1, 0, 0, 0), some (.invokevirtual 240, 3, 13, 0, 898), none, none, some (.iload_n 1, 1, 0, 0, 0), some (.if_icmp .ne 16, 3, 0, 0, 0)],
  [some (.lload_n 3, 1, 0, 0, 0), some (.aload_n 0, 1, 0, 0, 0), some (.getfield 58, 3, 9, 8, 548), none, none, some (.getfield 319, 3, 3, 2, 369), none, none, some (.iload 5, 2, 0, 0, 0), none, some (.laload, 1, 0, 0, 0), some (.ladd, 1, 0, 0, 0), some (.lstore_n 3, 1, 0, 0, 0), some (.iinc 5 1, 3, 0, 0, 0)],
  [some (.goto (-54), 3, 0, 0, 0), none, none, some (.lload_n 3, 1, 0, 0, 0), some (.lreturn, 1, 0, 0, 0)]], 1, 2, 1, 9)
/-- FallMarket.boughtBits(I)I -/
def jm_M123 : jm_M := (⟨"FallMarket", "boughtBits", "(I)I"⟩, prog_1_method_44_code, 4, some .int, [[some (.iconst 0, 1, 0, 0, 0), some (.istore_n 2, 1, 0, 0, 0), some (.iconst 0, 1, 0, 0, 0), some (.istore_n 3, 1, 0, 0, 0), some (.iload_n 3, 1, 0, 0, 0), some (.aload_n 0, 1, 0, 0, 0), some (.getfield 23, 3, 9, 3, 543), none, none, some (.getfield 183, 3, 5, 0, 148), none, none, some (.if_icmp .ge 28, 3, 0, 0, 0), none, none, some (.aload_n 0, 1, 0, 0, 0)],
  [some (.getfield 65, 3, 9, 9, 549), none, none, some (.getfield 127, 3, 1, 5, 404), none, none, some (.iload_n 3, 1, 0, 0, 0), some (.iaload, 1, 0, 0, 0), some (.iload_n 1, 1, 0, 0, 0), some (.if_icmp .ne 9, 3, 0, 0, 0), none, none, some (.iload_n 2, 1, 0, 0, 0), some (.iconst 1, 1, 0, 0, 0), some (.iload_n 3, 1, 0, 0, 0), some (.ishl, 1, 0, 0, 0)],
  [some (.ior, 1, 0, 0, 0), some (.istore_n 2, 1, 0, 0, 0), some (.iinc 3 1, 3, 0, 0, 0), none, none, some (.goto (-33), 3, 0, 0, 0), none, none, some (.iload_n 2, 1, 0, 0, 0), some (.ireturn, 1, 0, 0, 0)]], 1, 1, 1, 9)
/-- FallMarket.heldSlots()I -/
def jm_M124 : jm_M := (⟨"FallMarket", "heldSlots", "()I"⟩, prog_1_method_45_code, 3, some .int, [[some (.iconst 0, 1, 0, 0, 0), some (.istore_n 1, 1, 0, 0, 0), some (.iconst 0, 1, 0, 0, 0), some (.istore_n 2, 1, 0, 0, 0), some (.iload_n 2, 1, 0, 0, 0), some (.iconst 3, 1, 0, 0, 0), some (.if_icmp .ge 21, 3, 0, 0, 0), none, none, some (.aload_n 0, 1, 0, 0, 0), some (.getfield 83, 3, 9, 13, 553), none, none, some (.iload_n 2, 1, 0, 0, 0), some (.baload, 1, 0, 0, 0), some (.ifCond .eq 6, 3, 0, 0, 0)],
  [none, none, some (.iinc 1 1, 3, 0, 0, 0), none, none, some (.iinc 2 1, 3, 0, 0, 0), none, none, some (.goto (-20), 3, 0, 0, 0), none, none, some (.iload_n 1, 1, 0, 0, 0), some (.ireturn, 1, 0, 0, 0)]], 1, 0, 1, 9)
/-- FallMarket.allCoins()I -/
def jm_M125 : jm_M := (⟨"FallMarket", "allCoins", "()I"⟩, prog_1_method_46_code, 3, some .int, [[some (.iconst 0, 1, 0, 0, 0), some (.istore_n 1, 1, 0, 0, 0), some (.iconst 0, 1, 0, 0, 0), some (.istore_n 2, 1, 0, 0, 0), some (.iload_n 2, 1, 0, 0, 0), some (.aload_n 0, 1, 0, 0, 0), some (.getfield 23, 3, 9, 3, 543), none, none, some (.getfield 284, 3, 5, 5, 167), none, none, some (.if_icmp .ge 21, 3, 0, 0, 0), none, none, some (.iload_n 1, 1, 0, 0, 0)],
  [some (.aload_n 0, 1, 0, 0, 0), some (.getfield 65, 3, 9, 9, 549), none, none, some (.getfield 148, 3, 1, 11, 424), none, none, some (.iload_n 2, 1, 0, 0, 0), some (.iaload, 1, 0, 0, 0), some (.iadd, 1, 0, 0, 0), some (.istore_n 1, 1, 0, 0, 0), some (.iinc 2 1, 3, 0, 0, 0), none, none, some (.goto (-26), 3, 0, 0, 0)],
  [none, some (.iload_n 1, 1, 0, 0, 0), some (.ireturn, 1, 0, 0, 0)]], 1, 0, 1, 9)
/-- FallMarket.proppedBits()I -/
def jm_M126 : jm_M := (⟨"FallMarket", "proppedBits", "()I"⟩, prog_1_method_47_code, 3, some .int, [[some (.iconst 0, 1, 0, 0, 0), some (.istore_n 1, 1, 0, 0, 0), some (.iconst 0, 1, 0, 0, 0), some (.istore_n 2, 1, 0, 0, 0), some (.iload_n 2, 1, 0, 0, 0), some (.aload_n 0, 1, 0, 0, 0), some (.getfield 23, 3, 9, 3, 543), none, none, some (.getfield 183, 3, 5, 0, 148), none, none, some (.if_icmp .ge 40, 3, 0, 0, 0), none, none, some (.aload_n 0, 1, 0, 0, 0)],
  [some (.getfield 65, 3, 9, 9, 549), none, none, some (.getfield 112, 3, 1, 4, 402), none, none, some (.iload_n 2, 1, 0, 0, 0), some (.iaload, 1, 0, 0, 0), some (.ifCond .ne 22, 3, 0, 0, 0), none, none, some (.aload_n 0, 1, 0, 0, 0), some (.getfield 65, 3, 9, 9, 549), none, none, some (.getfield 133, 3, 1, 7, 412)],
  [none, none, some (.iload_n 2, 1, 0, 0, 0), some (.iaload, 1, 0, 0, 0), some (.iconst 1, 1, 0, 0, 0), some (.if_icmp .ne 9, 3, 0, 0, 0), none, none, some (.iload_n 1, 1, 0, 0, 0), some (.iconst 1, 1, 0, 0, 0), some (.iload_n 2, 1, 0, 0, 0), some (.ishl, 1, 0, 0, 0), some (.ior, 1, 0, 0, 0), some (.istore_n 1, 1, 0, 0, 0), some (.iinc 2 1, 3, 0, 0, 0)],
  [none, some (.goto (-45), 3, 0, 0, 0), none, none, some (.iload_n 1, 1, 0, 0, 0), some (.ireturn, 1, 0, 0, 0)]], 1, 0, 1, 9)
/-- FallMarket.hangingRipeness()I -/
def jm_M127 : jm_M := (⟨"FallMarket", "hangingRipeness", "()I"⟩, prog_1_method_48_code, 3, some .int, [[some (.iconst 0, 1, 0, 0, 0), some (.istore_n 1, 1, 0, 0, 0), some (.iconst 0, 1, 0, 0, 0), some (.istore_n 2, 1, 0, 0, 0), some (.iload_n 2, 1, 0, 0, 0), some (.aload_n 0, 1, 0, 0, 0), some (.getfield 23, 3, 9, 3, 543), none, none, some (.getfield 183, 3, 5, 0, 148), none, none, some (.if_icmp .ge 33, 3, 0, 0, 0), none, none, some (.aload_n 0, 1, 0, 0, 0)],
  [some (.getfield 65, 3, 9, 9, 549), none, none, some (.getfield 112, 3, 1, 4, 402), none, none, some (.iload_n 2, 1, 0, 0, 0), some (.iaload, 1, 0, 0, 0), some (.ifCond .ne 15, 3, 0, 0, 0), none, none, some (.iload_n 1, 1, 0, 0, 0), some (.aload_n 0, 1, 0, 0, 0), some (.getfield 65, 3, 9, 9, 549)],
  [some (.getfield 124, 3, 1, 3, 398), none, none, some (.iload_n 2, 1, 0, 0, 0), some (.iaload, 1, 0, 0, 0), some (.iadd, 1, 0, 0, 0), some (.istore_n 1, 1, 0, 0, 0), some (.iinc 2 1, 3, 0, 0, 0), none, none, some (.goto (-38), 3, 0, 0, 0), none, none, some (.iload_n 1, 1, 0, 0, 0), some (.ireturn, 1, 0, 0, 0)]], 1, 0, 1, 9)
/-- FallMarket.isWithin(III)Z -/
def jm_M128 : jm_M := (⟨"FallMarket", "isWithin", "(III)Z"⟩, prog_1_method_49_code, 3, some .boolean, [[some (.iload_n 0, 1, 0, 0, 0), some (.iload_n 1, 1, 0, 0, 0), some (.if_icmp .lt 12, 3, 0, 0, 0), none, none, some (.iload_n 0, 1, 0, 0, 0), some (.iload_n 2, 1, 0, 0, 0), some (.if_icmp .gt 7, 3, 0, 0, 0), none, none, some (.iconst 1, 1, 0, 0, 0), some (.goto 4, 3, 0, 0, 0), none, none, some (.iconst 0, 1, 0, 0, 0), some (.ireturn, 1, 0, 0, 0)]], 1, 3, 0, 9)
/-- FallMarket.heldTo(III)I -/
def jm_M129 : jm_M := (⟨"FallMarket", "heldTo", "(III)I"⟩, prog_1_method_50_code, 3, some .int, [[some (.iload_n 1, 1, 0, 0, 0), some (.iload_n 2, 1, 0, 0, 0), some (.iload_n 0, 1, 0, 0, 0), some (.invokestatic 323, 3, 243, 0, 525), none, none, some (.invokestatic 326, 3, 241, 0, 528), none, none, some (.ireturn, 1, 0, 0, 0)]], 1, 3, 0, 9)
/-- FallMarket.highestFruit(I)I -/
def jm_M130 : jm_M := (⟨"FallMarket", "highestFruit", "(I)I"⟩, prog_1_method_51_code, 2, some .int, [[some (.bipush 6, 2, 0, 0, 0), none, some (.istore_n 1, 1, 0, 0, 0), some (.iload_n 1, 1, 0, 0, 0), some (.ifCond .lt 20, 3, 0, 0, 0), none, none, some (.iload_n 0, 1, 0, 0, 0), some (.iload_n 1, 1, 0, 0, 0), some (.ishr, 1, 0, 0, 0), some (.iconst 1, 1, 0, 0, 0), some (.iand, 1, 0, 0, 0), some (.iconst 1, 1, 0, 0, 0), some (.if_icmp .ne 5, 3, 0, 0, 0)],
  [some (.iload_n 1, 1, 0, 0, 0), some (.ireturn, 1, 0, 0, 0), some (.iinc 1 (-1), 3, 0, 0, 0), none, none, some (.goto (-18), 3, 0, 0, 0), none, none, some (.bipush (-2), 2, 0, 0, 0), none, some (.ireturn, 1, 0, 0, 0)]], 1, 1, 0, 9)
/-- FallMarket.commonDivisor(II)I -/
def jm_M131 : jm_M := (⟨"FallMarket", "commonDivisor", "(II)I"⟩, prog_1_method_52_code, 6, some .int, [[some (.iload_n 0, 1, 0, 0, 0), some (.istore_n 2, 1, 0, 0, 0), some (.iload_n 1, 1, 0, 0, 0), some (.istore_n 3, 1, 0, 0, 0), some (.iconst 0, 1, 0, 0, 0), some (.istore 4, 2, 0, 0, 0), none, some (.iload 4, 2, 0, 0, 0), none, some (.bipush 64, 2, 0, 0, 0), none, some (.if_icmp .ge 23, 3, 0, 0, 0), none, none, some (.iload_n 3, 1, 0, 0, 0), some (.ifCond .eq 19, 3, 0, 0, 0)],
  [none, none, some (.iload_n 2, 1, 0, 0, 0), some (.iload_n 3, 1, 0, 0, 0), some (.irem, 1, 0, 0, 0), some (.istore 5, 2, 0, 0, 0), none, some (.iload_n 3, 1, 0, 0, 0), some (.istore_n 2, 1, 0, 0, 0), some (.iload 5, 2, 0, 0, 0), none, some (.istore_n 3, 1, 0, 0, 0), some (.iinc 4 1, 3, 0, 0, 0), none, none, some (.goto (-24), 3, 0, 0, 0)],
  [none, none, some (.iload_n 2, 1, 0, 0, 0), some (.ireturn, 1, 0, 0, 0)]], 1, 2, 0, 9)
def jm_M132_r0 : List (Option jm_I) := [some (.aload_n 0, 1, 0, 0, 0), some (.invokespecial 7, 3, 0, 2, 1055), none, none, some (.aload_n 0, 1, 0, 0, 0), some (.sipush 2000, 3, 0, 0, 0), none, none, some (.newarray .byte, 2, 0, 0, 0), none, some (.putfield 13, 3, 10, 13001, 1075), none, none, some (.aload_n 0, 1, 0, 0, 0), some (.sipush 2000, 3, 0, 0, 0)]
def jm_M132_r1 : List (Option jm_I) := [none, some (.newarray .byte, 2, 0, 0, 0), none, some (.putfield 17, 3, 10, 13003, 1077), none, none, some (.aload_n 0, 1, 0, 0, 0), some (.sipush 403, 3, 0, 0, 0), none, none, some (.newarray .int, 2, 0, 0, 0), none, some (.putfield 20, 3, 10, 13005, 1079), none, none, some (.aload_n 0, 1, 0, 0, 0)]
def jm_M132_r2 : List (Option jm_I) := [some (.sipush 403, 3, 0, 0, 0), none, none, some (.newarray .int, 2, 0, 0, 0), none, some (.putfield 24, 3, 10, 13006, 1080), none, none, some (.aload_n 0, 1, 0, 0, 0), some (.sipush 403, 3, 0, 0, 0), none, none, some (.newarray .int, 2, 0, 0, 0), none, some (.putfield 27, 3, 10, 13007, 1081)]
def jm_M132_r3 : List (Option jm_I) := [none, some (.aload_n 0, 1, 0, 0, 0), some (.sipush 403, 3, 0, 0, 0), none, none, some (.newarray .long, 2, 0, 0, 0), none, some (.putfield 30, 3, 10, 13008, 1082), none, none, some (.aload_n 0, 1, 0, 0, 0), some (.bipush 23, 2, 0, 0, 0), none, some (.newarray .long, 2, 0, 0, 0), none, some (.putfield 34, 3, 10, 13009, 1083)]
def jm_M132_r4 : List (Option jm_I) := [none, none, some (.aload_n 0, 1, 0, 0, 0), some (.iconst (-1), 1, 0, 0, 0), some (.putfield 37, 3, 10, 17, 1091), none, none, some (.aload_n 0, 1, 0, 0, 0), some (.bipush 11, 2, 0, 0, 0), none, some (.newarray .long, 2, 0, 0, 0), none, some (.putfield 40, 3, 10, 13021, 1095), none, none, some (.aload_n 0, 1, 0, 0, 0)]
def jm_M132_r5 : List (Option jm_I) := [some (.iconst 2, 1, 0, 0, 0), some (.newarray .int, 2, 0, 0, 0), none, some (.putfield 43, 3, 10, 13022, 1096), none, none, some (.aload_n 0, 1, 0, 0, 0), some (.bipush 14, 2, 0, 0, 0), none, some (.newarray .int, 2, 0, 0, 0), none, some (.putfield 46, 3, 10, 13023, 1097), none, none, some (.aload_n 0, 1, 0, 0, 0), some (.bipush 14, 2, 0, 0, 0)]
def jm_M132_r6 : List (Option jm_I) := [none, some (.newarray .int, 2, 0, 0, 0), none, some (.putfield 49, 3, 10, 13024, 1098), none, none, some (.aload_n 0, 1, 0, 0, 0), some (.bipush 14, 2, 0, 0, 0), none, some (.newarray .int, 2, 0, 0, 0), none, some (.putfield 52, 3, 10, 13025, 1099), none, none, some (.aload_n 0, 1, 0, 0, 0), some (.iconst 2, 1, 0, 0, 0)]
def jm_M132_r7 : List (Option jm_I) := [some (.newarray .int, 2, 0, 0, 0), none, some (.putfield 55, 3, 10, 13026, 1100), none, none, some (.aload_n 0, 1, 0, 0, 0), some (.bipush 8, 2, 0, 0, 0), none, some (.newarray .int, 2, 0, 0, 0), none, some (.putfield 58, 3, 10, 13027, 1101), none, none, some (.aload_n 0, 1, 0, 0, 0), some (.bipush 8, 2, 0, 0, 0)]
def jm_M132_r8 : List (Option jm_I) := [some (.newarray .int, 2, 0, 0, 0), none, some (.putfield 61, 3, 10, 13028, 1102), none, none, some (.aload_n 0, 1, 0, 0, 0), some (.bipush 8, 2, 0, 0, 0), none, some (.newarray .int, 2, 0, 0, 0), none, some (.putfield 64, 3, 10, 13029, 1103), none, none, some (.aload_n 0, 1, 0, 0, 0), some (.iconst 2, 1, 0, 0, 0), some (.newarray .int, 2, 0, 0, 0)]
def jm_M132_r9 : List (Option jm_I) := [none, some (.putfield 67, 3, 10, 13030, 1104), none, none, some (.aload_n 0, 1, 0, 0, 0), some (.iconst 2, 1, 0, 0, 0), some (.newarray .int, 2, 0, 0, 0), none, some (.putfield 70, 3, 10, 13031, 1105), none, none, some (.aload_n 0, 1, 0, 0, 0), some (.iconst 2, 1, 0, 0, 0), some (.newarray .int, 2, 0, 0, 0), none, some (.putfield 73, 3, 10, 13032, 1106)]
def jm_M132_r10 : List (Option jm_I) := [none, none, some (.aload_n 0, 1, 0, 0, 0), some (.bipush 12, 2, 0, 0, 0), none, some (.newarray .int, 2, 0, 0, 0), none, some (.putfield 76, 3, 10, 13033, 1107), none, none, some (.aload_n 0, 1, 0, 0, 0), some (.bipush 12, 2, 0, 0, 0), none, some (.newarray .int, 2, 0, 0, 0), none, some (.putfield 79, 3, 10, 13034, 1108)]
def jm_M132_r11 : List (Option jm_I) := [none, none, some (.aload_n 0, 1, 0, 0, 0), some (.sipush 260, 3, 0, 0, 0), none, none, some (.newarray .boolean, 2, 0, 0, 0), none, some (.putfield 82, 3, 10, 13036, 1110), none, none, some (.aload_n 0, 1, 0, 0, 0), some (.sipush 260, 3, 0, 0, 0), none, none, some (.newarray .int, 2, 0, 0, 0)]
def jm_M132_r12 : List (Option jm_I) := [none, some (.putfield 86, 3, 10, 13037, 1111), none, none, some (.aload_n 0, 1, 0, 0, 0), some (.sipush 260, 3, 0, 0, 0), none, none, some (.newarray .int, 2, 0, 0, 0), none, some (.putfield 89, 3, 10, 13038, 1112), none, none, some (.aload_n 0, 1, 0, 0, 0), some (.sipush 260, 3, 0, 0, 0)]
def jm_M132_r13 : List (Option jm_I) := [none, some (.newarray .int, 2, 0, 0, 0), none, some (.putfield 92, 3, 10, 13039, 1113), none, none, some (.aload_n 0, 1, 0, 0, 0), some (.sipush 260, 3, 0, 0, 0), none, none, some (.newarray .int, 2, 0, 0, 0), none, some (.putfield 95, 3, 10, 13040, 1114), none, none, some (.aload_n 0, 1, 0, 0, 0)]
def jm_M132_r14 : List (Option jm_I) := [some (.sipush 840, 3, 0, 0, 0), none, none, some (.newarray .int, 2, 0, 0, 0), none, some (.putfield 98, 3, 10, 13042, 1116), none, none, some (.aload_n 0, 1, 0, 0, 0), some (.sipush 840, 3, 0, 0, 0), none, none, some (.newarray .int, 2, 0, 0, 0), none, some (.putfield 101, 3, 10, 13043, 1117)]
def jm_M132_r15 : List (Option jm_I) := [none, some (.aload_n 0, 1, 0, 0, 0), some (.bipush 64, 2, 0, 0, 0), none, some (.newarray .int, 2, 0, 0, 0), none, some (.putfield 104, 3, 10, 13044, 1118), none, none, some (.aload_n 0, 1, 0, 0, 0), some (.bipush 9, 2, 0, 0, 0), none, some (.newarray .int, 2, 0, 0, 0), none, some (.putfield 107, 3, 10, 13046, 1120)]
def jm_M132_r16 : List (Option jm_I) := [none, some (.aload_n 0, 1, 0, 0, 0), some (.sipush 400, 3, 0, 0, 0), none, none, some (.newarray .int, 2, 0, 0, 0), none, some (.putfield 110, 3, 10, 13047, 1121), none, none, some (.aload_n 0, 1, 0, 0, 0), some (.bipush 61, 2, 0, 0, 0), none, some (.newarray .int, 2, 0, 0, 0), none, some (.putfield 113, 3, 10, 13049, 1123)]
def jm_M132_r17 : List (Option jm_I) := [none, none, some (.aload_n 0, 1, 0, 0, 0), some (.bipush 61, 2, 0, 0, 0), none, some (.newarray .int, 2, 0, 0, 0), none, some (.putfield 116, 3, 10, 13050, 1124), none, none, some (.aload_n 0, 1, 0, 0, 0), some (.bipush 7, 2, 0, 0, 0), none, some (.newarray .boolean, 2, 0, 0, 0), none, some (.putfield 119, 3, 10, 13052, 1126)]
def jm_M132_r18 : List (Option jm_I) := [none, none, some (.aload_n 0, 1, 0, 0, 0), some (.bipush 7, 2, 0, 0, 0), none, some (.newarray .int, 2, 0, 0, 0), none, some (.putfield 122, 3, 10, 13053, 1127), none, none, some (.aload_n 0, 1, 0, 0, 0), some (.bipush 7, 2, 0, 0, 0), none, some (.newarray .int, 2, 0, 0, 0), none, some (.putfield 125, 3, 10, 13054, 1128)]
def jm_M132_r19 : List (Option jm_I) := [none, none, some (.aload_n 0, 1, 0, 0, 0), some (.bipush 7, 2, 0, 0, 0), none, some (.newarray .int, 2, 0, 0, 0), none, some (.putfield 128, 3, 10, 13055, 1129), none, none, some (.aload_n 0, 1, 0, 0, 0), some (.sipush 2440, 3, 0, 0, 0), none, none, some (.newarray .int, 2, 0, 0, 0)]
def jm_M132_r20 : List (Option jm_I) := [some (.putfield 131, 3, 10, 13058, 1132), none, none, some (.aload_n 0, 1, 0, 0, 0), some (.iconst 4, 1, 0, 0, 0), some (.newarray .int, 2, 0, 0, 0), none, some (.putfield 134, 3, 10, 13059, 1133), none, none, some (.aload_n 0, 1, 0, 0, 0), some (.iconst 4, 1, 0, 0, 0), some (.newarray .int, 2, 0, 0, 0), none, some (.putfield 137, 3, 10, 13060, 1134)]
def jm_M132_r21 : List (Option jm_I) := [none, some (.aload_n 0, 1, 0, 0, 0), some (.bipush 7, 2, 0, 0, 0), none, some (.newarray .int, 2, 0, 0, 0), none, some (.putfield 140, 3, 10, 13062, 1136), none, none, some (.aload_n 0, 1, 0, 0, 0), some (.bipush 7, 2, 0, 0, 0), none, some (.newarray .int, 2, 0, 0, 0), none, some (.putfield 143, 3, 10, 13063, 1137)]
def jm_M132_r22 : List (Option jm_I) := [none, some (.aload_n 0, 1, 0, 0, 0), some (.bipush 7, 2, 0, 0, 0), none, some (.newarray .int, 2, 0, 0, 0), none, some (.putfield 146, 3, 10, 13064, 1138), none, none, some (.aload_n 0, 1, 0, 0, 0), some (.bipush 49, 2, 0, 0, 0), none, some (.newarray .int, 2, 0, 0, 0), none, some (.putfield 149, 3, 10, 13065, 1139)]
def jm_M132_r23 : List (Option jm_I) := [none, some (.aload_n 0, 1, 0, 0, 0), some (.iconst 3, 1, 0, 0, 0), some (.newarray .boolean, 2, 0, 0, 0), none, some (.putfield 152, 3, 10, 13067, 1141), none, none, some (.aload_n 0, 1, 0, 0, 0), some (.sipush 183, 3, 0, 0, 0), none, none, some (.newarray .int, 2, 0, 0, 0), none, some (.putfield 155, 3, 10, 13068, 1142)]
def jm_M132_r24 : List (Option jm_I) := [none, some (.aload_n 0, 1, 0, 0, 0), some (.iconst 0, 1, 0, 0, 0), some (.invokevirtual 158, 3, 149, 0, 1056), none, none, some (.aload_n 0, 1, 0, 0, 0), some (.getfield 34, 3, 10, 9, 1083), none, none, some (.iconst 0, 1, 0, 0, 0), some (.bipush 102, 2, 0, 0, 0), none, some (.bipush 114, 2, 0, 0, 0), none, some (.bipush 117, 2, 0, 0, 0)]
def jm_M132_r25 : List (Option jm_I) := [none, some (.bipush 105, 2, 0, 0, 0), none, some (.bipush 116, 2, 0, 0, 0), none, some (.iconst 0, 1, 0, 0, 0), some (.iconst 0, 1, 0, 0, 0), some (.invokestatic 162, 3, 140, 0, 1060), none, none, some (.lastore, 1, 0, 0, 0), some (.aload_n 0, 1, 0, 0, 0), some (.getfield 34, 3, 10, 9, 1083), none, none, some (.iconst 1, 1, 0, 0, 0)]
def jm_M132_r26 : List (Option jm_I) := [some (.bipush 98, 2, 0, 0, 0), none, some (.bipush 117, 2, 0, 0, 0), none, some (.bipush 121, 2, 0, 0, 0), none, some (.bipush 101, 2, 0, 0, 0), none, some (.bipush 114, 2, 0, 0, 0), none, some (.iconst 0, 1, 0, 0, 0), some (.iconst 0, 1, 0, 0, 0), some (.invokestatic 162, 3, 140, 0, 1060), none, none, some (.lastore, 1, 0, 0, 0)]
def jm_M132_r27 : List (Option jm_I) := [some (.aload_n 0, 1, 0, 0, 0), some (.getfield 34, 3, 10, 9, 1083), none, none, some (.iconst 2, 1, 0, 0, 0), some (.bipush 119, 2, 0, 0, 0), none, some (.bipush 105, 2, 0, 0, 0), none, some (.bipush 110, 2, 0, 0, 0), none, some (.bipush 100, 2, 0, 0, 0), none, some (.iconst 0, 1, 0, 0, 0), some (.iconst 0, 1, 0, 0, 0), some (.iconst 0, 1, 0, 0, 0)]
def jm_M132_r28 : List (Option jm_I) := [some (.invokestatic 162, 3, 140, 0, 1060), none, none, some (.lastore, 1, 0, 0, 0), some (.aload_n 0, 1, 0, 0, 0), some (.getfield 34, 3, 10, 9, 1083), none, none, some (.iconst 3, 1, 0, 0, 0), some (.bipush 114, 2, 0, 0, 0), none, some (.bipush 105, 2, 0, 0, 0), none, some (.bipush 112, 2, 0, 0, 0), none, some (.bipush 101, 2, 0, 0, 0)]
def jm_M132_r29 : List (Option jm_I) := [none, some (.bipush 110, 2, 0, 0, 0), none, some (.bipush 115, 2, 0, 0, 0), none, some (.iconst 0, 1, 0, 0, 0), some (.invokestatic 162, 3, 140, 0, 1060), none, none, some (.lastore, 1, 0, 0, 0), some (.aload_n 0, 1, 0, 0, 0), some (.getfield 34, 3, 10, 9, 1083), none, none, some (.iconst 4, 1, 0, 0, 0), some (.bipush 102, 2, 0, 0, 0)]
def jm_M132_r30 : List (Option jm_I) := [none, some (.bipush 97, 2, 0, 0, 0), none, some (.bipush 108, 2, 0, 0, 0), none, some (.bipush 108, 2, 0, 0, 0), none, some (.bipush 115, 2, 0, 0, 0), none, some (.iconst 0, 1, 0, 0, 0), some (.iconst 0, 1, 0, 0, 0), some (.invokestatic 162, 3, 140, 0, 1060), none, none, some (.lastore, 1, 0, 0, 0), some (.aload_n 0, 1, 0, 0, 0)]
def jm_M132_r31 : List (Option jm_I) := [some (.getfield 34, 3, 10, 9, 1083), none, none, some (.iconst 5, 1, 0, 0, 0), some (.bipush 119, 2, 0, 0, 0), none, some (.bipush 111, 2, 0, 0, 0), none, some (.bipush 114, 2, 0, 0, 0), none, some (.bipush 116, 2, 0, 0, 0), none, some (.bipush 104, 2, 0, 0, 0), none, some (.iconst 0, 1, 0, 0, 0), some (.iconst 0, 1, 0, 0, 0)]
def jm_M132_r32 : List (Option jm_I) := [some (.invokestatic 162, 3, 140, 0, 1060), none, none, some (.lastore, 1, 0, 0, 0), some (.aload_n 0, 1, 0, 0, 0), some (.getfield 34, 3, 10, 9, 1083), none, none, some (.bipush 6, 2, 0, 0, 0), none, some (.bipush 98, 2, 0, 0, 0), none, some (.bipush 111, 2, 0, 0, 0), none, some (.bipush 117, 2, 0, 0, 0)]
def jm_M132_r33 : List (Option jm_I) := [some (.bipush 110, 2, 0, 0, 0), none, some (.bipush 99, 2, 0, 0, 0), none, some (.bipush 101, 2, 0, 0, 0), none, some (.bipush 115, 2, 0, 0, 0), none, some (.invokestatic 162, 3, 140, 0, 1060), none, none, some (.lastore, 1, 0, 0, 0), some (.aload_n 0, 1, 0, 0, 0), some (.getfield 34, 3, 10, 9, 1083)]
def jm_M132_r34 : List (Option jm_I) := [some (.bipush 7, 2, 0, 0, 0), none, some (.bipush 102, 2, 0, 0, 0), none, some (.bipush 111, 2, 0, 0, 0), none, some (.bipush 117, 2, 0, 0, 0), none, some (.bipush 110, 2, 0, 0, 0), none, some (.bipush 100, 2, 0, 0, 0), none, some (.iconst 0, 1, 0, 0, 0), some (.iconst 0, 1, 0, 0, 0), some (.invokestatic 162, 3, 140, 0, 1060)]
def jm_M132_r35 : List (Option jm_I) := [none, some (.lastore, 1, 0, 0, 0), some (.aload_n 0, 1, 0, 0, 0), some (.getfield 34, 3, 10, 9, 1083), none, none, some (.bipush 8, 2, 0, 0, 0), none, some (.bipush 102, 2, 0, 0, 0), none, some (.bipush 105, 2, 0, 0, 0), none, some (.bipush 110, 2, 0, 0, 0), none, some (.bipush 101, 2, 0, 0, 0)]
def jm_M132_r36 : List (Option jm_I) := [some (.iconst 0, 1, 0, 0, 0), some (.iconst 0, 1, 0, 0, 0), some (.iconst 0, 1, 0, 0, 0), some (.invokestatic 162, 3, 140, 0, 1060), none, none, some (.lastore, 1, 0, 0, 0), some (.aload_n 0, 1, 0, 0, 0), some (.getfield 34, 3, 10, 9, 1083), none, none, some (.bipush 9, 2, 0, 0, 0), none, some (.bipush 107, 2, 0, 0, 0), none, some (.bipush 101, 2, 0, 0, 0)]
def jm_M132_r37 : List (Option jm_I) := [none, some (.bipush 101, 2, 0, 0, 0), none, some (.bipush 112, 2, 0, 0, 0), none, some (.bipush 115, 2, 0, 0, 0), none, some (.iconst 0, 1, 0, 0, 0), some (.iconst 0, 1, 0, 0, 0), some (.invokestatic 162, 3, 140, 0, 1060), none, none, some (.lastore, 1, 0, 0, 0), some (.aload_n 0, 1, 0, 0, 0), some (.getfield 34, 3, 10, 9, 1083)]
def jm_M132_r38 : List (Option jm_I) := [none, some (.bipush 10, 2, 0, 0, 0), none, some (.bipush 115, 2, 0, 0, 0), none, some (.bipush 101, 2, 0, 0, 0), none, some (.bipush 101, 2, 0, 0, 0), none, some (.bipush 100, 2, 0, 0, 0), none, some (.iconst 0, 1, 0, 0, 0), some (.iconst 0, 1, 0, 0, 0), some (.iconst 0, 1, 0, 0, 0), some (.invokestatic 162, 3, 140, 0, 1060)]
def jm_M132_r39 : List (Option jm_I) := [none, some (.lastore, 1, 0, 0, 0), some (.aload_n 0, 1, 0, 0, 0), some (.getfield 34, 3, 10, 9, 1083), none, none, some (.bipush 11, 2, 0, 0, 0), none, some (.bipush 105, 2, 0, 0, 0), none, some (.bipush 102, 2, 0, 0, 0), none, some (.iconst 0, 1, 0, 0, 0), some (.iconst 0, 1, 0, 0, 0), some (.iconst 0, 1, 0, 0, 0), some (.iconst 0, 1, 0, 0, 0)]
def jm_M132_r40 : List (Option jm_I) := [some (.iconst 0, 1, 0, 0, 0), some (.invokestatic 162, 3, 140, 0, 1060), none, none, some (.lastore, 1, 0, 0, 0), some (.aload_n 0, 1, 0, 0, 0), some (.getfield 34, 3, 10, 9, 1083), none, none, some (.bipush 12, 2, 0, 0, 0), none, some (.bipush 116, 2, 0, 0, 0), none, some (.bipush 104, 2, 0, 0, 0), none, some (.bipush 101, 2, 0, 0, 0)]
def jm_M132_r41 : List (Option jm_I) := [none, some (.bipush 110, 2, 0, 0, 0), none, some (.iconst 0, 1, 0, 0, 0), some (.iconst 0, 1, 0, 0, 0), some (.iconst 0, 1, 0, 0, 0), some (.invokestatic 162, 3, 140, 0, 1060), none, none, some (.lastore, 1, 0, 0, 0), some (.aload_n 0, 1, 0, 0, 0), some (.getfield 34, 3, 10, 9, 1083), none, none, some (.bipush 13, 2, 0, 0, 0)]
def jm_M132_r42 : List (Option jm_I) := [some (.bipush 101, 2, 0, 0, 0), none, some (.bipush 108, 2, 0, 0, 0), none, some (.bipush 115, 2, 0, 0, 0), none, some (.bipush 101, 2, 0, 0, 0), none, some (.iconst 0, 1, 0, 0, 0), some (.iconst 0, 1, 0, 0, 0), some (.iconst 0, 1, 0, 0, 0), some (.invokestatic 162, 3, 140, 0, 1060), none, none, some (.lastore, 1, 0, 0, 0), some (.aload_n 0, 1, 0, 0, 0)]
def jm_M132_r43 : List (Option jm_I) := [some (.getfield 34, 3, 10, 9, 1083), none, none, some (.bipush 14, 2, 0, 0, 0), none, some (.bipush 114, 2, 0, 0, 0), none, some (.bipush 105, 2, 0, 0, 0), none, some (.bipush 112, 2, 0, 0, 0), none, some (.bipush 101, 2, 0, 0, 0), none, some (.iconst 0, 1, 0, 0, 0), some (.iconst 0, 1, 0, 0, 0), some (.iconst 0, 1, 0, 0, 0)]
def jm_M132_r44 : List (Option jm_I) := [some (.invokestatic 162, 3, 140, 0, 1060), none, none, some (.lastore, 1, 0, 0, 0), some (.aload_n 0, 1, 0, 0, 0), some (.getfield 34, 3, 10, 9, 1083), none, none, some (.bipush 15, 2, 0, 0, 0), none, some (.bipush 104, 2, 0, 0, 0), none, some (.bipush 105, 2, 0, 0, 0), none, some (.bipush 103, 2, 0, 0, 0)]
def jm_M132_r45 : List (Option jm_I) := [some (.bipush 104, 2, 0, 0, 0), none, some (.iconst 0, 1, 0, 0, 0), some (.iconst 0, 1, 0, 0, 0), some (.iconst 0, 1, 0, 0, 0), some (.invokestatic 162, 3, 140, 0, 1060), none, none, some (.lastore, 1, 0, 0, 0), some (.aload_n 0, 1, 0, 0, 0), some (.getfield 34, 3, 10, 9, 1083), none, none, some (.bipush 16, 2, 0, 0, 0), none, some (.bipush 104, 2, 0, 0, 0)]
def jm_M132_r46 : List (Option jm_I) := [none, some (.bipush 111, 2, 0, 0, 0), none, some (.bipush 117, 2, 0, 0, 0), none, some (.bipush 114, 2, 0, 0, 0), none, some (.iconst 0, 1, 0, 0, 0), some (.iconst 0, 1, 0, 0, 0), some (.iconst 0, 1, 0, 0, 0), some (.invokestatic 162, 3, 140, 0, 1060), none, none, some (.lastore, 1, 0, 0, 0), some (.aload_n 0, 1, 0, 0, 0), some (.getfield 34, 3, 10, 9, 1083)]
def jm_M132_r47 : List (Option jm_I) := [none, none, some (.bipush 17, 2, 0, 0, 0), none, some (.bipush 98, 2, 0, 0, 0), none, some (.bipush 108, 2, 0, 0, 0), none, some (.bipush 111, 2, 0, 0, 0), none, some (.bipush 119, 2, 0, 0, 0), none, some (.bipush 115, 2, 0, 0, 0), none, some (.iconst 0, 1, 0, 0, 0), some (.iconst 0, 1, 0, 0, 0)]
def jm_M132_r48 : List (Option jm_I) := [some (.invokestatic 162, 3, 140, 0, 1060), none, none, some (.lastore, 1, 0, 0, 0), some (.aload_n 0, 1, 0, 0, 0), some (.getfield 34, 3, 10, 9, 1083), none, none, some (.bipush 18, 2, 0, 0, 0), none, some (.bipush 97, 2, 0, 0, 0), none, some (.bipush 99, 2, 0, 0, 0), none, some (.bipush 114, 2, 0, 0, 0)]
def jm_M132_r49 : List (Option jm_I) := [some (.bipush 111, 2, 0, 0, 0), none, some (.bipush 115, 2, 0, 0, 0), none, some (.bipush 115, 2, 0, 0, 0), none, some (.iconst 0, 1, 0, 0, 0), some (.invokestatic 162, 3, 140, 0, 1060), none, none, some (.lastore, 1, 0, 0, 0), some (.aload_n 0, 1, 0, 0, 0), some (.getfield 34, 3, 10, 9, 1083), none, none, some (.bipush 19, 2, 0, 0, 0)]
def jm_M132_r50 : List (Option jm_I) := [none, some (.bipush 115, 2, 0, 0, 0), none, some (.bipush 104, 2, 0, 0, 0), none, some (.bipush 97, 2, 0, 0, 0), none, some (.bipush 107, 2, 0, 0, 0), none, some (.bipush 101, 2, 0, 0, 0), none, some (.bipush 110, 2, 0, 0, 0), none, some (.iconst 0, 1, 0, 0, 0), some (.invokestatic 162, 3, 140, 0, 1060)]
def jm_M132_r51 : List (Option jm_I) := [none, some (.lastore, 1, 0, 0, 0), some (.aload_n 0, 1, 0, 0, 0), some (.getfield 34, 3, 10, 9, 1083), none, none, some (.bipush 20, 2, 0, 0, 0), none, some (.bipush 112, 2, 0, 0, 0), none, some (.bipush 114, 2, 0, 0, 0), none, some (.bipush 111, 2, 0, 0, 0), none, some (.bipush 112, 2, 0, 0, 0)]
def jm_M132_r52 : List (Option jm_I) := [some (.bipush 112, 2, 0, 0, 0), none, some (.bipush 101, 2, 0, 0, 0), none, some (.bipush 100, 2, 0, 0, 0), none, some (.invokestatic 162, 3, 140, 0, 1060), none, none, some (.lastore, 1, 0, 0, 0), some (.aload_n 0, 1, 0, 0, 0), some (.getfield 34, 3, 10, 9, 1083), none, none, some (.bipush 21, 2, 0, 0, 0)]
def jm_M132_r53 : List (Option jm_I) := [some (.bipush 108, 2, 0, 0, 0), none, some (.bipush 97, 2, 0, 0, 0), none, some (.bipush 121, 2, 0, 0, 0), none, some (.iconst 0, 1, 0, 0, 0), some (.iconst 0, 1, 0, 0, 0), some (.iconst 0, 1, 0, 0, 0), some (.iconst 0, 1, 0, 0, 0), some (.invokestatic 162, 3, 140, 0, 1060), none, none, some (.lastore, 1, 0, 0, 0), some (.aload_n 0, 1, 0, 0, 0), some (.getfield 34, 3, 10, 9, 1083)]
def jm_M132_r54 : List (Option jm_I) := [none, none, some (.bipush 22, 2, 0, 0, 0), none, some (.bipush 108, 2, 0, 0, 0), none, some (.bipush 101, 2, 0, 0, 0), none, some (.bipush 102, 2, 0, 0, 0), none, some (.bipush 116, 2, 0, 0, 0), none, some (.iconst 0, 1, 0, 0, 0), some (.iconst 0, 1, 0, 0, 0), some (.iconst 0, 1, 0, 0, 0), some (.invokestatic 162, 3, 140, 0, 1060)]
def jm_M132_r55 : List (Option jm_I) := [none, none, some (.lastore, 1, 0, 0, 0), some (.aload_n 0, 1, 0, 0, 0), some (.invokevirtual 166, 3, 171, 0, 1067), none, none, some (.aload_n 0, 1, 0, 0, 0), some (.invokevirtual 169, 3, 172, 0, 1071), none, none, some (.return_, 1, 0, 0, 0)]
/-- FallMarketModel.<init>()V -/
def jm_M132 : jm_M := (⟨"FallMarketModel", "<init>", "()V"⟩, prog_12_method_2_code, 1, none, [jm_M132_r0, jm_M132_r1, jm_M132_r2, jm_M132_r3, jm_M132_r4, jm_M132_r5, jm_M132_r6, jm_M132_r7, jm_M132_r8, jm_M132_r9, jm_M132_r10, jm_M132_r11, jm_M132_r12, jm_M132_r13, jm_M132_r14, jm_M132_r15, jm_M132_r16, jm_M132_r17, jm_M132_r18, jm_M132_r19, jm_M132_r20, jm_M132_r21, jm_M132_r22, jm_M132_r23, jm_M132_r24, jm_M132_r25, jm_M132_r26, jm_M132_r27, jm_M132_r28, jm_M132_r29, jm_M132_r30, jm_M132_r31, jm_M132_r32, jm_M132_r33, jm_M132_r34, jm_M132_r35, jm_M132_r36, jm_M132_r37, jm_M132_r38, jm_M132_r39, jm_M132_r40, jm_M132_r41, jm_M132_r42, jm_M132_r43, jm_M132_r44, jm_M132_r45, jm_M132_r46, jm_M132_r47, jm_M132_r48, jm_M132_r49, jm_M132_r50, jm_M132_r51, jm_M132_r52, jm_M132_r53, jm_M132_r54, jm_M132_r55], 2, 0, 2, 10)
/-- FallMarketModel.feed(IIIII)I -/
def jm_M133 : jm_M := (⟨"FallMarketModel", "feed", "(IIIII)I"⟩, prog_12_method_3_code, 6, some .int, [[some (.aload_n 0, 1, 0, 0, 0), some (.getfield 172, 3, 10, 2, 1076), none, none, some (.bipush 20, 2, 0, 0, 0), none, some (.iadd, 1, 0, 0, 0), some (.sipush 2000, 3, 0, 0, 0), none, none, some (.if_icmp .le 5, 3, 0, 0, 0), none, none, some (.iconst (-1), 1, 0, 0, 0), some (.ireturn, 1, 0, 0, 0), some (.aload_n 0, 1, 0, 0, 0)],
  [some (.iload_n 1, 1, 0, 0, 0), some (.invokevirtual 175, 3, 134, 0, 1286), none, none, some (.aload_n 0, 1, 0, 0, 0), some (.iload_n 2, 1, 0, 0, 0), some (.invokevirtual 175, 3, 134, 0, 1286), none, none, some (.aload_n 0, 1, 0, 0, 0), some (.iload_n 3, 1, 0, 0, 0), some (.invokevirtual 175, 3, 134, 0, 1286), none, none, some (.aload_n 0, 1, 0, 0, 0), some (.iload 4, 2, 0, 0, 0)],
  [none, some (.invokevirtual 175, 3, 134, 0, 1286), none, none, some (.aload_n 0, 1, 0, 0, 0), some (.iload 5, 2, 0, 0, 0), none, some (.invokevirtual 175, 3, 134, 0, 1286), none, none, some (.aload_n 0, 1, 0, 0, 0), some (.getfield 172, 3, 10, 2, 1076), none, none, some (.ireturn, 1, 0, 0, 0)]], 2, 5, 1, 10)
/-- FallMarketModel.put(I)V -/
def jm_M134 : jm_M := (⟨"FallMarketModel", "put", "(I)V"⟩, prog_12_method_4_code, 3, none, [[some (.bipush 24, 2, 0, 0, 0), none, some (.istore_n 2, 1, 0, 0, 0), some (.iload_n 2, 1, 0, 0, 0), some (.ifCond .lt 32, 3, 0, 0, 0), none, none, some (.aload_n 0, 1, 0, 0, 0), some (.getfield 13, 3, 10, 1, 1075), none, none, some (.aload_n 0, 1, 0, 0, 0), some (.getfield 172, 3, 10, 2, 1076), none, none, some (.iload_n 1, 1, 0, 0, 0)],
  [some (.iload_n 2, 1, 0, 0, 0), some (.ishr, 1, 0, 0, 0), some (.i2b, 1, 0, 0, 0), some (.bastore, 1, 0, 0, 0), some (.aload_n 0, 1, 0, 0, 0), some (.dup, 1, 0, 0, 0), some (.getfield 172, 3, 10, 2, 1076), none, none, some (.iconst 1, 1, 0, 0, 0), some (.iadd, 1, 0, 0, 0), some (.putfield 172, 3, 10, 2, 1076), none, none, some (.iinc 2 (-8), 3, 0, 0, 0)],
  [none, some (.goto (-30), 3, 0, 0, 0), none, none, some (.return_, 1, 0, 0, 0)]], 2, 1, 1, 10)
/-- FallMarketModel.back(I)I -/
def jm_M135 : jm_M := (⟨"FallMarketModel", "back", "(I)I"⟩, prog_12_method_5_code, 2, some .int, [[some (.iload_n 1, 1, 0, 0, 0), some (.ifCond .lt 11, 3, 0, 0, 0), none, none, some (.iload_n 1, 1, 0, 0, 0), some (.aload_n 0, 1, 0, 0, 0), some (.getfield 172, 3, 10, 2, 1076), none, none, some (.if_icmp .le 5, 3, 0, 0, 0), none, none, some (.iconst (-1), 1, 0, 0, 0), some (.ireturn, 1, 0, 0, 0), some (.aload_n 0, 1, 0, 0, 0), some (.dup, 1, 0, 0, 0)],
  [some (.getfield 172, 3, 10, 2, 1076), none, none, some (.iload_n 1, 1, 0, 0, 0), some (.isub, 1, 0, 0, 0), some (.putfield 172, 3, 10, 2, 1076), none, none, some (.aload_n 0, 1, 0, 0, 0), some (.getfield 172, 3, 10, 2, 1076), none, none, some (.ireturn, 1, 0, 0, 0)]], 2, 1, 1, 10)
/-- FallMarketModel.byteAt(I)I -/
def jm_M136 : jm_M := (⟨"FallMarketModel", "byteAt", "(I)I"⟩, prog_12_method_6_code, 2, some .int, [[some (.iload_n 1, 1, 0, 0, 0), some (.aload_n 0, 1, 0, 0, 0), some (.getfield 178, 3, 10, 4, 1078), none, none, some (.if_icmp .ge 16, 3, 0, 0, 0), none, none, some (.aload_n 0, 1, 0, 0, 0), some (.getfield 17, 3, 10, 3, 1077), none, none, some (.iload_n 1, 1, 0, 0, 0), some (.baload, 1, 0, 0, 0), some (.sipush 255, 3, 0, 0, 0)],
  [none, some (.iand, 1, 0, 0, 0), some (.goto 4, 3, 0, 0, 0), none, none, some (.iconst 0, 1, 0, 0, 0), some (.ireturn, 1, 0, 0, 0)]], 2, 1, 1, 10)
/-- FallMarketModel.isDigit(I)Z -/
def jm_M137 : jm_M := (⟨"FallMarketModel", "isDigit", "(I)Z"⟩, prog_12_method_7_code, 1, some .boolean, [[some (.iload_n 0, 1, 0, 0, 0), some (.bipush 48, 2, 0, 0, 0), none, some (.if_icmp .lt 13, 3, 0, 0, 0), none, none, some (.iload_n 0, 1, 0, 0, 0), some (.bipush 57, 2, 0, 0, 0), none, some (.if_icmp .gt 7, 3, 0, 0, 0), none, none, some (.iconst 1, 1, 0, 0, 0), some (.goto 4, 3, 0, 0, 0)],
  [some (.iconst 0, 1, 0, 0, 0), some (.ireturn, 1, 0, 0, 0)]], 2, 1, 0, 10)
/-- FallMarketModel.isLetter(I)Z -/
def jm_M138 : jm_M := (⟨"FallMarketModel", "isLetter", "(I)Z"⟩, prog_12_method_8_code, 1, some .boolean, [[some (.iload_n 0, 1, 0, 0, 0), some (.bipush 97, 2, 0, 0, 0), none, some (.if_icmp .lt 13, 3, 0, 0, 0), none, none, some (.iload_n 0, 1, 0, 0, 0), some (.bipush 122, 2, 0, 0, 0), none, some (.if_icmp .gt 7, 3, 0, 0, 0), none, none, some (.iconst 1, 1, 0, 0, 0), some (.goto 4, 3, 0, 0, 0)],
  [some (.iconst 0, 1, 0, 0, 0), some (.ireturn, 1, 0, 0, 0)]], 2, 1, 0, 10)
/-- FallMarketModel.appends(JI)J -/
def jm_M139 : jm_M := (⟨"FallMarketModel", "appends", "(JI)J"⟩, prog_12_method_9_code, 3, some .long, [[some (.iload_n 2, 1, 0, 0, 0), some (.ifCond .ne 7, 3, 0, 0, 0), none, none, some (.lload_n 0, 1, 0, 0, 0), some (.goto 16, 3, 0, 0, 0), none, none, some (.ldc2_w 181, 3, 27, 0, 1066), none, none, some (.lload_n 0, 1, 0, 0, 0), some (.lmul, 1, 0, 0, 0), some (.iload_n 2, 1, 0, 0, 0), some (.bipush 97, 2, 0, 0, 0)],
  [some (.isub, 1, 0, 0, 0), some (.iconst 1, 1, 0, 0, 0), some (.iadd, 1, 0, 0, 0), some (.i2l, 1, 0, 0, 0), some (.ladd, 1, 0, 0, 0), some (.lreturn, 1, 0, 0, 0)]], 2, 2, 0, 10)
/-- FallMarketModel.word(IIIIIII)J -/
def jm_M140 : jm_M := (⟨"FallMarketModel", "word", "(IIIIIII)J"⟩, prog_12_method_10_code, 7, some .long, [[some (.lconst 0, 1, 0, 0, 0), some (.iload_n 0, 1, 0, 0, 0), some (.invokestatic 183, 3, 139, 0, 1063), none, none, some (.iload_n 1, 1, 0, 0, 0), some (.invokestatic 183, 3, 139, 0, 1063), none, none, some (.iload_n 2, 1, 0, 0, 0), some (.invokestatic 183, 3, 139, 0, 1063), none, none, some (.iload_n 3, 1, 0, 0, 0), some (.invokestatic 183, 3, 139, 0, 1063)],
  [none, some (.iload 4, 2, 0, 0, 0), none, some (.invokestatic 183, 3, 139, 0, 1063), none, none, some (.iload 5, 2, 0, 0, 0), none, some (.invokestatic 183, 3, 139, 0, 1063), none, none, some (.iload 6, 2, 0, 0, 0), none, some (.invokestatic 183, 3, 139, 0, 1063)],
  [some (.lreturn, 1, 0, 0, 0)]], 2, 7, 0, 10)
/-- FallMarketModel.token(IIIJ)V -/
def jm_M141 : jm_M := (⟨"FallMarketModel", "token", "(IIIJ)V"⟩, prog_12_method_11_code, 6, none, [[some (.aload_n 0, 1, 0, 0, 0), some (.getfield 20, 3, 10, 5, 1079), none, none, some (.aload_n 0, 1, 0, 0, 0), some (.getfield 187, 3, 10, 10, 1084), none, none, some (.iload_n 1, 1, 0, 0, 0), some (.iastore, 1, 0, 0, 0), some (.aload_n 0, 1, 0, 0, 0), some (.getfield 24, 3, 10, 6, 1080), none, none, some (.aload_n 0, 1, 0, 0, 0), some (.getfield 187, 3, 10, 10, 1084)],
  [none, none, some (.iload_n 2, 1, 0, 0, 0), some (.iastore, 1, 0, 0, 0), some (.aload_n 0, 1, 0, 0, 0), some (.getfield 27, 3, 10, 7, 1081), none, none, some (.aload_n 0, 1, 0, 0, 0), some (.getfield 187, 3, 10, 10, 1084), none, none, some (.iload_n 3, 1, 0, 0, 0), some (.iastore, 1, 0, 0, 0), some (.aload_n 0, 1, 0, 0, 0), some (.getfield 30, 3, 10, 8, 1082)],
  [none, none, some (.aload_n 0, 1, 0, 0, 0), some (.getfield 187, 3, 10, 10, 1084), none, none, some (.lload 4, 2, 0, 0, 0), none, some (.lastore, 1, 0, 0, 0), some (.aload_n 0, 1, 0, 0, 0), some (.dup, 1, 0, 0, 0), some (.getfield 187, 3, 10, 10, 1084), none, none, some (.iconst 1, 1, 0, 0, 0), some (.iadd, 1, 0, 0, 0)],
  [some (.putfield 187, 3, 10, 10, 1084), none, none, some (.return_, 1, 0, 0, 0)]], 2, 4, 1, 10)
def jm_M142_r0 : List (Option jm_I) := [some (.aload_n 0, 1, 0, 0, 0), some (.iconst 0, 1, 0, 0, 0), some (.putfield 187, 3, 10, 10, 1084), none, none, some (.iconst 0, 1, 0, 0, 0), some (.istore_n 1, 1, 0, 0, 0), some (.aload_n 0, 1, 0, 0, 0), some (.getfield 187, 3, 10, 10, 1084), none, none, some (.sipush 400, 3, 0, 0, 0), none, none, some (.if_icmp .gt 280, 3, 0, 0, 0)]
def jm_M142_r1 : List (Option jm_I) := [none, some (.aload_n 0, 1, 0, 0, 0), some (.iload_n 1, 1, 0, 0, 0), some (.invokevirtual 190, 3, 136, 0, 1302), none, none, some (.istore_n 2, 1, 0, 0, 0), some (.iload_n 1, 1, 0, 0, 0), some (.aload_n 0, 1, 0, 0, 0), some (.getfield 178, 3, 10, 4, 1078), none, none, some (.if_icmp .lt 15, 3, 0, 0, 0), none, none, some (.aload_n 0, 1, 0, 0, 0)]
def jm_M142_r2 : List (Option jm_I) := [some (.iconst 0, 1, 0, 0, 0), some (.aload_n 0, 1, 0, 0, 0), some (.getfield 178, 3, 10, 4, 1078), none, none, some (.iconst 0, 1, 0, 0, 0), some (.lconst 0, 1, 0, 0, 0), some (.invokevirtual 194, 3, 141, 0, 1306), none, none, some (.return_, 1, 0, 0, 0), some (.iload_n 2, 1, 0, 0, 0), some (.bipush 9, 2, 0, 0, 0), none, some (.if_icmp .eq 21, 3, 0, 0, 0)]
def jm_M142_r3 : List (Option jm_I) := [none, some (.iload_n 2, 1, 0, 0, 0), some (.bipush 10, 2, 0, 0, 0), none, some (.if_icmp .eq 15, 3, 0, 0, 0), none, none, some (.iload_n 2, 1, 0, 0, 0), some (.bipush 13, 2, 0, 0, 0), none, some (.if_icmp .eq 9, 3, 0, 0, 0), none, none, some (.iload_n 2, 1, 0, 0, 0), some (.bipush 32, 2, 0, 0, 0)]
def jm_M142_r4 : List (Option jm_I) := [some (.if_icmp .ne 9, 3, 0, 0, 0), none, none, some (.iinc 1 1, 3, 0, 0, 0), none, none, some (.goto 221, 3, 0, 0, 0), none, none, some (.iload_n 2, 1, 0, 0, 0), some (.invokestatic 198, 3, 138, 0, 1310), none, none, some (.ifCond .eq 119, 3, 0, 0, 0)]
def jm_M142_r5 : List (Option jm_I) := [some (.iconst 0, 1, 0, 0, 0), some (.istore_n 3, 1, 0, 0, 0), some (.lconst 0, 1, 0, 0, 0), some (.lstore 4, 2, 0, 0, 0), none, some (.aload_n 0, 1, 0, 0, 0), some (.iload_n 1, 1, 0, 0, 0), some (.iload_n 3, 1, 0, 0, 0), some (.iadd, 1, 0, 0, 0), some (.invokevirtual 190, 3, 136, 0, 1302), none, none, some (.invokestatic 198, 3, 138, 0, 1310), none, none, some (.ifCond .eq 29, 3, 0, 0, 0)]
def jm_M142_r6 : List (Option jm_I) := [none, none, some (.iload_n 3, 1, 0, 0, 0), some (.bipush 8, 2, 0, 0, 0), none, some (.if_icmp .ge 17, 3, 0, 0, 0), none, none, some (.lload 4, 2, 0, 0, 0), none, some (.aload_n 0, 1, 0, 0, 0), some (.iload_n 1, 1, 0, 0, 0), some (.iload_n 3, 1, 0, 0, 0), some (.iadd, 1, 0, 0, 0), some (.invokevirtual 190, 3, 136, 0, 1302)]
def jm_M142_r7 : List (Option jm_I) := [none, some (.invokestatic 183, 3, 139, 0, 1063), none, none, some (.lstore 4, 2, 0, 0, 0), none, some (.iinc 3 1, 3, 0, 0, 0), none, none, some (.goto (-36), 3, 0, 0, 0), none, none, some (.iload_n 3, 1, 0, 0, 0), some (.bipush 8, 2, 0, 0, 0), none, some (.if_icmp .le 7, 3, 0, 0, 0)]
def jm_M142_r8 : List (Option jm_I) := [none, none, some (.iconst 3, 1, 0, 0, 0), some (.goto 4, 3, 0, 0, 0), none, none, some (.iconst 1, 1, 0, 0, 0), some (.istore 6, 2, 0, 0, 0), none, some (.iload_n 3, 1, 0, 0, 0), some (.bipush 8, 2, 0, 0, 0), none, some (.if_icmp .gt 39, 3, 0, 0, 0), none, none, some (.iconst 0, 1, 0, 0, 0)]
def jm_M142_r9 : List (Option jm_I) := [some (.istore 7, 2, 0, 0, 0), none, some (.iload 7, 2, 0, 0, 0), none, some (.bipush 23, 2, 0, 0, 0), none, some (.if_icmp .ge 29, 3, 0, 0, 0), none, none, some (.aload_n 0, 1, 0, 0, 0), some (.getfield 34, 3, 10, 9, 1083), none, none, some (.iload 7, 2, 0, 0, 0), none, some (.laload, 1, 0, 0, 0)]
def jm_M142_r10 : List (Option jm_I) := [some (.lload 4, 2, 0, 0, 0), none, some (.lcmp, 1, 0, 0, 0), some (.ifCond .ne 10, 3, 0, 0, 0), none, none, some (.bipush 20, 2, 0, 0, 0), none, some (.iload 7, 2, 0, 0, 0), none, some (.iadd, 1, 0, 0, 0), some (.istore 6, 2, 0, 0, 0), none, some (.iinc 7 1, 3, 0, 0, 0)]
def jm_M142_r11 : List (Option jm_I) := [some (.goto (-30), 3, 0, 0, 0), none, none, some (.aload_n 0, 1, 0, 0, 0), some (.iload 6, 2, 0, 0, 0), none, some (.iload_n 1, 1, 0, 0, 0), some (.iconst 0, 1, 0, 0, 0), some (.lload 4, 2, 0, 0, 0), none, some (.invokevirtual 194, 3, 141, 0, 1306), none, none, some (.iload_n 1, 1, 0, 0, 0), some (.iload_n 3, 1, 0, 0, 0), some (.iadd, 1, 0, 0, 0)]
def jm_M142_r12 : List (Option jm_I) := [some (.istore_n 1, 1, 0, 0, 0), some (.goto 98, 3, 0, 0, 0), none, none, some (.iload_n 2, 1, 0, 0, 0), some (.invokestatic 202, 3, 137, 0, 1313), none, none, some (.ifCond .eq 75, 3, 0, 0, 0), none, none, some (.iconst 0, 1, 0, 0, 0), some (.istore_n 3, 1, 0, 0, 0), some (.iconst 0, 1, 0, 0, 0), some (.istore 4, 2, 0, 0, 0)]
def jm_M142_r13 : List (Option jm_I) := [some (.aload_n 0, 1, 0, 0, 0), some (.iload_n 1, 1, 0, 0, 0), some (.iload_n 3, 1, 0, 0, 0), some (.iadd, 1, 0, 0, 0), some (.invokevirtual 190, 3, 136, 0, 1302), none, none, some (.invokestatic 202, 3, 137, 0, 1313), none, none, some (.ifCond .eq 32, 3, 0, 0, 0), none, none, some (.iload_n 3, 1, 0, 0, 0), some (.iconst 4, 1, 0, 0, 0), some (.if_icmp .ge 21, 3, 0, 0, 0)]
def jm_M142_r14 : List (Option jm_I) := [none, none, some (.bipush 10, 2, 0, 0, 0), none, some (.iload 4, 2, 0, 0, 0), none, some (.imul, 1, 0, 0, 0), some (.aload_n 0, 1, 0, 0, 0), some (.iload_n 1, 1, 0, 0, 0), some (.iload_n 3, 1, 0, 0, 0), some (.iadd, 1, 0, 0, 0), some (.invokevirtual 190, 3, 136, 0, 1302), none, none, some (.iadd, 1, 0, 0, 0), some (.bipush 48, 2, 0, 0, 0)]
def jm_M142_r15 : List (Option jm_I) := [none, some (.isub, 1, 0, 0, 0), some (.istore 4, 2, 0, 0, 0), none, some (.iinc 3 1, 3, 0, 0, 0), none, none, some (.goto (-39), 3, 0, 0, 0), none, none, some (.aload_n 0, 1, 0, 0, 0), some (.iload_n 3, 1, 0, 0, 0), some (.iconst 4, 1, 0, 0, 0), some (.if_icmp .le 7, 3, 0, 0, 0)]
def jm_M142_r16 : List (Option jm_I) := [some (.iconst 3, 1, 0, 0, 0), some (.goto 4, 3, 0, 0, 0), none, none, some (.iconst 2, 1, 0, 0, 0), some (.iload_n 1, 1, 0, 0, 0), some (.iload 4, 2, 0, 0, 0), none, some (.lconst 0, 1, 0, 0, 0), some (.invokevirtual 194, 3, 141, 0, 1306), none, none, some (.iload_n 1, 1, 0, 0, 0), some (.iload_n 3, 1, 0, 0, 0), some (.iadd, 1, 0, 0, 0), some (.istore_n 1, 1, 0, 0, 0)]
def jm_M142_r17 : List (Option jm_I) := [some (.goto 19, 3, 0, 0, 0), none, none, some (.iload_n 1, 1, 0, 0, 0), some (.aload_n 0, 1, 0, 0, 0), some (.iload_n 1, 1, 0, 0, 0), some (.iload_n 2, 1, 0, 0, 0), some (.aload_n 0, 1, 0, 0, 0), some (.iload_n 1, 1, 0, 0, 0), some (.iconst 1, 1, 0, 0, 0), some (.iadd, 1, 0, 0, 0), some (.invokevirtual 190, 3, 136, 0, 1302), none, none, some (.invokevirtual 205, 3, 143, 0, 1316)]
def jm_M142_r18 : List (Option jm_I) := [none, some (.iadd, 1, 0, 0, 0), some (.istore_n 1, 1, 0, 0, 0), some (.goto (-284), 3, 0, 0, 0), none, none, some (.return_, 1, 0, 0, 0)]
/-- FallMarketModel.cut()V -/
def jm_M142 : jm_M := (⟨"FallMarketModel", "cut", "()V"⟩, prog_12_method_12_code, 8, none, [jm_M142_r0, jm_M142_r1, jm_M142_r2, jm_M142_r3, jm_M142_r4, jm_M142_r5, jm_M142_r6, jm_M142_r7, jm_M142_r8, jm_M142_r9, jm_M142_r10, jm_M142_r11, jm_M142_r12, jm_M142_r13, jm_M142_r14, jm_M142_r15, jm_M142_r16, jm_M142_r17, jm_M142_r18], 2, 0, 1, 10)
/-- FallMarketModel.sign(III)I -/
def jm_M143 : jm_M := (⟨"FallMarketModel", "sign", "(III)I"⟩, prog_12_method_13_code, 5, some .int, [[some (.iload_n 2, 1, 0, 0, 0), some (.bipush 59, 2, 0, 0, 0), none, some (.if_icmp .ne 7, 3, 0, 0, 0), none, none, some (.iconst 4, 1, 0, 0, 0), some (.goto 36, 3, 0, 0, 0), none, none, some (.iload_n 2, 1, 0, 0, 0), some (.bipush 61, 2, 0, 0, 0), none, some (.if_icmp .ne 7, 3, 0, 0, 0)],
  [some (.iconst 5, 1, 0, 0, 0), some (.goto 26, 3, 0, 0, 0), none, none, some (.iload_n 2, 1, 0, 0, 0), some (.bipush 40, 2, 0, 0, 0), none, some (.if_icmp .ne 8, 3, 0, 0, 0), none, none, some (.bipush 6, 2, 0, 0, 0), none, some (.goto 15, 3, 0, 0, 0), none, none, some (.iload_n 2, 1, 0, 0, 0)],
  [some (.bipush 41, 2, 0, 0, 0), none, some (.if_icmp .ne 8, 3, 0, 0, 0), none, none, some (.bipush 7, 2, 0, 0, 0), none, some (.goto 4, 3, 0, 0, 0), none, none, some (.iconst 3, 1, 0, 0, 0), some (.istore 4, 2, 0, 0, 0), none, some (.iload_n 2, 1, 0, 0, 0), some (.bipush 43, 2, 0, 0, 0)],
  [some (.if_icmp .ne 7, 3, 0, 0, 0), none, none, some (.bipush 8, 2, 0, 0, 0), none, some (.istore 4, 2, 0, 0, 0), none, some (.iload_n 2, 1, 0, 0, 0), some (.bipush 45, 2, 0, 0, 0), none, some (.if_icmp .ne 7, 3, 0, 0, 0), none, none, some (.bipush 9, 2, 0, 0, 0), none, some (.istore 4, 2, 0, 0, 0)],
  [none, some (.iload_n 2, 1, 0, 0, 0), some (.bipush 42, 2, 0, 0, 0), none, some (.if_icmp .ne 7, 3, 0, 0, 0), none, none, some (.bipush 10, 2, 0, 0, 0), none, some (.istore 4, 2, 0, 0, 0), none, some (.iload_n 2, 1, 0, 0, 0), some (.bipush 47, 2, 0, 0, 0), none, some (.if_icmp .ne 7, 3, 0, 0, 0)],
  [none, some (.bipush 15, 2, 0, 0, 0), none, some (.istore 4, 2, 0, 0, 0), none, some (.iload_n 2, 1, 0, 0, 0), some (.bipush 60, 2, 0, 0, 0), none, some (.if_icmp .ne 7, 3, 0, 0, 0), none, none, some (.bipush 13, 2, 0, 0, 0), none, some (.istore 4, 2, 0, 0, 0), none, some (.aload_n 0, 1, 0, 0, 0)],
  [some (.iload 4, 2, 0, 0, 0), none, some (.iload_n 1, 1, 0, 0, 0), some (.iconst 0, 1, 0, 0, 0), some (.lconst 0, 1, 0, 0, 0), some (.invokevirtual 194, 3, 141, 0, 1306), none, none, some (.iconst 1, 1, 0, 0, 0), some (.ireturn, 1, 0, 0, 0)]], 2, 3, 1, 10)
/-- FallMarketModel.is(I)Z -/
def jm_M144 : jm_M := (⟨"FallMarketModel", "is", "(I)Z"⟩, prog_12_method_14_code, 2, some .boolean, [[some (.aload_n 0, 1, 0, 0, 0), some (.getfield 209, 3, 10, 13, 1087), none, none, some (.ifCond .ne 20, 3, 0, 0, 0), none, none, some (.aload_n 0, 1, 0, 0, 0), some (.getfield 20, 3, 10, 5, 1079), none, none, some (.aload_n 0, 1, 0, 0, 0), some (.getfield 212, 3, 10, 11, 1085), none, none, some (.iaload, 1, 0, 0, 0)],
  [some (.iload_n 1, 1, 0, 0, 0), some (.if_icmp .ne 7, 3, 0, 0, 0), none, none, some (.iconst 1, 1, 0, 0, 0), some (.goto 4, 3, 0, 0, 0), none, none, some (.iconst 0, 1, 0, 0, 0), some (.ireturn, 1, 0, 0, 0)]], 2, 1, 1, 10)
/-- FallMarketModel.fail(I)V -/
def jm_M145 : jm_M := (⟨"FallMarketModel", "fail", "(I)V"⟩, prog_12_method_15_code, 2, none, [[some (.aload_n 0, 1, 0, 0, 0), some (.getfield 209, 3, 10, 13, 1087), none, none, some (.ifCond .le 4, 3, 0, 0, 0), none, none, some (.return_, 1, 0, 0, 0), some (.aload_n 0, 1, 0, 0, 0), some (.iload_n 1, 1, 0, 0, 0), some (.putfield 209, 3, 10, 13, 1087), none, none, some (.aload_n 0, 1, 0, 0, 0), some (.aload_n 0, 1, 0, 0, 0), some (.getfield 24, 3, 10, 6, 1080)],
  [none, none, some (.aload_n 0, 1, 0, 0, 0), some (.getfield 212, 3, 10, 11, 1085), none, none, some (.iaload, 1, 0, 0, 0), some (.putfield 215, 3, 10, 14, 1088), none, none, some (.return_, 1, 0, 0, 0)]], 2, 1, 1, 10)
/-- FallMarketModel.wrong(II)V -/
def jm_M146 : jm_M := (⟨"FallMarketModel", "wrong", "(II)V"⟩, prog_12_method_16_code, 4, none, [[some (.aload_n 0, 1, 0, 0, 0), some (.getfield 24, 3, 10, 6, 1080), none, none, some (.iload_n 2, 1, 0, 0, 0), some (.iaload, 1, 0, 0, 0), some (.istore_n 3, 1, 0, 0, 0), some (.aload_n 0, 1, 0, 0, 0), some (.getfield 209, 3, 10, 13, 1087), none, none, some (.ifCond .gt 34, 3, 0, 0, 0), none, none, some (.aload_n 0, 1, 0, 0, 0), some (.getfield 218, 3, 10, 15, 1089)],
  [none, none, some (.ifCond .eq 28, 3, 0, 0, 0), none, none, some (.iload_n 3, 1, 0, 0, 0), some (.aload_n 0, 1, 0, 0, 0), some (.getfield 221, 3, 10, 16, 1090), none, none, some (.if_icmp .gt 19, 3, 0, 0, 0), none, none, some (.iload_n 3, 1, 0, 0, 0), some (.aload_n 0, 1, 0, 0, 0), some (.getfield 221, 3, 10, 16, 1090)],
  [none, none, some (.if_icmp .ne 12, 3, 0, 0, 0), none, none, some (.iload_n 1, 1, 0, 0, 0), some (.aload_n 0, 1, 0, 0, 0), some (.getfield 218, 3, 10, 15, 1089), none, none, some (.if_icmp .lt 4, 3, 0, 0, 0), none, none, some (.return_, 1, 0, 0, 0), some (.aload_n 0, 1, 0, 0, 0), some (.iload_n 1, 1, 0, 0, 0)],
  [some (.putfield 218, 3, 10, 15, 1089), none, none, some (.aload_n 0, 1, 0, 0, 0), some (.iload_n 3, 1, 0, 0, 0), some (.putfield 221, 3, 10, 16, 1090), none, none, some (.return_, 1, 0, 0, 0)]], 2, 2, 1, 10)
/-- FallMarketModel.goesOn()V -/
def jm_M147 : jm_M := (⟨"FallMarketModel", "goesOn", "()V"⟩, prog_12_method_17_code, 1, none, [[some (.aload_n 0, 1, 0, 0, 0), some (.getfield 212, 3, 10, 11, 1085), none, none, some (.sipush 400, 3, 0, 0, 0), none, none, some (.if_icmp .ne 11, 3, 0, 0, 0), none, none, some (.aload_n 0, 1, 0, 0, 0), some (.iconst 2, 1, 0, 0, 0), some (.invokevirtual 224, 3, 145, 0, 1332), none, none, some (.goto 13, 3, 0, 0, 0)],
  [none, none, some (.aload_n 0, 1, 0, 0, 0), some (.dup, 1, 0, 0, 0), some (.getfield 212, 3, 10, 11, 1085), none, none, some (.iconst 1, 1, 0, 0, 0), some (.iadd, 1, 0, 0, 0), some (.putfield 212, 3, 10, 11, 1085), none, none, some (.return_, 1, 0, 0, 0)]], 2, 0, 1, 10)
/-- FallMarketModel.must(I)V -/
def jm_M148 : jm_M := (⟨"FallMarketModel", "must", "(I)V"⟩, prog_12_method_18_code, 2, none, [[some (.aload_n 0, 1, 0, 0, 0), some (.iload_n 1, 1, 0, 0, 0), some (.invokevirtual 227, 3, 144, 0, 1320), none, none, some (.ifCond .eq 10, 3, 0, 0, 0), none, none, some (.aload_n 0, 1, 0, 0, 0), some (.invokevirtual 230, 3, 147, 0, 1336), none, none, some (.goto 8, 3, 0, 0, 0), none, none, some (.aload_n 0, 1, 0, 0, 0)],
  [some (.iconst 1, 1, 0, 0, 0), some (.invokevirtual 224, 3, 145, 0, 1332), none, none, some (.return_, 1, 0, 0, 0)]], 2, 1, 1, 10)
/-- FallMarketModel.plain(I)V -/
def jm_M149 : jm_M := (⟨"FallMarketModel", "plain", "(I)V"⟩, prog_12_method_19_code, 3, none, [[some (.aload_n 0, 1, 0, 0, 0), some (.getfield 43, 3, 10, 22, 1096), none, none, some (.iload_n 1, 1, 0, 0, 0), some (.iconst 0, 1, 0, 0, 0), some (.iastore, 1, 0, 0, 0), some (.aload_n 0, 1, 0, 0, 0), some (.getfield 55, 3, 10, 26, 1100), none, none, some (.iload_n 1, 1, 0, 0, 0), some (.iconst 0, 1, 0, 0, 0), some (.iastore, 1, 0, 0, 0), some (.aload_n 0, 1, 0, 0, 0), some (.getfield 67, 3, 10, 30, 1104)],
  [none, none, some (.iload_n 1, 1, 0, 0, 0), some (.bipush 10, 2, 0, 0, 0), none, some (.iastore, 1, 0, 0, 0), some (.aload_n 0, 1, 0, 0, 0), some (.getfield 70, 3, 10, 31, 1105), none, none, some (.iload_n 1, 1, 0, 0, 0), some (.bipush 6, 2, 0, 0, 0), none, some (.iastore, 1, 0, 0, 0), some (.aload_n 0, 1, 0, 0, 0), some (.getfield 73, 3, 10, 32, 1106)],
  [none, none, some (.iload_n 1, 1, 0, 0, 0), some (.iconst 0, 1, 0, 0, 0), some (.iastore, 1, 0, 0, 0), some (.iconst 0, 1, 0, 0, 0), some (.istore_n 2, 1, 0, 0, 0), some (.iload_n 2, 1, 0, 0, 0), some (.bipush 6, 2, 0, 0, 0), none, some (.if_icmp .ge 33, 3, 0, 0, 0), none, none, some (.aload_n 0, 1, 0, 0, 0), some (.getfield 76, 3, 10, 33, 1107)],
  [none, some (.bipush 6, 2, 0, 0, 0), none, some (.iload_n 1, 1, 0, 0, 0), some (.imul, 1, 0, 0, 0), some (.iload_n 2, 1, 0, 0, 0), some (.iadd, 1, 0, 0, 0), some (.iconst 0, 1, 0, 0, 0), some (.iastore, 1, 0, 0, 0), some (.aload_n 0, 1, 0, 0, 0), some (.getfield 79, 3, 10, 34, 1108), none, none, some (.bipush 6, 2, 0, 0, 0), none, some (.iload_n 1, 1, 0, 0, 0)],
  [some (.imul, 1, 0, 0, 0), some (.iload_n 2, 1, 0, 0, 0), some (.iadd, 1, 0, 0, 0), some (.iconst 0, 1, 0, 0, 0), some (.iastore, 1, 0, 0, 0), some (.iinc 2 1, 3, 0, 0, 0), none, none, some (.goto (-33), 3, 0, 0, 0), none, none, some (.return_, 1, 0, 0, 0)]], 2, 1, 1, 10)
def jm_M150_r0 : List (Option jm_I) := [some (.aload_n 0, 1, 0, 0, 0), some (.aload_n 0, 1, 0, 0, 0), some (.getfield 172, 3, 10, 2, 1076), none, none, some (.putfield 178, 3, 10, 4, 1078), none, none, some (.iconst 0, 1, 0, 0, 0), some (.istore_n 1, 1, 0, 0, 0), some (.iload_n 1, 1, 0, 0, 0), some (.aload_n 0, 1, 0, 0, 0), some (.getfield 178, 3, 10, 4, 1078), none, none, some (.if_icmp .ge 21, 3, 0, 0, 0)]
def jm_M150_r1 : List (Option jm_I) := [none, none, some (.aload_n 0, 1, 0, 0, 0), some (.getfield 17, 3, 10, 3, 1077), none, none, some (.iload_n 1, 1, 0, 0, 0), some (.aload_n 0, 1, 0, 0, 0), some (.getfield 13, 3, 10, 1, 1075), none, none, some (.iload_n 1, 1, 0, 0, 0), some (.baload, 1, 0, 0, 0), some (.bastore, 1, 0, 0, 0), some (.iinc 1 1, 3, 0, 0, 0)]
def jm_M150_r2 : List (Option jm_I) := [none, some (.goto (-23), 3, 0, 0, 0), none, none, some (.aload_n 0, 1, 0, 0, 0), some (.iconst 0, 1, 0, 0, 0), some (.putfield 172, 3, 10, 2, 1076), none, none, some (.aload_n 0, 1, 0, 0, 0), some (.invokevirtual 233, 3, 142, 0, 1298), none, none, some (.aload_n 0, 1, 0, 0, 0), some (.iconst 0, 1, 0, 0, 0), some (.putfield 212, 3, 10, 11, 1085)]
def jm_M150_r3 : List (Option jm_I) := [none, none, some (.aload_n 0, 1, 0, 0, 0), some (.iconst 0, 1, 0, 0, 0), some (.putfield 236, 3, 10, 12, 1086), none, none, some (.aload_n 0, 1, 0, 0, 0), some (.iconst 0, 1, 0, 0, 0), some (.putfield 209, 3, 10, 13, 1087), none, none, some (.aload_n 0, 1, 0, 0, 0), some (.iconst 0, 1, 0, 0, 0), some (.putfield 218, 3, 10, 15, 1089)]
def jm_M150_r4 : List (Option jm_I) := [none, some (.aload_n 0, 1, 0, 0, 0), some (.iconst 1, 1, 0, 0, 0), some (.aload_n 0, 1, 0, 0, 0), some (.getfield 239, 3, 10, 18, 1092), none, none, some (.isub, 1, 0, 0, 0), some (.putfield 242, 3, 10, 19, 1093), none, none, some (.aload_n 0, 1, 0, 0, 0), some (.iconst 0, 1, 0, 0, 0), some (.putfield 245, 3, 10, 20, 1094)]
def jm_M150_r5 : List (Option jm_I) := [some (.aload_n 0, 1, 0, 0, 0), some (.aload_n 0, 1, 0, 0, 0), some (.getfield 242, 3, 10, 19, 1093), none, none, some (.invokevirtual 158, 3, 149, 0, 1056), none, none, some (.aload_n 0, 1, 0, 0, 0), some (.sipush 130, 3, 0, 0, 0), none, none, some (.aload_n 0, 1, 0, 0, 0), some (.getfield 242, 3, 10, 19, 1093)]
def jm_M150_r6 : List (Option jm_I) := [some (.imul, 1, 0, 0, 0), some (.putfield 248, 3, 10, 35, 1109), none, none, some (.aload_n 0, 1, 0, 0, 0), some (.sipush 420, 3, 0, 0, 0), none, none, some (.aload_n 0, 1, 0, 0, 0), some (.getfield 242, 3, 10, 19, 1093), none, none, some (.imul, 1, 0, 0, 0), some (.putfield 251, 3, 10, 41, 1115)]
def jm_M150_r7 : List (Option jm_I) := [some (.aload_n 0, 1, 0, 0, 0), some (.getfield 209, 3, 10, 13, 1087), none, none, some (.ifCond .ne 18, 3, 0, 0, 0), none, none, some (.aload_n 0, 1, 0, 0, 0), some (.iconst 0, 1, 0, 0, 0), some (.invokevirtual 227, 3, 144, 0, 1320), none, none, some (.ifCond .ne 10, 3, 0, 0, 0), none, none, some (.aload_n 0, 1, 0, 0, 0)]
def jm_M150_r8 : List (Option jm_I) := [some (.invokevirtual 254, 3, 154, 0, 1324), none, none, some (.goto (-19), 3, 0, 0, 0), none, none, some (.aload_n 0, 1, 0, 0, 0), some (.aload_n 0, 1, 0, 0, 0), some (.getfield 209, 3, 10, 13, 1087), none, none, some (.ifCond .le 10, 3, 0, 0, 0), none, none, some (.aload_n 0, 1, 0, 0, 0), some (.getfield 215, 3, 10, 14, 1088)]
def jm_M150_r9 : List (Option jm_I) := [none, none, some (.goto 18, 3, 0, 0, 0), none, none, some (.aload_n 0, 1, 0, 0, 0), some (.getfield 218, 3, 10, 15, 1089), none, none, some (.ifCond .le 10, 3, 0, 0, 0), none, none, some (.aload_n 0, 1, 0, 0, 0), some (.getfield 221, 3, 10, 16, 1090)]
def jm_M150_r10 : List (Option jm_I) := [some (.goto 4, 3, 0, 0, 0), none, none, some (.iconst (-1), 1, 0, 0, 0), some (.putfield 37, 3, 10, 17, 1091), none, none, some (.aload_n 0, 1, 0, 0, 0), some (.getfield 209, 3, 10, 13, 1087), none, none, some (.ifCond .le 8, 3, 0, 0, 0), none, none, some (.aload_n 0, 1, 0, 0, 0), some (.getfield 209, 3, 10, 13, 1087)]
def jm_M150_r11 : List (Option jm_I) := [none, none, some (.ireturn, 1, 0, 0, 0), some (.aload_n 0, 1, 0, 0, 0), some (.getfield 218, 3, 10, 15, 1089), none, none, some (.ifCond .le 8, 3, 0, 0, 0), none, none, some (.aload_n 0, 1, 0, 0, 0), some (.getfield 218, 3, 10, 15, 1089), none, none, some (.ireturn, 1, 0, 0, 0), some (.aload_n 0, 1, 0, 0, 0)]
def jm_M150_r12 : List (Option jm_I) := [some (.aload_n 0, 1, 0, 0, 0), some (.getfield 242, 3, 10, 19, 1093), none, none, some (.putfield 239, 3, 10, 18, 1092), none, none, some (.aload_n 0, 1, 0, 0, 0), some (.invokevirtual 166, 3, 171, 0, 1067), none, none, some (.aload_n 0, 1, 0, 0, 0), some (.invokevirtual 169, 3, 172, 0, 1071), none, none, some (.aload_n 0, 1, 0, 0, 0)]
def jm_M150_r13 : List (Option jm_I) := [some (.iconst 0, 1, 0, 0, 0), some (.putfield 257, 3, 10, 57, 1131), none, none, some (.aload_n 0, 1, 0, 0, 0), some (.iconst 0, 1, 0, 0, 0), some (.putfield 260, 3, 10, 61, 1135), none, none, some (.iconst 0, 1, 0, 0, 0), some (.istore_n 1, 1, 0, 0, 0), some (.iload_n 1, 1, 0, 0, 0), some (.iconst 3, 1, 0, 0, 0), some (.if_icmp .ge 16, 3, 0, 0, 0)]
def jm_M150_r14 : List (Option jm_I) := [some (.aload_n 0, 1, 0, 0, 0), some (.getfield 152, 3, 10, 67, 1141), none, none, some (.iload_n 1, 1, 0, 0, 0), some (.iconst 0, 1, 0, 0, 0), some (.bastore, 1, 0, 0, 0), some (.iinc 1 1, 3, 0, 0, 0), none, none, some (.goto (-15), 3, 0, 0, 0), none, none, some (.iconst 0, 1, 0, 0, 0), some (.ireturn, 1, 0, 0, 0)]
/-- FallMarketModel.read()I -/
def jm_M150 : jm_M := (⟨"FallMarketModel", "read", "()I"⟩, prog_12_method_20_code, 2, some .int, [jm_M150_r0, jm_M150_r1, jm_M150_r2, jm_M150_r3, jm_M150_r4, jm_M150_r5, jm_M150_r6, jm_M150_r7, jm_M150_r8, jm_M150_r9, jm_M150_r10, jm_M150_r11, jm_M150_r12, jm_M150_r13, jm_M150_r14], 2, 0, 1, 10)
/-- FallMarketModel.place()I -/
def jm_M151 : jm_M := (⟨"FallMarketModel", "place", "()I"⟩, prog_12_method_21_code, 1, some .int, [[some (.aload_n 0, 1, 0, 0, 0), some (.getfield 37, 3, 10, 17, 1091), none, none, some (.ireturn, 1, 0, 0, 0)]], 2, 0, 1, 10)
/-- FallMarketModel.roomFor(II)V -/
def jm_M152 : jm_M := (⟨"FallMarketModel", "roomFor", "(II)V"⟩, prog_12_method_22_code, 3, none, [[some (.iload_n 1, 1, 0, 0, 0), some (.iload_n 2, 1, 0, 0, 0), some (.if_icmp .ne 8, 3, 0, 0, 0), none, none, some (.aload_n 0, 1, 0, 0, 0), some (.iconst 2, 1, 0, 0, 0), some (.invokevirtual 224, 3, 145, 0, 1332), none, none, some (.aload_n 0, 1, 0, 0, 0), some (.getfield 209, 3, 10, 13, 1087), none, none, some (.ifCond .ne 7, 3, 0, 0, 0)],
  [none, some (.aload_n 0, 1, 0, 0, 0), some (.invokevirtual 230, 3, 147, 0, 1336), none, none, some (.return_, 1, 0, 0, 0)]], 2, 2, 1, 10)
/-- FallMarketModel.toldInt(II)I -/
def jm_M153 : jm_M := (⟨"FallMarketModel", "toldInt", "(II)I"⟩, prog_12_method_23_code, 4, some .int, [[some (.aload_n 0, 1, 0, 0, 0), some (.invokevirtual 230, 3, 147, 0, 1336), none, none, some (.aload_n 0, 1, 0, 0, 0), some (.iload_n 1, 1, 0, 0, 0), some (.iload_n 2, 1, 0, 0, 0), some (.invokevirtual 263, 3, 157, 0, 1356), none, none, some (.istore_n 3, 1, 0, 0, 0), some (.aload_n 0, 1, 0, 0, 0), some (.iconst 4, 1, 0, 0, 0), some (.invokevirtual 267, 3, 148, 0, 1348)],
  [some (.iload_n 3, 1, 0, 0, 0), some (.ireturn, 1, 0, 0, 0)]], 2, 2, 1, 10)
def jm_M154_r0 : List (Option jm_I) := [some (.aload_n 0, 1, 0, 0, 0), some (.getfield 20, 3, 10, 5, 1079), none, none, some (.aload_n 0, 1, 0, 0, 0), some (.getfield 212, 3, 10, 11, 1085), none, none, some (.iaload, 1, 0, 0, 0), some (.tableswitch 174 20 30 #[59, 88, 174, 174, 174, 174, 174, 174, 116, 135, 154], 59, 0, 0, 0)]
def jm_M154_r1 : List (Option jm_I) := []
def jm_M154_r2 : List (Option jm_I) := []
def jm_M154_r3 : List (Option jm_I) := []
def jm_M154_r4 : List (Option jm_I) := [none, none, none, none, some (.aload_n 0, 1, 0, 0, 0), some (.aload_n 0, 1, 0, 0, 0), some (.getfield 43, 3, 10, 22, 1096), none, none, some (.aload_n 0, 1, 0, 0, 0), some (.getfield 242, 3, 10, 19, 1093), none, none, some (.iaload, 1, 0, 0, 0), some (.bipush 7, 2, 0, 0, 0)]
def jm_M154_r5 : List (Option jm_I) := [some (.invokevirtual 270, 3, 152, 0, 1328), none, none, some (.aload_n 0, 1, 0, 0, 0), some (.getfield 209, 3, 10, 13, 1087), none, none, some (.ifCond .ne 149, 3, 0, 0, 0), none, none, some (.aload_n 0, 1, 0, 0, 0), some (.invokevirtual 274, 3, 158, 0, 1340), none, none, some (.goto 142, 3, 0, 0, 0)]
def jm_M154_r6 : List (Option jm_I) := [none, some (.aload_n 0, 1, 0, 0, 0), some (.aload_n 0, 1, 0, 0, 0), some (.getfield 55, 3, 10, 26, 1100), none, none, some (.aload_n 0, 1, 0, 0, 0), some (.getfield 242, 3, 10, 19, 1093), none, none, some (.iaload, 1, 0, 0, 0), some (.iconst 4, 1, 0, 0, 0), some (.invokevirtual 270, 3, 152, 0, 1328), none, none, some (.aload_n 0, 1, 0, 0, 0)]
def jm_M154_r7 : List (Option jm_I) := [some (.getfield 209, 3, 10, 13, 1087), none, none, some (.ifCond .ne 121, 3, 0, 0, 0), none, none, some (.aload_n 0, 1, 0, 0, 0), some (.invokevirtual 277, 3, 159, 0, 1364), none, none, some (.goto 114, 3, 0, 0, 0), none, none, some (.aload_n 0, 1, 0, 0, 0), some (.getfield 67, 3, 10, 30, 1104)]
def jm_M154_r8 : List (Option jm_I) := [none, some (.aload_n 0, 1, 0, 0, 0), some (.getfield 242, 3, 10, 19, 1093), none, none, some (.aload_n 0, 1, 0, 0, 0), some (.iconst 0, 1, 0, 0, 0), some (.bipush 99, 2, 0, 0, 0), none, some (.invokevirtual 280, 3, 153, 0, 1368), none, none, some (.iastore, 1, 0, 0, 0), some (.goto 95, 3, 0, 0, 0)]
def jm_M154_r9 : List (Option jm_I) := [some (.aload_n 0, 1, 0, 0, 0), some (.getfield 70, 3, 10, 31, 1105), none, none, some (.aload_n 0, 1, 0, 0, 0), some (.getfield 242, 3, 10, 19, 1093), none, none, some (.aload_n 0, 1, 0, 0, 0), some (.iconst 0, 1, 0, 0, 0), some (.bipush 99, 2, 0, 0, 0), none, some (.invokevirtual 280, 3, 153, 0, 1368), none, none, some (.iastore, 1, 0, 0, 0)]
def jm_M154_r10 : List (Option jm_I) := [some (.goto 76, 3, 0, 0, 0), none, none, some (.aload_n 0, 1, 0, 0, 0), some (.getfield 73, 3, 10, 32, 1106), none, none, some (.aload_n 0, 1, 0, 0, 0), some (.getfield 242, 3, 10, 19, 1093), none, none, some (.aload_n 0, 1, 0, 0, 0), some (.iconst 0, 1, 0, 0, 0), some (.sipush 9999, 3, 0, 0, 0)]
def jm_M154_r11 : List (Option jm_I) := [some (.invokevirtual 280, 3, 153, 0, 1368), none, none, some (.iastore, 1, 0, 0, 0), some (.goto 56, 3, 0, 0, 0), none, none, some (.aload_n 0, 1, 0, 0, 0), some (.getfield 20, 3, 10, 5, 1079), none, none, some (.aload_n 0, 1, 0, 0, 0), some (.getfield 212, 3, 10, 11, 1085), none, none, some (.iaload, 1, 0, 0, 0)]
def jm_M154_r12 : List (Option jm_I) := [some (.bipush 22, 2, 0, 0, 0), none, some (.isub, 1, 0, 0, 0), some (.istore_n 1, 1, 0, 0, 0), some (.iload_n 1, 1, 0, 0, 0), some (.ifCond .lt 17, 3, 0, 0, 0), none, none, some (.aload_n 0, 1, 0, 0, 0), some (.getfield 20, 3, 10, 5, 1079), none, none, some (.aload_n 0, 1, 0, 0, 0), some (.getfield 212, 3, 10, 11, 1085)]
def jm_M154_r13 : List (Option jm_I) := [some (.iaload, 1, 0, 0, 0), some (.bipush 27, 2, 0, 0, 0), none, some (.if_icmp .le 8, 3, 0, 0, 0), none, none, some (.aload_n 0, 1, 0, 0, 0), some (.iconst 1, 1, 0, 0, 0), some (.invokevirtual 224, 3, 145, 0, 1332), none, none, some (.aload_n 0, 1, 0, 0, 0), some (.getfield 209, 3, 10, 13, 1087), none, none, some (.ifCond .le 4, 3, 0, 0, 0)]
def jm_M154_r14 : List (Option jm_I) := [none, none, some (.return_, 1, 0, 0, 0), some (.aload_n 0, 1, 0, 0, 0), some (.invokevirtual 230, 3, 147, 0, 1336), none, none, some (.aload_n 0, 1, 0, 0, 0), some (.iload_n 1, 1, 0, 0, 0), some (.invokevirtual 283, 3, 160, 0, 1372), none, none, some (.return_, 1, 0, 0, 0)]
/-- FallMarketModel.tellOne()V -/
def jm_M154 : jm_M := (⟨"FallMarketModel", "tellOne", "()V"⟩, prog_12_method_24_code, 2, none, [jm_M154_r0, jm_M154_r1, jm_M154_r2, jm_M154_r3, jm_M154_r4, jm_M154_r5, jm_M154_r6, jm_M154_r7, jm_M154_r8, jm_M154_r9, jm_M154_r10, jm_M154_r11, jm_M154_r12, jm_M154_r13, jm_M154_r14], 2, 0, 1, 10)
/-- FallMarketModel.named()I -/
def jm_M155 : jm_M := (⟨"FallMarketModel", "named", "()I"⟩, prog_12_method_25_code, 3, some .int, [[some (.aload_n 0, 1, 0, 0, 0), some (.getfield 212, 3, 10, 11, 1085), none, none, some (.istore_n 1, 1, 0, 0, 0), some (.aload_n 0, 1, 0, 0, 0), some (.iconst 1, 1, 0, 0, 0), some (.invokevirtual 267, 3, 148, 0, 1348), none, none, some (.iconst 0, 1, 0, 0, 0), some (.istore_n 2, 1, 0, 0, 0), some (.iload_n 2, 1, 0, 0, 0), some (.aload_n 0, 1, 0, 0, 0), some (.getfield 245, 3, 10, 20, 1094)],
  [none, some (.if_icmp .ge 38, 3, 0, 0, 0), none, none, some (.aload_n 0, 1, 0, 0, 0), some (.getfield 209, 3, 10, 13, 1087), none, none, some (.ifCond .ne 31, 3, 0, 0, 0), none, none, some (.aload_n 0, 1, 0, 0, 0), some (.getfield 40, 3, 10, 21, 1095), none, none, some (.iload_n 2, 1, 0, 0, 0)],
  [some (.laload, 1, 0, 0, 0), some (.aload_n 0, 1, 0, 0, 0), some (.getfield 30, 3, 10, 8, 1082), none, none, some (.iload_n 1, 1, 0, 0, 0), some (.laload, 1, 0, 0, 0), some (.lcmp, 1, 0, 0, 0), some (.ifCond .ne 9, 3, 0, 0, 0), none, none, some (.aload_n 0, 1, 0, 0, 0), some (.iconst 3, 1, 0, 0, 0), some (.iload_n 1, 1, 0, 0, 0), some (.invokevirtual 286, 3, 146, 0, 1352)],
  [none, some (.iinc 2 1, 3, 0, 0, 0), none, none, some (.goto (-40), 3, 0, 0, 0), none, none, some (.iload_n 1, 1, 0, 0, 0), some (.ireturn, 1, 0, 0, 0)]], 2, 0, 1, 10)
/-- FallMarketModel.ends(I)V -/
def jm_M156 : jm_M := (⟨"FallMarketModel", "ends", "(I)V"⟩, prog_12_method_26_code, 2, none, [[some (.aload_n 0, 1, 0, 0, 0), some (.iconst 4, 1, 0, 0, 0), some (.invokevirtual 267, 3, 148, 0, 1348), none, none, some (.aload_n 0, 1, 0, 0, 0), some (.getfield 209, 3, 10, 13, 1087), none, none, some (.ifCond .le 4, 3, 0, 0, 0), none, none, some (.return_, 1, 0, 0, 0), some (.aload_n 0, 1, 0, 0, 0), some (.getfield 40, 3, 10, 21, 1095)],
  [none, some (.aload_n 0, 1, 0, 0, 0), some (.getfield 245, 3, 10, 20, 1094), none, none, some (.aload_n 0, 1, 0, 0, 0), some (.getfield 30, 3, 10, 8, 1082), none, none, some (.iload_n 1, 1, 0, 0, 0), some (.laload, 1, 0, 0, 0), some (.lastore, 1, 0, 0, 0), some (.aload_n 0, 1, 0, 0, 0), some (.dup, 1, 0, 0, 0), some (.getfield 245, 3, 10, 20, 1094)],
  [none, some (.iconst 1, 1, 0, 0, 0), some (.iadd, 1, 0, 0, 0), some (.putfield 245, 3, 10, 20, 1094), none, none, some (.return_, 1, 0, 0, 0)]], 2, 1, 1, 10)
/-- FallMarketModel.bounded(II)I -/
def jm_M157 : jm_M := (⟨"FallMarketModel", "bounded", "(II)I"⟩, prog_12_method_27_code, 4, some .int, [[some (.aload_n 0, 1, 0, 0, 0), some (.getfield 209, 3, 10, 13, 1087), none, none, some (.ifCond .gt 11, 3, 0, 0, 0), none, none, some (.aload_n 0, 1, 0, 0, 0), some (.iconst 2, 1, 0, 0, 0), some (.invokevirtual 227, 3, 144, 0, 1320), none, none, some (.ifCond .ne 10, 3, 0, 0, 0), none, none, some (.aload_n 0, 1, 0, 0, 0)],
  [some (.iconst 1, 1, 0, 0, 0), some (.invokevirtual 224, 3, 145, 0, 1332), none, none, some (.iload_n 1, 1, 0, 0, 0), some (.ireturn, 1, 0, 0, 0), some (.aload_n 0, 1, 0, 0, 0), some (.getfield 27, 3, 10, 7, 1081), none, none, some (.aload_n 0, 1, 0, 0, 0), some (.getfield 212, 3, 10, 11, 1085), none, none, some (.iaload, 1, 0, 0, 0), some (.istore_n 3, 1, 0, 0, 0)],
  [some (.iload_n 3, 1, 0, 0, 0), some (.iload_n 1, 1, 0, 0, 0), some (.if_icmp .lt 8, 3, 0, 0, 0), none, none, some (.iload_n 3, 1, 0, 0, 0), some (.iload_n 2, 1, 0, 0, 0), some (.if_icmp .le 12, 3, 0, 0, 0), none, none, some (.aload_n 0, 1, 0, 0, 0), some (.iconst 5, 1, 0, 0, 0), some (.aload_n 0, 1, 0, 0, 0), some (.getfield 212, 3, 10, 11, 1085)],
  [some (.invokevirtual 286, 3, 146, 0, 1352), none, none, some (.aload_n 0, 1, 0, 0, 0), some (.invokevirtual 230, 3, 147, 0, 1336), none, none, some (.iload_n 3, 1, 0, 0, 0), some (.ireturn, 1, 0, 0, 0)]], 2, 2, 1, 10)
/-- FallMarketModel.tellFruit()V -/
def jm_M158 : jm_M := (⟨"FallMarketModel", "tellFruit", "()V"⟩, prog_12_method_28_code, 3, none, [[some (.bipush 7, 2, 0, 0, 0), none, some (.aload_n 0, 1, 0, 0, 0), some (.getfield 242, 3, 10, 19, 1093), none, none, some (.imul, 1, 0, 0, 0), some (.aload_n 0, 1, 0, 0, 0), some (.getfield 43, 3, 10, 22, 1096), none, none, some (.aload_n 0, 1, 0, 0, 0), some (.getfield 242, 3, 10, 19, 1093), none, none, some (.iaload, 1, 0, 0, 0)],
  [some (.iadd, 1, 0, 0, 0), some (.istore_n 1, 1, 0, 0, 0), some (.aload_n 0, 1, 0, 0, 0), some (.invokevirtual 289, 3, 155, 0, 1344), none, none, some (.istore_n 2, 1, 0, 0, 0), some (.aload_n 0, 1, 0, 0, 0), some (.getfield 46, 3, 10, 23, 1097), none, none, some (.iload_n 1, 1, 0, 0, 0), some (.aload_n 0, 1, 0, 0, 0), some (.iconst 0, 1, 0, 0, 0), some (.bipush 9, 2, 0, 0, 0)],
  [some (.invokevirtual 263, 3, 157, 0, 1356), none, none, some (.iastore, 1, 0, 0, 0), some (.aload_n 0, 1, 0, 0, 0), some (.getfield 49, 3, 10, 24, 1098), none, none, some (.iload_n 1, 1, 0, 0, 0), some (.aload_n 0, 1, 0, 0, 0), some (.iconst 1, 1, 0, 0, 0), some (.bipush 9, 2, 0, 0, 0), none, some (.invokevirtual 263, 3, 157, 0, 1356)],
  [some (.iastore, 1, 0, 0, 0), some (.aload_n 0, 1, 0, 0, 0), some (.getfield 52, 3, 10, 25, 1099), none, none, some (.iload_n 1, 1, 0, 0, 0), some (.aload_n 0, 1, 0, 0, 0), some (.iconst 0, 1, 0, 0, 0), some (.bipush 99, 2, 0, 0, 0), none, some (.invokevirtual 263, 3, 157, 0, 1356), none, none, some (.iastore, 1, 0, 0, 0), some (.aload_n 0, 1, 0, 0, 0), some (.iload_n 2, 1, 0, 0, 0)],
  [some (.invokevirtual 293, 3, 156, 0, 1360), none, none, some (.aload_n 0, 1, 0, 0, 0), some (.getfield 209, 3, 10, 13, 1087), none, none, some (.ifCond .ne 16, 3, 0, 0, 0), none, none, some (.aload_n 0, 1, 0, 0, 0), some (.getfield 43, 3, 10, 22, 1096), none, none, some (.aload_n 0, 1, 0, 0, 0), some (.getfield 242, 3, 10, 19, 1093)],
  [none, none, some (.dup2, 1, 0, 0, 0), some (.iaload, 1, 0, 0, 0), some (.iconst 1, 1, 0, 0, 0), some (.iadd, 1, 0, 0, 0), some (.iastore, 1, 0, 0, 0), some (.return_, 1, 0, 0, 0)]], 2, 0, 1, 10)
/-- FallMarketModel.tellBuyer()V -/
def jm_M159 : jm_M := (⟨"FallMarketModel", "tellBuyer", "()V"⟩, prog_12_method_29_code, 3, none, [[some (.iconst 4, 1, 0, 0, 0), some (.aload_n 0, 1, 0, 0, 0), some (.getfield 242, 3, 10, 19, 1093), none, none, some (.imul, 1, 0, 0, 0), some (.aload_n 0, 1, 0, 0, 0), some (.getfield 55, 3, 10, 26, 1100), none, none, some (.aload_n 0, 1, 0, 0, 0), some (.getfield 242, 3, 10, 19, 1093), none, none, some (.iaload, 1, 0, 0, 0), some (.iadd, 1, 0, 0, 0)],
  [some (.istore_n 1, 1, 0, 0, 0), some (.aload_n 0, 1, 0, 0, 0), some (.invokevirtual 289, 3, 155, 0, 1344), none, none, some (.istore_n 2, 1, 0, 0, 0), some (.aload_n 0, 1, 0, 0, 0), some (.getfield 58, 3, 10, 27, 1101), none, none, some (.iload_n 1, 1, 0, 0, 0), some (.aload_n 0, 1, 0, 0, 0), some (.iconst 0, 1, 0, 0, 0), some (.bipush 9, 2, 0, 0, 0), none, some (.invokevirtual 263, 3, 157, 0, 1356)],
  [none, none, some (.iastore, 1, 0, 0, 0), some (.aload_n 0, 1, 0, 0, 0), some (.getfield 61, 3, 10, 28, 1102), none, none, some (.iload_n 1, 1, 0, 0, 0), some (.aload_n 0, 1, 0, 0, 0), some (.iconst 0, 1, 0, 0, 0), some (.iconst 3, 1, 0, 0, 0), some (.invokevirtual 263, 3, 157, 0, 1356), none, none, some (.iastore, 1, 0, 0, 0), some (.aload_n 0, 1, 0, 0, 0)],
  [some (.getfield 64, 3, 10, 29, 1103), none, none, some (.iload_n 1, 1, 0, 0, 0), some (.aload_n 0, 1, 0, 0, 0), some (.iconst 0, 1, 0, 0, 0), some (.sipush 999, 3, 0, 0, 0), none, none, some (.invokevirtual 263, 3, 157, 0, 1356), none, none, some (.iastore, 1, 0, 0, 0), some (.aload_n 0, 1, 0, 0, 0), some (.iload_n 2, 1, 0, 0, 0), some (.invokevirtual 293, 3, 156, 0, 1360)],
  [none, none, some (.aload_n 0, 1, 0, 0, 0), some (.getfield 209, 3, 10, 13, 1087), none, none, some (.ifCond .ne 16, 3, 0, 0, 0), none, none, some (.aload_n 0, 1, 0, 0, 0), some (.getfield 55, 3, 10, 26, 1100), none, none, some (.aload_n 0, 1, 0, 0, 0), some (.getfield 242, 3, 10, 19, 1093)],
  [none, some (.dup2, 1, 0, 0, 0), some (.iaload, 1, 0, 0, 0), some (.iconst 1, 1, 0, 0, 0), some (.iadd, 1, 0, 0, 0), some (.iastore, 1, 0, 0, 0), some (.return_, 1, 0, 0, 0)]], 2, 0, 1, 10)
def jm_M160_r0 : List (Option jm_I) := [some (.aload_n 0, 1, 0, 0, 0), some (.iconst 5, 1, 0, 0, 0), some (.invokevirtual 267, 3, 148, 0, 1348), none, none, some (.aload_n 0, 1, 0, 0, 0), some (.getfield 248, 3, 10, 35, 1109), none, none, some (.istore_n 2, 1, 0, 0, 0), some (.iconst 0, 1, 0, 0, 0), some (.istore_n 3, 1, 0, 0, 0), some (.aload_n 0, 1, 0, 0, 0), some (.getfield 209, 3, 10, 13, 1087)]
def jm_M160_r1 : List (Option jm_I) := [some (.ifCond .ne 113, 3, 0, 0, 0), none, none, some (.aload_n 0, 1, 0, 0, 0), some (.bipush 31, 2, 0, 0, 0), none, some (.invokevirtual 227, 3, 144, 0, 1320), none, none, some (.ifCond .eq 104, 3, 0, 0, 0), none, none, some (.iload_n 3, 1, 0, 0, 0), some (.iconst 4, 1, 0, 0, 0), some (.if_icmp .ne 8, 3, 0, 0, 0)]
def jm_M160_r2 : List (Option jm_I) := [none, some (.aload_n 0, 1, 0, 0, 0), some (.iconst 2, 1, 0, 0, 0), some (.invokevirtual 224, 3, 145, 0, 1332), none, none, some (.aload_n 0, 1, 0, 0, 0), some (.getfield 209, 3, 10, 13, 1087), none, none, some (.ifCond .le 4, 3, 0, 0, 0), none, none, some (.return_, 1, 0, 0, 0), some (.iinc 3 1, 3, 0, 0, 0)]
def jm_M160_r3 : List (Option jm_I) := [none, some (.aload_n 0, 1, 0, 0, 0), some (.invokevirtual 230, 3, 147, 0, 1336), none, none, some (.aload_n 0, 1, 0, 0, 0), some (.getfield 82, 3, 10, 36, 1110), none, none, some (.aload_n 0, 1, 0, 0, 0), some (.getfield 248, 3, 10, 35, 1109), none, none, some (.iconst 1, 1, 0, 0, 0), some (.bastore, 1, 0, 0, 0), some (.aload_n 0, 1, 0, 0, 0)]
def jm_M160_r4 : List (Option jm_I) := [some (.getfield 86, 3, 10, 37, 1111), none, none, some (.aload_n 0, 1, 0, 0, 0), some (.getfield 248, 3, 10, 35, 1109), none, none, some (.aload_n 0, 1, 0, 0, 0), some (.getfield 251, 3, 10, 41, 1115), none, none, some (.iastore, 1, 0, 0, 0), some (.aload_n 0, 1, 0, 0, 0), some (.invokevirtual 296, 3, 164, 0, 1376)]
def jm_M160_r5 : List (Option jm_I) := [some (.aload_n 0, 1, 0, 0, 0), some (.bipush 13, 2, 0, 0, 0), none, some (.invokevirtual 267, 3, 148, 0, 1348), none, none, some (.aload_n 0, 1, 0, 0, 0), some (.getfield 89, 3, 10, 38, 1112), none, none, some (.aload_n 0, 1, 0, 0, 0), some (.getfield 248, 3, 10, 35, 1109), none, none, some (.aload_n 0, 1, 0, 0, 0), some (.getfield 251, 3, 10, 41, 1115)]
def jm_M160_r6 : List (Option jm_I) := [none, none, some (.iastore, 1, 0, 0, 0), some (.aload_n 0, 1, 0, 0, 0), some (.getfield 209, 3, 10, 13, 1087), none, none, some (.ifCond .ne 7, 3, 0, 0, 0), none, none, some (.aload_n 0, 1, 0, 0, 0), some (.invokevirtual 296, 3, 164, 0, 1376), none, none, some (.aload_n 0, 1, 0, 0, 0), some (.bipush 32, 2, 0, 0, 0)]
def jm_M160_r7 : List (Option jm_I) := [none, some (.invokevirtual 267, 3, 148, 0, 1348), none, none, some (.aload_n 0, 1, 0, 0, 0), some (.invokevirtual 299, 3, 161, 0, 1392), none, none, some (.aload_n 0, 1, 0, 0, 0), some (.bipush 33, 2, 0, 0, 0), none, some (.invokevirtual 267, 3, 148, 0, 1348), none, none, some (.goto (-114), 3, 0, 0, 0)]
def jm_M160_r8 : List (Option jm_I) := [none, some (.aload_n 0, 1, 0, 0, 0), some (.getfield 82, 3, 10, 36, 1110), none, none, some (.aload_n 0, 1, 0, 0, 0), some (.getfield 248, 3, 10, 35, 1109), none, none, some (.iconst 0, 1, 0, 0, 0), some (.bastore, 1, 0, 0, 0), some (.aload_n 0, 1, 0, 0, 0), some (.invokevirtual 299, 3, 161, 0, 1392), none, none, some (.aload_n 0, 1, 0, 0, 0)]
def jm_M160_r9 : List (Option jm_I) := [some (.iconst 4, 1, 0, 0, 0), some (.invokevirtual 267, 3, 148, 0, 1348), none, none, some (.aload_n 0, 1, 0, 0, 0), some (.getfield 209, 3, 10, 13, 1087), none, none, some (.ifCond .le 4, 3, 0, 0, 0), none, none, some (.return_, 1, 0, 0, 0), some (.aload_n 0, 1, 0, 0, 0), some (.getfield 76, 3, 10, 33, 1107)]
def jm_M160_r10 : List (Option jm_I) := [some (.bipush 6, 2, 0, 0, 0), none, some (.aload_n 0, 1, 0, 0, 0), some (.getfield 242, 3, 10, 19, 1093), none, none, some (.imul, 1, 0, 0, 0), some (.iload_n 1, 1, 0, 0, 0), some (.iadd, 1, 0, 0, 0), some (.iload_n 2, 1, 0, 0, 0), some (.iastore, 1, 0, 0, 0), some (.aload_n 0, 1, 0, 0, 0), some (.getfield 79, 3, 10, 34, 1108), none, none, some (.bipush 6, 2, 0, 0, 0)]
def jm_M160_r11 : List (Option jm_I) := [none, some (.aload_n 0, 1, 0, 0, 0), some (.getfield 242, 3, 10, 19, 1093), none, none, some (.imul, 1, 0, 0, 0), some (.iload_n 1, 1, 0, 0, 0), some (.iadd, 1, 0, 0, 0), some (.aload_n 0, 1, 0, 0, 0), some (.getfield 248, 3, 10, 35, 1109), none, none, some (.iastore, 1, 0, 0, 0), some (.return_, 1, 0, 0, 0)]
/-- FallMarketModel.tellLaw(I)V -/
def jm_M160 : jm_M := (⟨"FallMarketModel", "tellLaw", "(I)V"⟩, prog_12_method_30_code, 4, none, [jm_M160_r0, jm_M160_r1, jm_M160_r2, jm_M160_r3, jm_M160_r4, jm_M160_r5, jm_M160_r6, jm_M160_r7, jm_M160_r8, jm_M160_r9, jm_M160_r10, jm_M160_r11], 2, 1, 1, 10)
/-- FallMarketModel.term()V -/
def jm_M161 : jm_M := (⟨"FallMarketModel", "term", "()V"⟩, prog_12_method_31_code, 1, none, [[some (.aload_n 0, 1, 0, 0, 0), some (.getfield 92, 3, 10, 39, 1113), none, none, some (.aload_n 0, 1, 0, 0, 0), some (.getfield 248, 3, 10, 35, 1109), none, none, some (.aload_n 0, 1, 0, 0, 0), some (.getfield 251, 3, 10, 41, 1115), none, none, some (.iastore, 1, 0, 0, 0), some (.aload_n 0, 1, 0, 0, 0), some (.getfield 209, 3, 10, 13, 1087)],
  [none, some (.ifCond .ne 7, 3, 0, 0, 0), none, none, some (.aload_n 0, 1, 0, 0, 0), some (.invokevirtual 296, 3, 164, 0, 1376), none, none, some (.aload_n 0, 1, 0, 0, 0), some (.getfield 95, 3, 10, 40, 1114), none, none, some (.aload_n 0, 1, 0, 0, 0), some (.getfield 248, 3, 10, 35, 1109)],
  [some (.aload_n 0, 1, 0, 0, 0), some (.getfield 251, 3, 10, 41, 1115), none, none, some (.iastore, 1, 0, 0, 0), some (.aload_n 0, 1, 0, 0, 0), some (.dup, 1, 0, 0, 0), some (.getfield 248, 3, 10, 35, 1109), none, none, some (.iconst 1, 1, 0, 0, 0), some (.iadd, 1, 0, 0, 0), some (.putfield 248, 3, 10, 35, 1109), none, none, some (.return_, 1, 0, 0, 0)]], 2, 0, 1, 10)
/-- FallMarketModel.emit(II)V -/
def jm_M162 : jm_M := (⟨"FallMarketModel", "emit", "(II)V"⟩, prog_12_method_32_code, 3, none, [[some (.aload_n 0, 1, 0, 0, 0), some (.getfield 98, 3, 10, 42, 1116), none, none, some (.aload_n 0, 1, 0, 0, 0), some (.getfield 251, 3, 10, 41, 1115), none, none, some (.iload_n 1, 1, 0, 0, 0), some (.iastore, 1, 0, 0, 0), some (.aload_n 0, 1, 0, 0, 0), some (.getfield 101, 3, 10, 43, 1117), none, none, some (.aload_n 0, 1, 0, 0, 0), some (.getfield 251, 3, 10, 41, 1115)],
  [none, none, some (.iload_n 2, 1, 0, 0, 0), some (.iastore, 1, 0, 0, 0), some (.aload_n 0, 1, 0, 0, 0), some (.dup, 1, 0, 0, 0), some (.getfield 251, 3, 10, 41, 1115), none, none, some (.iconst 1, 1, 0, 0, 0), some (.iadd, 1, 0, 0, 0), some (.putfield 251, 3, 10, 41, 1115), none, none, some (.return_, 1, 0, 0, 0)]], 2, 2, 1, 10)
/-- FallMarketModel.comesOut(Z)V -/
def jm_M163 : jm_M := (⟨"FallMarketModel", "comesOut", "(Z)V"⟩, prog_12_method_33_code, 3, none, [[some (.aload_n 0, 1, 0, 0, 0), some (.getfield 302, 3, 10, 45, 1119), none, none, some (.ifCond .le 87, 3, 0, 0, 0), none, none, some (.aload_n 0, 1, 0, 0, 0), some (.getfield 104, 3, 10, 44, 1118), none, none, some (.aload_n 0, 1, 0, 0, 0), some (.getfield 302, 3, 10, 45, 1119), none, none, some (.iconst 1, 1, 0, 0, 0)],
  [some (.isub, 1, 0, 0, 0), some (.iaload, 1, 0, 0, 0), some (.istore_n 2, 1, 0, 0, 0), some (.iload_n 2, 1, 0, 0, 0), some (.bipush 6, 2, 0, 0, 0), none, some (.if_icmp .eq 19, 3, 0, 0, 0), none, none, some (.iload_n 1, 1, 0, 0, 0), some (.ifCond .eq 16, 3, 0, 0, 0), none, none, some (.iload_n 2, 1, 0, 0, 0), some (.bipush 8, 2, 0, 0, 0)],
  [some (.if_icmp .eq 9, 3, 0, 0, 0), none, none, some (.iload_n 2, 1, 0, 0, 0), some (.bipush 9, 2, 0, 0, 0), none, some (.if_icmp .ne 4, 3, 0, 0, 0), none, none, some (.return_, 1, 0, 0, 0), some (.aload_n 0, 1, 0, 0, 0), some (.dup, 1, 0, 0, 0), some (.getfield 302, 3, 10, 45, 1119), none, none, some (.iconst 1, 1, 0, 0, 0)],
  [some (.isub, 1, 0, 0, 0), some (.putfield 302, 3, 10, 45, 1119), none, none, some (.aload_n 0, 1, 0, 0, 0), some (.iload_n 2, 1, 0, 0, 0), some (.bipush 8, 2, 0, 0, 0), none, some (.if_icmp .ne 7, 3, 0, 0, 0), none, none, some (.iconst 2, 1, 0, 0, 0), some (.goto 24, 3, 0, 0, 0), none, none, some (.iload_n 2, 1, 0, 0, 0)],
  [some (.bipush 9, 2, 0, 0, 0), none, some (.if_icmp .ne 7, 3, 0, 0, 0), none, none, some (.iconst 3, 1, 0, 0, 0), some (.goto 14, 3, 0, 0, 0), none, none, some (.iload_n 2, 1, 0, 0, 0), some (.bipush 10, 2, 0, 0, 0), none, some (.if_icmp .ne 7, 3, 0, 0, 0), none, none, some (.iconst 4, 1, 0, 0, 0)],
  [some (.goto 4, 3, 0, 0, 0), none, none, some (.iconst 5, 1, 0, 0, 0), some (.iconst 0, 1, 0, 0, 0), some (.invokevirtual 305, 3, 162, 0, 1384), none, none, some (.goto (-88), 3, 0, 0, 0), none, none, some (.return_, 1, 0, 0, 0)]], 2, 1, 1, 10)
def jm_M164_r0 : List (Option jm_I) := [some (.aload_n 0, 1, 0, 0, 0), some (.iconst 0, 1, 0, 0, 0), some (.putfield 302, 3, 10, 45, 1119), none, none, some (.aload_n 0, 1, 0, 0, 0), some (.getfield 236, 3, 10, 12, 1086), none, none, some (.istore_n 1, 1, 0, 0, 0), some (.iconst 1, 1, 0, 0, 0), some (.istore_n 2, 1, 0, 0, 0), some (.iload_n 2, 1, 0, 0, 0), some (.ifCond .eq 259, 3, 0, 0, 0)]
def jm_M164_r1 : List (Option jm_I) := [some (.aload_n 0, 1, 0, 0, 0), some (.getfield 209, 3, 10, 13, 1087), none, none, some (.ifCond .ne 252, 3, 0, 0, 0), none, none, some (.aload_n 0, 1, 0, 0, 0), some (.bipush 6, 2, 0, 0, 0), none, some (.invokevirtual 227, 3, 144, 0, 1320), none, none, some (.ifCond .eq 55, 3, 0, 0, 0)]
def jm_M164_r2 : List (Option jm_I) := [some (.aload_n 0, 1, 0, 0, 0), some (.getfield 236, 3, 10, 12, 1086), none, none, some (.bipush 6, 2, 0, 0, 0), none, some (.if_icmp .ne 8, 3, 0, 0, 0), none, none, some (.aload_n 0, 1, 0, 0, 0), some (.iconst 2, 1, 0, 0, 0), some (.invokevirtual 224, 3, 145, 0, 1332), none, none, some (.aload_n 0, 1, 0, 0, 0), some (.dup, 1, 0, 0, 0)]
def jm_M164_r3 : List (Option jm_I) := [some (.getfield 236, 3, 10, 12, 1086), none, none, some (.iconst 1, 1, 0, 0, 0), some (.iadd, 1, 0, 0, 0), some (.putfield 236, 3, 10, 12, 1086), none, none, some (.aload_n 0, 1, 0, 0, 0), some (.invokevirtual 230, 3, 147, 0, 1336), none, none, some (.aload_n 0, 1, 0, 0, 0), some (.getfield 104, 3, 10, 44, 1118)]
def jm_M164_r4 : List (Option jm_I) := [some (.aload_n 0, 1, 0, 0, 0), some (.getfield 302, 3, 10, 45, 1119), none, none, some (.bipush 6, 2, 0, 0, 0), none, some (.iastore, 1, 0, 0, 0), some (.aload_n 0, 1, 0, 0, 0), some (.dup, 1, 0, 0, 0), some (.getfield 302, 3, 10, 45, 1119), none, none, some (.iconst 1, 1, 0, 0, 0), some (.iadd, 1, 0, 0, 0), some (.putfield 302, 3, 10, 45, 1119)]
def jm_M164_r5 : List (Option jm_I) := [none, some (.goto (-58), 3, 0, 0, 0), none, none, some (.aload_n 0, 1, 0, 0, 0), some (.invokevirtual 308, 3, 165, 0, 1380), none, none, some (.aload_n 0, 1, 0, 0, 0), some (.getfield 209, 3, 10, 13, 1087), none, none, some (.ifCond .le 4, 3, 0, 0, 0), none, none, some (.return_, 1, 0, 0, 0)]
def jm_M164_r6 : List (Option jm_I) := [some (.aload_n 0, 1, 0, 0, 0), some (.bipush 7, 2, 0, 0, 0), none, some (.invokevirtual 227, 3, 144, 0, 1320), none, none, some (.ifCond .eq 43, 3, 0, 0, 0), none, none, some (.aload_n 0, 1, 0, 0, 0), some (.getfield 236, 3, 10, 12, 1086), none, none, some (.iload_n 1, 1, 0, 0, 0), some (.if_icmp .le 35, 3, 0, 0, 0)]
def jm_M164_r7 : List (Option jm_I) := [none, some (.aload_n 0, 1, 0, 0, 0), some (.iconst 0, 1, 0, 0, 0), some (.invokevirtual 311, 3, 163, 0, 1388), none, none, some (.aload_n 0, 1, 0, 0, 0), some (.dup, 1, 0, 0, 0), some (.getfield 302, 3, 10, 45, 1119), none, none, some (.iconst 1, 1, 0, 0, 0), some (.isub, 1, 0, 0, 0), some (.putfield 302, 3, 10, 45, 1119)]
def jm_M164_r8 : List (Option jm_I) := [some (.aload_n 0, 1, 0, 0, 0), some (.dup, 1, 0, 0, 0), some (.getfield 236, 3, 10, 12, 1086), none, none, some (.iconst 1, 1, 0, 0, 0), some (.isub, 1, 0, 0, 0), some (.putfield 236, 3, 10, 12, 1086), none, none, some (.aload_n 0, 1, 0, 0, 0), some (.invokevirtual 230, 3, 147, 0, 1336), none, none, some (.goto (-46), 3, 0, 0, 0)]
def jm_M164_r9 : List (Option jm_I) := [none, some (.aload_n 0, 1, 0, 0, 0), some (.bipush 8, 2, 0, 0, 0), none, some (.invokevirtual 227, 3, 144, 0, 1320), none, none, some (.ifCond .ne 30, 3, 0, 0, 0), none, none, some (.aload_n 0, 1, 0, 0, 0), some (.bipush 9, 2, 0, 0, 0), none, some (.invokevirtual 227, 3, 144, 0, 1320)]
def jm_M164_r10 : List (Option jm_I) := [some (.ifCond .ne 21, 3, 0, 0, 0), none, none, some (.aload_n 0, 1, 0, 0, 0), some (.bipush 10, 2, 0, 0, 0), none, some (.invokevirtual 227, 3, 144, 0, 1320), none, none, some (.ifCond .ne 12, 3, 0, 0, 0), none, none, some (.aload_n 0, 1, 0, 0, 0), some (.bipush 15, 2, 0, 0, 0), none, some (.invokevirtual 227, 3, 144, 0, 1320)]
def jm_M164_r11 : List (Option jm_I) := [none, none, some (.ifCond .eq 7, 3, 0, 0, 0), none, none, some (.iconst 1, 1, 0, 0, 0), some (.goto 4, 3, 0, 0, 0), none, none, some (.iconst 0, 1, 0, 0, 0), some (.istore_n 2, 1, 0, 0, 0), some (.iload_n 2, 1, 0, 0, 0), some (.ifCond .ne 22, 3, 0, 0, 0), none, none, some (.aload_n 0, 1, 0, 0, 0)]
def jm_M164_r12 : List (Option jm_I) := [some (.getfield 236, 3, 10, 12, 1086), none, none, some (.iload_n 1, 1, 0, 0, 0), some (.if_icmp .le 8, 3, 0, 0, 0), none, none, some (.aload_n 0, 1, 0, 0, 0), some (.iconst 1, 1, 0, 0, 0), some (.invokevirtual 224, 3, 145, 0, 1332), none, none, some (.aload_n 0, 1, 0, 0, 0), some (.iconst 0, 1, 0, 0, 0), some (.invokevirtual 311, 3, 163, 0, 1388)]
def jm_M164_r13 : List (Option jm_I) := [none, some (.return_, 1, 0, 0, 0), some (.aload_n 0, 1, 0, 0, 0), some (.aload_n 0, 1, 0, 0, 0), some (.bipush 10, 2, 0, 0, 0), none, some (.invokevirtual 227, 3, 144, 0, 1320), none, none, some (.ifCond .ne 12, 3, 0, 0, 0), none, none, some (.aload_n 0, 1, 0, 0, 0), some (.bipush 15, 2, 0, 0, 0), none, some (.invokevirtual 227, 3, 144, 0, 1320)]
def jm_M164_r14 : List (Option jm_I) := [none, none, some (.ifCond .eq 7, 3, 0, 0, 0), none, none, some (.iconst 1, 1, 0, 0, 0), some (.goto 4, 3, 0, 0, 0), none, none, some (.iconst 0, 1, 0, 0, 0), some (.invokevirtual 311, 3, 163, 0, 1388), none, none, some (.aload_n 0, 1, 0, 0, 0), some (.getfield 104, 3, 10, 44, 1118)]
def jm_M164_r15 : List (Option jm_I) := [none, some (.aload_n 0, 1, 0, 0, 0), some (.getfield 302, 3, 10, 45, 1119), none, none, some (.aload_n 0, 1, 0, 0, 0), some (.getfield 20, 3, 10, 5, 1079), none, none, some (.aload_n 0, 1, 0, 0, 0), some (.getfield 212, 3, 10, 11, 1085), none, none, some (.iaload, 1, 0, 0, 0), some (.iastore, 1, 0, 0, 0), some (.aload_n 0, 1, 0, 0, 0)]
def jm_M164_r16 : List (Option jm_I) := [some (.dup, 1, 0, 0, 0), some (.getfield 302, 3, 10, 45, 1119), none, none, some (.iconst 1, 1, 0, 0, 0), some (.iadd, 1, 0, 0, 0), some (.putfield 302, 3, 10, 45, 1119), none, none, some (.aload_n 0, 1, 0, 0, 0), some (.invokevirtual 230, 3, 147, 0, 1336), none, none, some (.goto (-257), 3, 0, 0, 0)]
def jm_M164_r17 : List (Option jm_I) := [some (.return_, 1, 0, 0, 0)]
/-- FallMarketModel.expression()V -/
def jm_M164 : jm_M := (⟨"FallMarketModel", "expression", "()V"⟩, prog_12_method_34_code, 3, none, [jm_M164_r0, jm_M164_r1, jm_M164_r2, jm_M164_r3, jm_M164_r4, jm_M164_r5, jm_M164_r6, jm_M164_r7, jm_M164_r8, jm_M164_r9, jm_M164_r10, jm_M164_r11, jm_M164_r12, jm_M164_r13, jm_M164_r14, jm_M164_r15, jm_M164_r16, jm_M164_r17], 2, 0, 1, 10)
/-- FallMarketModel.unit()V -/
def jm_M165 : jm_M := (⟨"FallMarketModel", "unit", "()V"⟩, prog_12_method_35_code, 1, none, [[some (.aload_n 0, 1, 0, 0, 0), some (.iconst 2, 1, 0, 0, 0), some (.invokevirtual 227, 3, 144, 0, 1320), none, none, some (.ifCond .eq 24, 3, 0, 0, 0), none, none, some (.aload_n 0, 1, 0, 0, 0), some (.iconst 0, 1, 0, 0, 0), some (.aload_n 0, 1, 0, 0, 0), some (.getfield 27, 3, 10, 7, 1081), none, none, some (.aload_n 0, 1, 0, 0, 0), some (.getfield 212, 3, 10, 11, 1085)],
  [none, none, some (.iaload, 1, 0, 0, 0), some (.invokevirtual 305, 3, 162, 0, 1384), none, none, some (.aload_n 0, 1, 0, 0, 0), some (.invokevirtual 230, 3, 147, 0, 1336), none, none, some (.goto 67, 3, 0, 0, 0), none, none, some (.aload_n 0, 1, 0, 0, 0), some (.getfield 209, 3, 10, 13, 1087)],
  [none, some (.ifCond .ne 55, 3, 0, 0, 0), none, none, some (.aload_n 0, 1, 0, 0, 0), some (.getfield 20, 3, 10, 5, 1079), none, none, some (.aload_n 0, 1, 0, 0, 0), some (.getfield 212, 3, 10, 11, 1085), none, none, some (.iaload, 1, 0, 0, 0), some (.bipush 34, 2, 0, 0, 0), none, some (.if_icmp .lt 41, 3, 0, 0, 0)],
  [none, none, some (.aload_n 0, 1, 0, 0, 0), some (.getfield 20, 3, 10, 5, 1079), none, none, some (.aload_n 0, 1, 0, 0, 0), some (.getfield 212, 3, 10, 11, 1085), none, none, some (.iaload, 1, 0, 0, 0), some (.bipush 42, 2, 0, 0, 0), none, some (.if_icmp .gt 27, 3, 0, 0, 0)],
  [some (.aload_n 0, 1, 0, 0, 0), some (.iconst 1, 1, 0, 0, 0), some (.aload_n 0, 1, 0, 0, 0), some (.getfield 20, 3, 10, 5, 1079), none, none, some (.aload_n 0, 1, 0, 0, 0), some (.getfield 212, 3, 10, 11, 1085), none, none, some (.iaload, 1, 0, 0, 0), some (.bipush 34, 2, 0, 0, 0), none, some (.isub, 1, 0, 0, 0), some (.invokevirtual 305, 3, 162, 0, 1384)],
  [none, some (.aload_n 0, 1, 0, 0, 0), some (.invokevirtual 230, 3, 147, 0, 1336), none, none, some (.goto 8, 3, 0, 0, 0), none, none, some (.aload_n 0, 1, 0, 0, 0), some (.iconst 1, 1, 0, 0, 0), some (.invokevirtual 224, 3, 145, 0, 1332), none, none, some (.return_, 1, 0, 0, 0)]], 2, 0, 1, 10)
def jm_M166_r0 : List (Option jm_I) := [some (.iconst 0, 1, 0, 0, 0), some (.istore_n 3, 1, 0, 0, 0), some (.iload_n 1, 1, 0, 0, 0), some (.istore 4, 2, 0, 0, 0), none, some (.iload 4, 2, 0, 0, 0), none, some (.iload_n 2, 1, 0, 0, 0), some (.if_icmp .ge 157, 3, 0, 0, 0), none, none, some (.aload_n 0, 1, 0, 0, 0), some (.getfield 98, 3, 10, 42, 1116), none, none, some (.iload 4, 2, 0, 0, 0)]
def jm_M166_r1 : List (Option jm_I) := [none, some (.iaload, 1, 0, 0, 0), some (.istore 5, 2, 0, 0, 0), none, some (.iload 5, 2, 0, 0, 0), none, some (.iconst 2, 1, 0, 0, 0), some (.if_icmp .ge 42, 3, 0, 0, 0), none, none, some (.aload_n 0, 1, 0, 0, 0), some (.getfield 110, 3, 10, 47, 1121), none, none, some (.iload_n 3, 1, 0, 0, 0), some (.iload 5, 2, 0, 0, 0)]
def jm_M166_r2 : List (Option jm_I) := [none, some (.ifCond .ne 13, 3, 0, 0, 0), none, none, some (.aload_n 0, 1, 0, 0, 0), some (.getfield 101, 3, 10, 43, 1117), none, none, some (.iload 4, 2, 0, 0, 0), none, some (.iaload, 1, 0, 0, 0), some (.goto 15, 3, 0, 0, 0), none, none, some (.aload_n 0, 1, 0, 0, 0), some (.getfield 107, 3, 10, 46, 1120)]
def jm_M166_r3 : List (Option jm_I) := [none, none, some (.aload_n 0, 1, 0, 0, 0), some (.getfield 101, 3, 10, 43, 1117), none, none, some (.iload 4, 2, 0, 0, 0), none, some (.iaload, 1, 0, 0, 0), some (.iaload, 1, 0, 0, 0), some (.iastore, 1, 0, 0, 0), some (.iinc 3 1, 3, 0, 0, 0), none, none, some (.goto 97, 3, 0, 0, 0)]
def jm_M166_r4 : List (Option jm_I) := [none, some (.iinc 3 (-1), 3, 0, 0, 0), none, none, some (.aload_n 0, 1, 0, 0, 0), some (.getfield 110, 3, 10, 47, 1121), none, none, some (.iload_n 3, 1, 0, 0, 0), some (.iconst 1, 1, 0, 0, 0), some (.isub, 1, 0, 0, 0), some (.iaload, 1, 0, 0, 0), some (.istore 6, 2, 0, 0, 0), none, some (.aload_n 0, 1, 0, 0, 0), some (.getfield 110, 3, 10, 47, 1121)]
def jm_M166_r5 : List (Option jm_I) := [none, none, some (.iload_n 3, 1, 0, 0, 0), some (.iaload, 1, 0, 0, 0), some (.istore 7, 2, 0, 0, 0), none, some (.iload 5, 2, 0, 0, 0), none, some (.iconst 5, 1, 0, 0, 0), some (.if_icmp .ne 15, 3, 0, 0, 0), none, none, some (.iload 7, 2, 0, 0, 0), none, some (.ifCond .ne 10, 3, 0, 0, 0)]
def jm_M166_r6 : List (Option jm_I) := [none, some (.aload_n 0, 1, 0, 0, 0), some (.iconst 1, 1, 0, 0, 0), some (.putfield 315, 3, 10, 1048, 1122), none, none, some (.iconst 0, 1, 0, 0, 0), some (.ireturn, 1, 0, 0, 0), some (.aload_n 0, 1, 0, 0, 0), some (.getfield 110, 3, 10, 47, 1121), none, none, some (.iload_n 3, 1, 0, 0, 0), some (.iconst 1, 1, 0, 0, 0), some (.isub, 1, 0, 0, 0), some (.iload 5, 2, 0, 0, 0)]
def jm_M166_r7 : List (Option jm_I) := [none, some (.iconst 2, 1, 0, 0, 0), some (.if_icmp .ne 11, 3, 0, 0, 0), none, none, some (.iload 6, 2, 0, 0, 0), none, some (.iload 7, 2, 0, 0, 0), none, some (.iadd, 1, 0, 0, 0), some (.goto 36, 3, 0, 0, 0), none, none, some (.iload 5, 2, 0, 0, 0), none, some (.iconst 3, 1, 0, 0, 0)]
def jm_M166_r8 : List (Option jm_I) := [some (.if_icmp .ne 11, 3, 0, 0, 0), none, none, some (.iload 6, 2, 0, 0, 0), none, some (.iload 7, 2, 0, 0, 0), none, some (.isub, 1, 0, 0, 0), some (.goto 22, 3, 0, 0, 0), none, none, some (.iload 5, 2, 0, 0, 0), none, some (.iconst 4, 1, 0, 0, 0), some (.if_icmp .ne 11, 3, 0, 0, 0)]
def jm_M166_r9 : List (Option jm_I) := [none, some (.iload 6, 2, 0, 0, 0), none, some (.iload 7, 2, 0, 0, 0), none, some (.imul, 1, 0, 0, 0), some (.goto 8, 3, 0, 0, 0), none, none, some (.iload 6, 2, 0, 0, 0), none, some (.iload 7, 2, 0, 0, 0), none, some (.idiv, 1, 0, 0, 0), some (.iastore, 1, 0, 0, 0), some (.iinc 4 1, 3, 0, 0, 0)]
def jm_M166_r10 : List (Option jm_I) := [none, none, some (.goto (-157), 3, 0, 0, 0), none, none, some (.aload_n 0, 1, 0, 0, 0), some (.getfield 110, 3, 10, 47, 1121), none, none, some (.iconst 0, 1, 0, 0, 0), some (.iaload, 1, 0, 0, 0), some (.ireturn, 1, 0, 0, 0)]
/-- FallMarketModel.termOf(II)I -/
def jm_M166 : jm_M := (⟨"FallMarketModel", "termOf", "(II)I"⟩, prog_12_method_36_code, 8, some .int, [jm_M166_r0, jm_M166_r1, jm_M166_r2, jm_M166_r3, jm_M166_r4, jm_M166_r5, jm_M166_r6, jm_M166_r7, jm_M166_r8, jm_M166_r9, jm_M166_r10], 2, 2, 1, 10)
/-- FallMarketModel.in(III)Z -/
def jm_M167 : jm_M := (⟨"FallMarketModel", "in", "(III)Z"⟩, prog_12_method_37_code, 3, some .boolean, [[some (.iload_n 0, 1, 0, 0, 0), some (.iload_n 1, 1, 0, 0, 0), some (.if_icmp .lt 12, 3, 0, 0, 0), none, none, some (.iload_n 0, 1, 0, 0, 0), some (.iload_n 2, 1, 0, 0, 0), some (.if_icmp .gt 7, 3, 0, 0, 0), none, none, some (.iconst 1, 1, 0, 0, 0), some (.goto 4, 3, 0, 0, 0), none, none, some (.iconst 0, 1, 0, 0, 0), some (.ireturn, 1, 0, 0, 0)]], 2, 3, 0, 10)
/-- FallMarketModel.held(III)I -/
def jm_M168 : jm_M := (⟨"FallMarketModel", "held", "(III)I"⟩, prog_12_method_38_code, 3, some .int, [[some (.iload_n 0, 1, 0, 0, 0), some (.iload_n 1, 1, 0, 0, 0), some (.if_icmp .ge 7, 3, 0, 0, 0), none, none, some (.iload_n 1, 1, 0, 0, 0), some (.goto 13, 3, 0, 0, 0), none, none, some (.iload_n 0, 1, 0, 0, 0), some (.iload_n 2, 1, 0, 0, 0), some (.if_icmp .le 7, 3, 0, 0, 0), none, none, some (.iload_n 2, 1, 0, 0, 0), some (.goto 4, 3, 0, 0, 0)],
  [none, none, some (.iload_n 0, 1, 0, 0, 0), some (.ireturn, 1, 0, 0, 0)]], 2, 3, 0, 10)
/-- FallMarketModel.isFruit(I)Z -/
def jm_M169 : jm_M := (⟨"FallMarketModel", "isFruit", "(I)Z"⟩, prog_12_method_39_code, 2, some .boolean, [[some (.iload_n 1, 1, 0, 0, 0), some (.iconst 0, 1, 0, 0, 0), some (.aload_n 0, 1, 0, 0, 0), some (.getfield 43, 3, 10, 22, 1096), none, none, some (.aload_n 0, 1, 0, 0, 0), some (.getfield 239, 3, 10, 18, 1092), none, none, some (.iaload, 1, 0, 0, 0), some (.iconst 1, 1, 0, 0, 0), some (.isub, 1, 0, 0, 0), some (.invokestatic 319, 3, 167, 0, 1408)],
  [some (.ireturn, 1, 0, 0, 0)]], 2, 1, 1, 10)
/-- FallMarketModel.isBuyer(I)Z -/
def jm_M170 : jm_M := (⟨"FallMarketModel", "isBuyer", "(I)Z"⟩, prog_12_method_40_code, 2, some .boolean, [[some (.iload_n 1, 1, 0, 0, 0), some (.iconst 0, 1, 0, 0, 0), some (.aload_n 0, 1, 0, 0, 0), some (.getfield 55, 3, 10, 26, 1100), none, none, some (.aload_n 0, 1, 0, 0, 0), some (.getfield 239, 3, 10, 18, 1092), none, none, some (.iaload, 1, 0, 0, 0), some (.iconst 1, 1, 0, 0, 0), some (.isub, 1, 0, 0, 0), some (.invokestatic 319, 3, 167, 0, 1408)],
  [some (.ireturn, 1, 0, 0, 0)]], 2, 1, 1, 10)
def jm_M171_r0 : List (Option jm_I) := [some (.iconst 0, 1, 0, 0, 0), some (.istore_n 1, 1, 0, 0, 0), some (.iload_n 1, 1, 0, 0, 0), some (.bipush 61, 2, 0, 0, 0), none, some (.if_icmp .ge 16, 3, 0, 0, 0), none, none, some (.aload_n 0, 1, 0, 0, 0), some (.getfield 116, 3, 10, 50, 1124), none, none, some (.iload_n 1, 1, 0, 0, 0), some (.iconst 0, 1, 0, 0, 0), some (.iastore, 1, 0, 0, 0), some (.iinc 1 1, 3, 0, 0, 0)]
def jm_M171_r1 : List (Option jm_I) := [none, none, some (.goto (-16), 3, 0, 0, 0), none, none, some (.iconst 0, 1, 0, 0, 0), some (.istore_n 1, 1, 0, 0, 0), some (.iload_n 1, 1, 0, 0, 0), some (.bipush 7, 2, 0, 0, 0), none, some (.if_icmp .ge 20, 3, 0, 0, 0), none, none, some (.aload_n 0, 1, 0, 0, 0), some (.getfield 116, 3, 10, 50, 1124)]
def jm_M171_r2 : List (Option jm_I) := [none, some (.bipush 21, 2, 0, 0, 0), none, some (.iload_n 1, 1, 0, 0, 0), some (.iadd, 1, 0, 0, 0), some (.bipush (-2), 2, 0, 0, 0), none, some (.iastore, 1, 0, 0, 0), some (.iinc 1 1, 3, 0, 0, 0), none, none, some (.goto (-20), 3, 0, 0, 0), none, none, some (.iconst 0, 1, 0, 0, 0), some (.istore_n 1, 1, 0, 0, 0)]
def jm_M171_r3 : List (Option jm_I) := [some (.iload_n 1, 1, 0, 0, 0), some (.aload_n 0, 1, 0, 0, 0), some (.getfield 43, 3, 10, 22, 1096), none, none, some (.aload_n 0, 1, 0, 0, 0), some (.getfield 239, 3, 10, 18, 1092), none, none, some (.iaload, 1, 0, 0, 0), some (.if_icmp .ge 52, 3, 0, 0, 0), none, none, some (.aload_n 0, 1, 0, 0, 0), some (.getfield 116, 3, 10, 50, 1124)]
def jm_M171_r4 : List (Option jm_I) := [none, some (.iload_n 1, 1, 0, 0, 0), some (.aload_n 0, 1, 0, 0, 0), some (.getfield 46, 3, 10, 23, 1097), none, none, some (.bipush 7, 2, 0, 0, 0), none, some (.aload_n 0, 1, 0, 0, 0), some (.getfield 239, 3, 10, 18, 1092), none, none, some (.imul, 1, 0, 0, 0), some (.iload_n 1, 1, 0, 0, 0), some (.iadd, 1, 0, 0, 0), some (.iaload, 1, 0, 0, 0)]
def jm_M171_r5 : List (Option jm_I) := [some (.iastore, 1, 0, 0, 0), some (.aload_n 0, 1, 0, 0, 0), some (.getfield 116, 3, 10, 50, 1124), none, none, some (.bipush 7, 2, 0, 0, 0), none, some (.iload_n 1, 1, 0, 0, 0), some (.iadd, 1, 0, 0, 0), some (.aload_n 0, 1, 0, 0, 0), some (.getfield 52, 3, 10, 25, 1099), none, none, some (.bipush 7, 2, 0, 0, 0), none, some (.aload_n 0, 1, 0, 0, 0)]
def jm_M171_r6 : List (Option jm_I) := [some (.getfield 239, 3, 10, 18, 1092), none, none, some (.imul, 1, 0, 0, 0), some (.iload_n 1, 1, 0, 0, 0), some (.iadd, 1, 0, 0, 0), some (.iaload, 1, 0, 0, 0), some (.iastore, 1, 0, 0, 0), some (.iinc 1 1, 3, 0, 0, 0), none, none, some (.goto (-59), 3, 0, 0, 0), none, none, some (.iconst 0, 1, 0, 0, 0), some (.istore_n 1, 1, 0, 0, 0)]
def jm_M171_r7 : List (Option jm_I) := [some (.iload_n 1, 1, 0, 0, 0), some (.aload_n 0, 1, 0, 0, 0), some (.getfield 55, 3, 10, 26, 1100), none, none, some (.aload_n 0, 1, 0, 0, 0), some (.getfield 239, 3, 10, 18, 1092), none, none, some (.iaload, 1, 0, 0, 0), some (.if_icmp .ge 53, 3, 0, 0, 0), none, none, some (.aload_n 0, 1, 0, 0, 0), some (.getfield 116, 3, 10, 50, 1124)]
def jm_M171_r8 : List (Option jm_I) := [none, some (.bipush 49, 2, 0, 0, 0), none, some (.iload_n 1, 1, 0, 0, 0), some (.iadd, 1, 0, 0, 0), some (.aload_n 0, 1, 0, 0, 0), some (.getfield 58, 3, 10, 27, 1101), none, none, some (.iconst 4, 1, 0, 0, 0), some (.aload_n 0, 1, 0, 0, 0), some (.getfield 239, 3, 10, 18, 1092), none, none, some (.imul, 1, 0, 0, 0), some (.iload_n 1, 1, 0, 0, 0)]
def jm_M171_r9 : List (Option jm_I) := [some (.iadd, 1, 0, 0, 0), some (.iaload, 1, 0, 0, 0), some (.iastore, 1, 0, 0, 0), some (.aload_n 0, 1, 0, 0, 0), some (.getfield 116, 3, 10, 50, 1124), none, none, some (.bipush 53, 2, 0, 0, 0), none, some (.iload_n 1, 1, 0, 0, 0), some (.iadd, 1, 0, 0, 0), some (.aload_n 0, 1, 0, 0, 0), some (.getfield 64, 3, 10, 29, 1103), none, none, some (.iconst 4, 1, 0, 0, 0)]
def jm_M171_r10 : List (Option jm_I) := [some (.aload_n 0, 1, 0, 0, 0), some (.getfield 239, 3, 10, 18, 1092), none, none, some (.imul, 1, 0, 0, 0), some (.iload_n 1, 1, 0, 0, 0), some (.iadd, 1, 0, 0, 0), some (.iaload, 1, 0, 0, 0), some (.iastore, 1, 0, 0, 0), some (.iinc 1 1, 3, 0, 0, 0), none, none, some (.goto (-60), 3, 0, 0, 0), none, none, some (.aload_n 0, 1, 0, 0, 0)]
def jm_M171_r11 : List (Option jm_I) := [some (.aload_n 0, 1, 0, 0, 0), some (.getfield 73, 3, 10, 32, 1106), none, none, some (.aload_n 0, 1, 0, 0, 0), some (.getfield 239, 3, 10, 18, 1092), none, none, some (.iaload, 1, 0, 0, 0), some (.putfield 323, 3, 10, 51, 1125), none, none, some (.return_, 1, 0, 0, 0)]
/-- FallMarketModel.begins()V -/
def jm_M171 : jm_M := (⟨"FallMarketModel", "begins", "()V"⟩, prog_12_method_41_code, 2, none, [jm_M171_r0, jm_M171_r1, jm_M171_r2, jm_M171_r3, jm_M171_r4, jm_M171_r5, jm_M171_r6, jm_M171_r7, jm_M171_r8, jm_M171_r9, jm_M171_r10, jm_M171_r11], 2, 0, 1, 10)
/-- FallMarketModel.keepsRow()V -/
def jm_M172 : jm_M := (⟨"FallMarketModel", "keepsRow", "()V"⟩, prog_12_method_42_code, 2, none, [[some (.iconst 0, 1, 0, 0, 0), some (.istore_n 1, 1, 0, 0, 0), some (.iload_n 1, 1, 0, 0, 0), some (.bipush 61, 2, 0, 0, 0), none, some (.if_icmp .ge 21, 3, 0, 0, 0), none, none, some (.aload_n 0, 1, 0, 0, 0), some (.getfield 113, 3, 10, 49, 1123), none, none, some (.iload_n 1, 1, 0, 0, 0), some (.aload_n 0, 1, 0, 0, 0), some (.getfield 116, 3, 10, 50, 1124)],
  [none, some (.iload_n 1, 1, 0, 0, 0), some (.iaload, 1, 0, 0, 0), some (.iastore, 1, 0, 0, 0), some (.iinc 1 1, 3, 0, 0, 0), none, none, some (.goto (-21), 3, 0, 0, 0), none, none, some (.return_, 1, 0, 0, 0)]], 2, 0, 1, 10)
/-- FallMarketModel.copies()V -/
def jm_M173 : jm_M := (⟨"FallMarketModel", "copies", "()V"⟩, prog_12_method_43_code, 2, none, [[some (.iconst 0, 1, 0, 0, 0), some (.istore_n 1, 1, 0, 0, 0), some (.iload_n 1, 1, 0, 0, 0), some (.bipush 61, 2, 0, 0, 0), none, some (.if_icmp .ge 21, 3, 0, 0, 0), none, none, some (.aload_n 0, 1, 0, 0, 0), some (.getfield 116, 3, 10, 50, 1124), none, none, some (.iload_n 1, 1, 0, 0, 0), some (.aload_n 0, 1, 0, 0, 0), some (.getfield 113, 3, 10, 49, 1123)],
  [none, some (.iload_n 1, 1, 0, 0, 0), some (.iaload, 1, 0, 0, 0), some (.iastore, 1, 0, 0, 0), some (.iinc 1 1, 3, 0, 0, 0), none, none, some (.goto (-21), 3, 0, 0, 0), none, none, some (.aload_n 0, 1, 0, 0, 0), some (.aload_n 0, 1, 0, 0, 0), some (.getfield 73, 3, 10, 32, 1106), none, none, some (.aload_n 0, 1, 0, 0, 0)],
  [some (.getfield 239, 3, 10, 18, 1092), none, none, some (.iaload, 1, 0, 0, 0), some (.putfield 323, 3, 10, 51, 1125), none, none, some (.return_, 1, 0, 0, 0)]], 2, 0, 1, 10)
/-- FallMarketModel.mixed(II)I -/
def jm_M174 : jm_M := (⟨"FallMarketModel", "mixed", "(II)I"⟩, prog_12_method_44_code, 3, some .int, [[some (.iload_n 0, 1, 0, 0, 0), some (.iload_n 1, 1, 0, 0, 0), some (.ixor, 1, 0, 0, 0), some (.ldc_w 326, 3, 1103515245, 0, 1509), none, none, some (.imul, 1, 0, 0, 0), some (.sipush 12345, 3, 0, 0, 0), none, none, some (.iadd, 1, 0, 0, 0), some (.istore_n 2, 1, 0, 0, 0), some (.iload_n 2, 1, 0, 0, 0), some (.iload_n 2, 1, 0, 0, 0), some (.bipush 15, 2, 0, 0, 0)],
  [some (.iushr, 1, 0, 0, 0), some (.ixor, 1, 0, 0, 0), some (.ireturn, 1, 0, 0, 0)]], 2, 2, 0, 10)
/-- FallMarketModel.lotOf(I)I -/
def jm_M175 : jm_M := (⟨"FallMarketModel", "lotOf", "(I)I"⟩, prog_12_method_45_code, 2, some .int, [[some (.aload_n 0, 1, 0, 0, 0), some (.getfield 323, 3, 10, 51, 1125), none, none, some (.bipush 101, 2, 0, 0, 0), none, some (.invokestatic 327, 3, 174, 0, 1506), none, none, some (.iload_n 1, 1, 0, 0, 0), some (.invokestatic 327, 3, 174, 0, 1506), none, none, some (.iconst 1, 1, 0, 0, 0), some (.iushr, 1, 0, 0, 0), some (.bipush 100, 2, 0, 0, 0)],
  [none, some (.irem, 1, 0, 0, 0), some (.ireturn, 1, 0, 0, 0)]], 2, 1, 1, 10)
/-- FallMarketModel.bitsOf(I)I -/
def jm_M176 : jm_M := (⟨"FallMarketModel", "bitsOf", "(I)I"⟩, prog_12_method_46_code, 4, some .int, [[some (.iconst 0, 1, 0, 0, 0), some (.istore_n 2, 1, 0, 0, 0), some (.iconst 0, 1, 0, 0, 0), some (.istore_n 3, 1, 0, 0, 0), some (.iload_n 3, 1, 0, 0, 0), some (.aload_n 0, 1, 0, 0, 0), some (.getfield 43, 3, 10, 22, 1096), none, none, some (.aload_n 0, 1, 0, 0, 0), some (.getfield 239, 3, 10, 18, 1092), none, none, some (.iaload, 1, 0, 0, 0), some (.if_icmp .ge 28, 3, 0, 0, 0)],
  [none, some (.aload_n 0, 1, 0, 0, 0), some (.getfield 116, 3, 10, 50, 1124), none, none, some (.bipush 14, 2, 0, 0, 0), none, some (.iload_n 3, 1, 0, 0, 0), some (.iadd, 1, 0, 0, 0), some (.iaload, 1, 0, 0, 0), some (.iload_n 1, 1, 0, 0, 0), some (.if_icmp .ne 9, 3, 0, 0, 0), none, none, some (.iload_n 2, 1, 0, 0, 0), some (.iconst 1, 1, 0, 0, 0)],
  [some (.iload_n 3, 1, 0, 0, 0), some (.ishl, 1, 0, 0, 0), some (.ior, 1, 0, 0, 0), some (.istore_n 2, 1, 0, 0, 0), some (.iinc 3 1, 3, 0, 0, 0), none, none, some (.goto (-35), 3, 0, 0, 0), none, none, some (.iload_n 2, 1, 0, 0, 0), some (.ireturn, 1, 0, 0, 0)]], 2, 1, 1, 10)
/-- FallMarketModel.bits(I)I -/
def jm_M177 : jm_M := (⟨"FallMarketModel", "bits", "(I)I"⟩, prog_12_method_47_code, 3, some .int, [[some (.iconst 0, 1, 0, 0, 0), some (.istore_n 1, 1, 0, 0, 0), some (.iconst 0, 1, 0, 0, 0), some (.istore_n 2, 1, 0, 0, 0), some (.iload_n 2, 1, 0, 0, 0), some (.bipush 7, 2, 0, 0, 0), none, some (.if_icmp .ge 17, 3, 0, 0, 0), none, none, some (.iload_n 1, 1, 0, 0, 0), some (.iload_n 0, 1, 0, 0, 0), some (.iload_n 2, 1, 0, 0, 0), some (.ishr, 1, 0, 0, 0), some (.iconst 1, 1, 0, 0, 0), some (.iand, 1, 0, 0, 0)],
  [some (.iadd, 1, 0, 0, 0), some (.istore_n 1, 1, 0, 0, 0), some (.iinc 2 1, 3, 0, 0, 0), none, none, some (.goto (-17), 3, 0, 0, 0), none, none, some (.iload_n 1, 1, 0, 0, 0), some (.ireturn, 1, 0, 0, 0)]], 2, 1, 0, 10)
/-- FallMarketModel.looks(II)V -/
def jm_M178 : jm_M := (⟨"FallMarketModel", "looks", "(II)V"⟩, prog_12_method_48_code, 4, none, [[some (.iconst 0, 1, 0, 0, 0), some (.istore_n 3, 1, 0, 0, 0), some (.iload_n 3, 1, 0, 0, 0), some (.bipush 9, 2, 0, 0, 0), none, some (.if_icmp .ge 16, 3, 0, 0, 0), none, none, some (.aload_n 0, 1, 0, 0, 0), some (.getfield 107, 3, 10, 46, 1120), none, none, some (.iload_n 3, 1, 0, 0, 0), some (.iconst 0, 1, 0, 0, 0), some (.iastore, 1, 0, 0, 0), some (.iinc 3 1, 3, 0, 0, 0)],
  [none, none, some (.goto (-16), 3, 0, 0, 0), none, none, some (.aload_n 0, 1, 0, 0, 0), some (.getfield 107, 3, 10, 46, 1120), none, none, some (.iconst 2, 1, 0, 0, 0), some (.iload_n 1, 1, 0, 0, 0), some (.iastore, 1, 0, 0, 0), some (.aload_n 0, 1, 0, 0, 0), some (.getfield 107, 3, 10, 46, 1120)],
  [some (.bipush 8, 2, 0, 0, 0), none, some (.iload_n 2, 1, 0, 0, 0), some (.iastore, 1, 0, 0, 0), some (.return_, 1, 0, 0, 0)]], 2, 2, 1, 10)
/-- FallMarketModel.asks(IIII)I -/
def jm_M179 : jm_M := (⟨"FallMarketModel", "asks", "(IIII)I"⟩, prog_12_method_49_code, 7, some .int, [[some (.bipush 6, 2, 0, 0, 0), none, some (.aload_n 0, 1, 0, 0, 0), some (.getfield 239, 3, 10, 18, 1092), none, none, some (.imul, 1, 0, 0, 0), some (.iload_n 1, 1, 0, 0, 0), some (.iadd, 1, 0, 0, 0), some (.istore 5, 2, 0, 0, 0), none, some (.iload_n 2, 1, 0, 0, 0), some (.istore 6, 2, 0, 0, 0), none, some (.aload_n 0, 1, 0, 0, 0), some (.getfield 76, 3, 10, 33, 1107)],
  [none, none, some (.iload 5, 2, 0, 0, 0), none, some (.iaload, 1, 0, 0, 0), some (.aload_n 0, 1, 0, 0, 0), some (.getfield 79, 3, 10, 34, 1108), none, none, some (.iload 5, 2, 0, 0, 0), none, some (.iaload, 1, 0, 0, 0), some (.if_icmp .ge 11, 3, 0, 0, 0), none, none, some (.aload_n 0, 1, 0, 0, 0)],
  [some (.iload 5, 2, 0, 0, 0), none, some (.invokevirtual 330, 3, 180, 0, 1454), none, none, some (.istore 6, 2, 0, 0, 0), none, some (.iload 6, 2, 0, 0, 0), none, some (.iload_n 3, 1, 0, 0, 0), some (.iload 4, 2, 0, 0, 0), none, some (.invokestatic 333, 3, 168, 0, 1462), none, none, some (.ireturn, 1, 0, 0, 0)]], 2, 4, 1, 10)
/-- FallMarketModel.lawTells(I)I -/
def jm_M180 : jm_M := (⟨"FallMarketModel", "lawTells", "(I)I"⟩, prog_12_method_50_code, 5, some .int, [[some (.aload_n 0, 1, 0, 0, 0), some (.iconst 0, 1, 0, 0, 0), some (.putfield 315, 3, 10, 1048, 1122), none, none, some (.aload_n 0, 1, 0, 0, 0), some (.getfield 76, 3, 10, 33, 1107), none, none, some (.iload_n 1, 1, 0, 0, 0), some (.iaload, 1, 0, 0, 0), some (.istore_n 2, 1, 0, 0, 0), some (.iload_n 2, 1, 0, 0, 0), some (.aload_n 0, 1, 0, 0, 0), some (.getfield 79, 3, 10, 34, 1108)],
  [none, some (.iload_n 1, 1, 0, 0, 0), some (.iaload, 1, 0, 0, 0), some (.if_icmp .ge 101, 3, 0, 0, 0), none, none, some (.aload_n 0, 1, 0, 0, 0), some (.getfield 82, 3, 10, 36, 1110), none, none, some (.iload_n 2, 1, 0, 0, 0), some (.baload, 1, 0, 0, 0), some (.ifCond .eq 56, 3, 0, 0, 0), none, none, some (.aload_n 0, 1, 0, 0, 0)],
  [some (.aload_n 0, 1, 0, 0, 0), some (.getfield 86, 3, 10, 37, 1111), none, none, some (.iload_n 2, 1, 0, 0, 0), some (.iaload, 1, 0, 0, 0), some (.aload_n 0, 1, 0, 0, 0), some (.getfield 89, 3, 10, 38, 1112), none, none, some (.iload_n 2, 1, 0, 0, 0), some (.iaload, 1, 0, 0, 0), some (.invokevirtual 336, 3, 166, 0, 1458), none, none, some (.istore_n 3, 1, 0, 0, 0)],
  [some (.aload_n 0, 1, 0, 0, 0), some (.aload_n 0, 1, 0, 0, 0), some (.getfield 89, 3, 10, 38, 1112), none, none, some (.iload_n 2, 1, 0, 0, 0), some (.iaload, 1, 0, 0, 0), some (.aload_n 0, 1, 0, 0, 0), some (.getfield 92, 3, 10, 39, 1113), none, none, some (.iload_n 2, 1, 0, 0, 0), some (.iaload, 1, 0, 0, 0), some (.invokevirtual 336, 3, 166, 0, 1458)],
  [some (.istore 4, 2, 0, 0, 0), none, some (.aload_n 0, 1, 0, 0, 0), some (.getfield 315, 3, 10, 48, 1122), none, none, some (.ifCond .eq 5, 3, 0, 0, 0), none, none, some (.iconst 0, 1, 0, 0, 0), some (.ireturn, 1, 0, 0, 0), some (.iload_n 3, 1, 0, 0, 0), some (.iload 4, 2, 0, 0, 0), none, some (.if_icmp .lt 6, 3, 0, 0, 0)],
  [none, some (.goto 33, 3, 0, 0, 0), none, none, some (.aload_n 0, 1, 0, 0, 0), some (.aload_n 0, 1, 0, 0, 0), some (.getfield 92, 3, 10, 39, 1113), none, none, some (.iload_n 2, 1, 0, 0, 0), some (.iaload, 1, 0, 0, 0), some (.aload_n 0, 1, 0, 0, 0), some (.getfield 95, 3, 10, 40, 1114), none, none, some (.iload_n 2, 1, 0, 0, 0)],
  [some (.iaload, 1, 0, 0, 0), some (.invokevirtual 336, 3, 166, 0, 1458), none, none, some (.istore_n 3, 1, 0, 0, 0), some (.aload_n 0, 1, 0, 0, 0), some (.getfield 315, 3, 10, 48, 1122), none, none, some (.ifCond .eq 7, 3, 0, 0, 0), none, none, some (.iconst 0, 1, 0, 0, 0), some (.goto 4, 3, 0, 0, 0)],
  [some (.iload_n 3, 1, 0, 0, 0), some (.ireturn, 1, 0, 0, 0), some (.iinc 2 1, 3, 0, 0, 0), none, none, some (.goto (-105), 3, 0, 0, 0), none, none, some (.iconst 0, 1, 0, 0, 0), some (.ireturn, 1, 0, 0, 0)]], 2, 1, 1, 10)
/-- FallMarketModel.windBy(II)I -/
def jm_M181 : jm_M := (⟨"FallMarketModel", "windBy", "(II)I"⟩, prog_12_method_51_code, 3, some .int, [[some (.aload_n 0, 1, 0, 0, 0), some (.iload_n 1, 1, 0, 0, 0), some (.iload_n 2, 1, 0, 0, 0), some (.invokevirtual 339, 3, 178, 0, 1446), none, none, some (.aload_n 0, 1, 0, 0, 0), some (.iconst 0, 1, 0, 0, 0), some (.iconst 0, 1, 0, 0, 0), some (.iconst 0, 1, 0, 0, 0), some (.bipush 9, 2, 0, 0, 0), none, some (.invokevirtual 342, 3, 179, 0, 1450), none, none, some (.ireturn, 1, 0, 0, 0)]], 2, 2, 1, 10)
/-- FallMarketModel.looksAt(IIII)V -/
def jm_M182 : jm_M := (⟨"FallMarketModel", "looksAt", "(IIII)V"⟩, prog_12_method_52_code, 5, none, [[some (.aload_n 0, 1, 0, 0, 0), some (.iload_n 3, 1, 0, 0, 0), some (.iload 4, 2, 0, 0, 0), none, some (.invokevirtual 339, 3, 178, 0, 1446), none, none, some (.aload_n 0, 1, 0, 0, 0), some (.getfield 107, 3, 10, 46, 1120), none, none, some (.iconst 0, 1, 0, 0, 0), some (.iload_n 2, 1, 0, 0, 0), some (.iastore, 1, 0, 0, 0), some (.aload_n 0, 1, 0, 0, 0), some (.getfield 107, 3, 10, 46, 1120)],
  [none, none, some (.iconst 1, 1, 0, 0, 0), some (.aload_n 0, 1, 0, 0, 0), some (.getfield 49, 3, 10, 24, 1098), none, none, some (.bipush 7, 2, 0, 0, 0), none, some (.aload_n 0, 1, 0, 0, 0), some (.getfield 239, 3, 10, 18, 1092), none, none, some (.imul, 1, 0, 0, 0), some (.iload_n 1, 1, 0, 0, 0), some (.iadd, 1, 0, 0, 0)],
  [some (.iaload, 1, 0, 0, 0), some (.iastore, 1, 0, 0, 0), some (.aload_n 0, 1, 0, 0, 0), some (.getfield 107, 3, 10, 46, 1120), none, none, some (.iconst 4, 1, 0, 0, 0), some (.aload_n 0, 1, 0, 0, 0), some (.getfield 46, 3, 10, 23, 1097), none, none, some (.bipush 7, 2, 0, 0, 0), none, some (.aload_n 0, 1, 0, 0, 0), some (.getfield 239, 3, 10, 18, 1092)],
  [none, some (.imul, 1, 0, 0, 0), some (.iload_n 1, 1, 0, 0, 0), some (.iadd, 1, 0, 0, 0), some (.iaload, 1, 0, 0, 0), some (.iastore, 1, 0, 0, 0), some (.return_, 1, 0, 0, 0)]], 2, 4, 1, 10)
/-- FallMarketModel.worthBy(IIIII)I -/
def jm_M183 : jm_M := (⟨"FallMarketModel", "worthBy", "(IIIII)I"⟩, prog_12_method_53_code, 6, some .int, [[some (.aload_n 0, 1, 0, 0, 0), some (.iload_n 1, 1, 0, 0, 0), some (.iload_n 2, 1, 0, 0, 0), some (.iload 4, 2, 0, 0, 0), none, some (.iload 5, 2, 0, 0, 0), none, some (.invokevirtual 346, 3, 182, 0, 1473), none, none, some (.aload_n 0, 1, 0, 0, 0), some (.getfield 107, 3, 10, 46, 1120), none, none, some (.bipush 7, 2, 0, 0, 0)],
  [some (.iload_n 3, 1, 0, 0, 0), some (.iastore, 1, 0, 0, 0), some (.aload_n 0, 1, 0, 0, 0), some (.iconst 3, 1, 0, 0, 0), some (.iload_n 2, 1, 0, 0, 0), some (.iconst 0, 1, 0, 0, 0), some (.bipush 99, 2, 0, 0, 0), none, some (.invokevirtual 342, 3, 179, 0, 1450), none, none, some (.ireturn, 1, 0, 0, 0)]], 2, 5, 1, 10)
/-- FallMarketModel.bouncesBy(IIII)I -/
def jm_M184 : jm_M := (⟨"FallMarketModel", "bouncesBy", "(IIII)I"⟩, prog_12_method_54_code, 5, some .int, [[some (.aload_n 0, 1, 0, 0, 0), some (.iload_n 1, 1, 0, 0, 0), some (.iload_n 2, 1, 0, 0, 0), some (.iload_n 3, 1, 0, 0, 0), some (.iload 4, 2, 0, 0, 0), none, some (.invokevirtual 346, 3, 182, 0, 1473), none, none, some (.aload_n 0, 1, 0, 0, 0), some (.iconst 4, 1, 0, 0, 0), some (.iconst 0, 1, 0, 0, 0), some (.bipush (-9), 2, 0, 0, 0), none, some (.bipush 9, 2, 0, 0, 0)],
  [some (.invokevirtual 342, 3, 179, 0, 1450), none, none, some (.ireturn, 1, 0, 0, 0)]], 2, 4, 1, 10)
/-- FallMarketModel.hangsBy(IIIIIIII)I -/
def jm_M185 : jm_M := (⟨"FallMarketModel", "hangsBy", "(IIIIIIII)I"⟩, prog_12_method_55_code, 9, some .int, [[some (.aload_n 0, 1, 0, 0, 0), some (.iload_n 2, 1, 0, 0, 0), some (.iload_n 3, 1, 0, 0, 0), some (.iload 7, 2, 0, 0, 0), none, some (.iload 8, 2, 0, 0, 0), none, some (.invokevirtual 346, 3, 182, 0, 1473), none, none, some (.aload_n 0, 1, 0, 0, 0), some (.getfield 107, 3, 10, 46, 1120), none, none, some (.iconst 3, 1, 0, 0, 0), some (.iload 6, 2, 0, 0, 0)],
  [none, some (.iastore, 1, 0, 0, 0), some (.aload_n 0, 1, 0, 0, 0), some (.getfield 107, 3, 10, 46, 1120), none, none, some (.iconst 5, 1, 0, 0, 0), some (.iload 4, 2, 0, 0, 0), none, some (.iastore, 1, 0, 0, 0), some (.aload_n 0, 1, 0, 0, 0), some (.getfield 107, 3, 10, 46, 1120), none, none, some (.bipush 6, 2, 0, 0, 0)],
  [some (.iload 5, 2, 0, 0, 0), none, some (.iastore, 1, 0, 0, 0), some (.iload_n 1, 1, 0, 0, 0), some (.iconst 2, 1, 0, 0, 0), some (.if_icmp .ne 15, 3, 0, 0, 0), none, none, some (.aload_n 0, 1, 0, 0, 0), some (.iconst 2, 1, 0, 0, 0), some (.iload_n 3, 1, 0, 0, 0), some (.iconst 0, 1, 0, 0, 0), some (.bipush 100, 2, 0, 0, 0), none, some (.invokevirtual 342, 3, 179, 0, 1450)],
  [none, some (.goto 13, 3, 0, 0, 0), none, none, some (.aload_n 0, 1, 0, 0, 0), some (.iconst 1, 1, 0, 0, 0), some (.iconst 1, 1, 0, 0, 0), some (.bipush (-9), 2, 0, 0, 0), none, some (.bipush 9, 2, 0, 0, 0), none, some (.invokevirtual 342, 3, 179, 0, 1450), none, none, some (.ireturn, 1, 0, 0, 0)]], 2, 8, 1, 10)
/-- FallMarketModel.off(II)I -/
def jm_M186 : jm_M := (⟨"FallMarketModel", "off", "(II)I"⟩, prog_12_method_56_code, 2, some .int, [[some (.iload_n 0, 1, 0, 0, 0), some (.iload_n 1, 1, 0, 0, 0), some (.if_icmp .ge 9, 3, 0, 0, 0), none, none, some (.iload_n 1, 1, 0, 0, 0), some (.iload_n 0, 1, 0, 0, 0), some (.isub, 1, 0, 0, 0), some (.goto 6, 3, 0, 0, 0), none, none, some (.iload_n 0, 1, 0, 0, 0), some (.iload_n 1, 1, 0, 0, 0), some (.isub, 1, 0, 0, 0), some (.ireturn, 1, 0, 0, 0)]], 2, 2, 0, 10)
/-- FallMarketModel.catcherOf(II)I -/
def jm_M187 : jm_M := (⟨"FallMarketModel", "catcherOf", "(II)I"⟩, prog_12_method_57_code, 7, some .int, [[some (.aload_n 0, 1, 0, 0, 0), some (.getfield 46, 3, 10, 23, 1097), none, none, some (.bipush 7, 2, 0, 0, 0), none, some (.aload_n 0, 1, 0, 0, 0), some (.getfield 239, 3, 10, 18, 1092), none, none, some (.imul, 1, 0, 0, 0), some (.iload_n 1, 1, 0, 0, 0), some (.iadd, 1, 0, 0, 0), some (.iaload, 1, 0, 0, 0), some (.istore_n 3, 1, 0, 0, 0), some (.bipush (-2), 2, 0, 0, 0)],
  [none, some (.istore 4, 2, 0, 0, 0), none, some (.iconst 0, 1, 0, 0, 0), some (.istore 5, 2, 0, 0, 0), none, some (.iload 5, 2, 0, 0, 0), none, some (.aload_n 0, 1, 0, 0, 0), some (.getfield 55, 3, 10, 26, 1100), none, none, some (.aload_n 0, 1, 0, 0, 0), some (.getfield 239, 3, 10, 18, 1092)],
  [some (.iaload, 1, 0, 0, 0), some (.if_icmp .ge 89, 3, 0, 0, 0), none, none, some (.aload_n 0, 1, 0, 0, 0), some (.getfield 116, 3, 10, 50, 1124), none, none, some (.bipush 49, 2, 0, 0, 0), none, some (.iload 5, 2, 0, 0, 0), none, some (.iadd, 1, 0, 0, 0), some (.iaload, 1, 0, 0, 0), some (.iload_n 3, 1, 0, 0, 0), some (.invokestatic 350, 3, 186, 0, 1542)],
  [none, none, some (.istore 6, 2, 0, 0, 0), none, some (.iload 6, 2, 0, 0, 0), none, some (.aload_n 0, 1, 0, 0, 0), some (.getfield 61, 3, 10, 28, 1102), none, none, some (.iconst 4, 1, 0, 0, 0), some (.aload_n 0, 1, 0, 0, 0), some (.getfield 239, 3, 10, 18, 1092), none, none, some (.imul, 1, 0, 0, 0)],
  [some (.iload 5, 2, 0, 0, 0), none, some (.iadd, 1, 0, 0, 0), some (.iaload, 1, 0, 0, 0), some (.if_icmp .gt 48, 3, 0, 0, 0), none, none, some (.aload_n 0, 1, 0, 0, 0), some (.getfield 116, 3, 10, 50, 1124), none, none, some (.bipush 53, 2, 0, 0, 0), none, some (.iload 5, 2, 0, 0, 0), none, some (.iadd, 1, 0, 0, 0)],
  [some (.iaload, 1, 0, 0, 0), some (.iload_n 2, 1, 0, 0, 0), some (.if_icmp .ge 6, 3, 0, 0, 0), none, none, some (.goto 31, 3, 0, 0, 0), none, none, some (.iload 4, 2, 0, 0, 0), none, some (.ifCond .lt 22, 3, 0, 0, 0), none, none, some (.iload 6, 2, 0, 0, 0), none, some (.aload_n 0, 1, 0, 0, 0)],
  [some (.getfield 116, 3, 10, 50, 1124), none, none, some (.bipush 49, 2, 0, 0, 0), none, some (.iload 4, 2, 0, 0, 0), none, some (.iadd, 1, 0, 0, 0), some (.iaload, 1, 0, 0, 0), some (.iload_n 3, 1, 0, 0, 0), some (.invokestatic 350, 3, 186, 0, 1542), none, none, some (.if_icmp .ge 7, 3, 0, 0, 0)],
  [some (.iload 5, 2, 0, 0, 0), none, some (.istore 4, 2, 0, 0, 0), none, some (.iinc 5 1, 3, 0, 0, 0), none, none, some (.goto (-97), 3, 0, 0, 0), none, none, some (.iload 4, 2, 0, 0, 0), none, some (.ireturn, 1, 0, 0, 0)]], 2, 2, 1, 10)
/-- FallMarketModel.sells(III)V -/
def jm_M188 : jm_M := (⟨"FallMarketModel", "sells", "(III)V"⟩, prog_12_method_58_code, 4, none, [[some (.aload_n 0, 1, 0, 0, 0), some (.getfield 116, 3, 10, 50, 1124), none, none, some (.bipush 14, 2, 0, 0, 0), none, some (.iload_n 1, 1, 0, 0, 0), some (.iadd, 1, 0, 0, 0), some (.iconst 2, 1, 0, 0, 0), some (.iastore, 1, 0, 0, 0), some (.aload_n 0, 1, 0, 0, 0), some (.getfield 116, 3, 10, 50, 1124), none, none, some (.bipush 21, 2, 0, 0, 0)],
  [some (.iload_n 1, 1, 0, 0, 0), some (.iadd, 1, 0, 0, 0), some (.iload_n 2, 1, 0, 0, 0), some (.iastore, 1, 0, 0, 0), some (.aload_n 0, 1, 0, 0, 0), some (.getfield 116, 3, 10, 50, 1124), none, none, some (.bipush 53, 2, 0, 0, 0), none, some (.iload_n 2, 1, 0, 0, 0), some (.iadd, 1, 0, 0, 0), some (.dup2, 1, 0, 0, 0), some (.iaload, 1, 0, 0, 0), some (.iload_n 3, 1, 0, 0, 0), some (.isub, 1, 0, 0, 0)],
  [some (.iastore, 1, 0, 0, 0), some (.return_, 1, 0, 0, 0)]], 2, 3, 1, 10)
def jm_M189_r0 : List (Option jm_I) := [some (.aload_n 0, 1, 0, 0, 0), some (.iconst 0, 1, 0, 0, 0), some (.invokevirtual 353, 3, 176, 0, 1435), none, none, some (.invokestatic 356, 3, 177, 0, 1439), none, none, some (.istore_n 1, 1, 0, 0, 0), some (.aload_n 0, 1, 0, 0, 0), some (.getfield 116, 3, 10, 50, 1124), none, none, some (.bipush 57, 2, 0, 0, 0), none, some (.iaload, 1, 0, 0, 0)]
def jm_M189_r1 : List (Option jm_I) := [some (.istore_n 2, 1, 0, 0, 0), some (.aload_n 0, 1, 0, 0, 0), some (.iload_n 2, 1, 0, 0, 0), some (.iload_n 1, 1, 0, 0, 0), some (.invokevirtual 359, 3, 181, 0, 1442), none, none, some (.istore_n 3, 1, 0, 0, 0), some (.iconst 0, 1, 0, 0, 0), some (.istore 4, 2, 0, 0, 0), none, some (.iload 4, 2, 0, 0, 0), none, some (.aload_n 0, 1, 0, 0, 0), some (.getfield 43, 3, 10, 22, 1096)]
def jm_M189_r2 : List (Option jm_I) := [none, some (.aload_n 0, 1, 0, 0, 0), some (.getfield 239, 3, 10, 18, 1092), none, none, some (.iaload, 1, 0, 0, 0), some (.if_icmp .ge 268, 3, 0, 0, 0), none, none, some (.aload_n 0, 1, 0, 0, 0), some (.getfield 119, 3, 10, 52, 1126), none, none, some (.iload 4, 2, 0, 0, 0), none, some (.iconst 0, 1, 0, 0, 0)]
def jm_M189_r3 : List (Option jm_I) := [some (.bastore, 1, 0, 0, 0), some (.aload_n 0, 1, 0, 0, 0), some (.getfield 122, 3, 10, 53, 1127), none, none, some (.iload 4, 2, 0, 0, 0), none, some (.aload_n 0, 1, 0, 0, 0), some (.getfield 116, 3, 10, 50, 1124), none, none, some (.bipush 7, 2, 0, 0, 0), none, some (.iload 4, 2, 0, 0, 0), none, some (.iadd, 1, 0, 0, 0)]
def jm_M189_r4 : List (Option jm_I) := [some (.iaload, 1, 0, 0, 0), some (.iastore, 1, 0, 0, 0), some (.aload_n 0, 1, 0, 0, 0), some (.getfield 116, 3, 10, 50, 1124), none, none, some (.bipush 14, 2, 0, 0, 0), none, some (.iload 4, 2, 0, 0, 0), none, some (.iadd, 1, 0, 0, 0), some (.iaload, 1, 0, 0, 0), some (.iconst 1, 1, 0, 0, 0), some (.if_icmp .le 6, 3, 0, 0, 0)]
def jm_M189_r5 : List (Option jm_I) := [some (.goto 220, 3, 0, 0, 0), none, none, some (.aload_n 0, 1, 0, 0, 0), some (.getfield 125, 3, 10, 54, 1128), none, none, some (.iload 4, 2, 0, 0, 0), none, some (.aload_n 0, 1, 0, 0, 0), some (.iload 4, 2, 0, 0, 0), none, some (.aload_n 0, 1, 0, 0, 0), some (.getfield 116, 3, 10, 50, 1124)]
def jm_M189_r6 : List (Option jm_I) := [some (.bipush 7, 2, 0, 0, 0), none, some (.iload 4, 2, 0, 0, 0), none, some (.iadd, 1, 0, 0, 0), some (.iaload, 1, 0, 0, 0), some (.aload_n 0, 1, 0, 0, 0), some (.getfield 116, 3, 10, 50, 1124), none, none, some (.bipush 28, 2, 0, 0, 0), none, some (.iload 4, 2, 0, 0, 0), none, some (.iadd, 1, 0, 0, 0), some (.iaload, 1, 0, 0, 0)]
def jm_M189_r7 : List (Option jm_I) := [some (.iload_n 2, 1, 0, 0, 0), some (.iload_n 1, 1, 0, 0, 0), some (.invokevirtual 362, 3, 183, 0, 1477), none, none, some (.iastore, 1, 0, 0, 0), some (.aload_n 0, 1, 0, 0, 0), some (.getfield 116, 3, 10, 50, 1124), none, none, some (.bipush 14, 2, 0, 0, 0), none, some (.iload 4, 2, 0, 0, 0), none, some (.iadd, 1, 0, 0, 0), some (.iaload, 1, 0, 0, 0)]
def jm_M189_r8 : List (Option jm_I) := [some (.iconst 1, 1, 0, 0, 0), some (.if_icmp .ne 6, 3, 0, 0, 0), none, none, some (.goto 168, 3, 0, 0, 0), none, none, some (.aload_n 0, 1, 0, 0, 0), some (.getfield 119, 3, 10, 52, 1126), none, none, some (.iload 4, 2, 0, 0, 0), none, some (.aload_n 0, 1, 0, 0, 0), some (.bipush 16, 2, 0, 0, 0)]
def jm_M189_r9 : List (Option jm_I) := [some (.iload_n 2, 1, 0, 0, 0), some (.imul, 1, 0, 0, 0), some (.iload 4, 2, 0, 0, 0), none, some (.iadd, 1, 0, 0, 0), some (.invokevirtual 366, 3, 175, 0, 1502), none, none, some (.aload_n 0, 1, 0, 0, 0), some (.iconst 2, 1, 0, 0, 0), some (.iload 4, 2, 0, 0, 0), none, some (.aload_n 0, 1, 0, 0, 0), some (.getfield 116, 3, 10, 50, 1124)]
def jm_M189_r10 : List (Option jm_I) := [some (.bipush 7, 2, 0, 0, 0), none, some (.iload 4, 2, 0, 0, 0), none, some (.iadd, 1, 0, 0, 0), some (.iaload, 1, 0, 0, 0), some (.aload_n 0, 1, 0, 0, 0), some (.getfield 116, 3, 10, 50, 1124), none, none, some (.bipush 42, 2, 0, 0, 0), none, some (.iload 4, 2, 0, 0, 0), none, some (.iadd, 1, 0, 0, 0), some (.iaload, 1, 0, 0, 0)]
def jm_M189_r11 : List (Option jm_I) := [some (.aload_n 0, 1, 0, 0, 0), some (.getfield 116, 3, 10, 50, 1124), none, none, some (.bipush 35, 2, 0, 0, 0), none, some (.iload 4, 2, 0, 0, 0), none, some (.iadd, 1, 0, 0, 0), some (.iaload, 1, 0, 0, 0), some (.iload_n 3, 1, 0, 0, 0), some (.iload_n 2, 1, 0, 0, 0), some (.iload_n 1, 1, 0, 0, 0), some (.invokevirtual 369, 3, 185, 0, 1469)]
def jm_M189_r12 : List (Option jm_I) := [some (.if_icmp .ge 7, 3, 0, 0, 0), none, none, some (.iconst 1, 1, 0, 0, 0), some (.goto 4, 3, 0, 0, 0), none, none, some (.iconst 0, 1, 0, 0, 0), some (.bastore, 1, 0, 0, 0), some (.aload_n 0, 1, 0, 0, 0), some (.getfield 128, 3, 10, 55, 1129), none, none, some (.iload 4, 2, 0, 0, 0), none, some (.aload_n 0, 1, 0, 0, 0)]
def jm_M189_r13 : List (Option jm_I) := [some (.iload 4, 2, 0, 0, 0), none, some (.aload_n 0, 1, 0, 0, 0), some (.getfield 116, 3, 10, 50, 1124), none, none, some (.bipush 7, 2, 0, 0, 0), none, some (.iload 4, 2, 0, 0, 0), none, some (.iadd, 1, 0, 0, 0), some (.iaload, 1, 0, 0, 0), some (.iload_n 2, 1, 0, 0, 0), some (.iload_n 1, 1, 0, 0, 0), some (.invokevirtual 373, 3, 184, 0, 1481)]
def jm_M189_r14 : List (Option jm_I) := [none, some (.iastore, 1, 0, 0, 0), some (.aload_n 0, 1, 0, 0, 0), some (.getfield 119, 3, 10, 52, 1126), none, none, some (.iload 4, 2, 0, 0, 0), none, some (.baload, 1, 0, 0, 0), some (.ifCond .ne 67, 3, 0, 0, 0), none, none, some (.aload_n 0, 1, 0, 0, 0), some (.getfield 122, 3, 10, 53, 1127)]
def jm_M189_r15 : List (Option jm_I) := [some (.iload 4, 2, 0, 0, 0), none, some (.aload_n 0, 1, 0, 0, 0), some (.getfield 116, 3, 10, 50, 1124), none, none, some (.bipush 7, 2, 0, 0, 0), none, some (.iload 4, 2, 0, 0, 0), none, some (.iadd, 1, 0, 0, 0), some (.iaload, 1, 0, 0, 0), some (.aload_n 0, 1, 0, 0, 0), some (.iconst 1, 1, 0, 0, 0), some (.iload 4, 2, 0, 0, 0)]
def jm_M189_r16 : List (Option jm_I) := [some (.aload_n 0, 1, 0, 0, 0), some (.getfield 116, 3, 10, 50, 1124), none, none, some (.bipush 7, 2, 0, 0, 0), none, some (.iload 4, 2, 0, 0, 0), none, some (.iadd, 1, 0, 0, 0), some (.iaload, 1, 0, 0, 0), some (.aload_n 0, 1, 0, 0, 0), some (.getfield 116, 3, 10, 50, 1124), none, none, some (.bipush 42, 2, 0, 0, 0)]
def jm_M189_r17 : List (Option jm_I) := [some (.iload 4, 2, 0, 0, 0), none, some (.iadd, 1, 0, 0, 0), some (.iaload, 1, 0, 0, 0), some (.aload_n 0, 1, 0, 0, 0), some (.getfield 116, 3, 10, 50, 1124), none, none, some (.bipush 35, 2, 0, 0, 0), none, some (.iload 4, 2, 0, 0, 0), none, some (.iadd, 1, 0, 0, 0), some (.iaload, 1, 0, 0, 0), some (.iload_n 3, 1, 0, 0, 0), some (.iload_n 2, 1, 0, 0, 0)]
def jm_M189_r18 : List (Option jm_I) := [some (.iload_n 1, 1, 0, 0, 0), some (.invokevirtual 369, 3, 185, 0, 1469), none, none, some (.iadd, 1, 0, 0, 0), some (.iconst 0, 1, 0, 0, 0), some (.bipush 99, 2, 0, 0, 0), none, some (.invokestatic 333, 3, 168, 0, 1462), none, none, some (.iastore, 1, 0, 0, 0), some (.iinc 4 1, 3, 0, 0, 0), none, none, some (.goto (-276), 3, 0, 0, 0)]
def jm_M189_r19 : List (Option jm_I) := [none, none, some (.return_, 1, 0, 0, 0)]
/-- FallMarketModel.looksOn()V -/
def jm_M189 : jm_M := (⟨"FallMarketModel", "looksOn", "()V"⟩, prog_12_method_59_code, 5, none, [jm_M189_r0, jm_M189_r1, jm_M189_r2, jm_M189_r3, jm_M189_r4, jm_M189_r5, jm_M189_r6, jm_M189_r7, jm_M189_r8, jm_M189_r9, jm_M189_r10, jm_M189_r11, jm_M189_r12, jm_M189_r13, jm_M189_r14, jm_M189_r15, jm_M189_r16, jm_M189_r17, jm_M189_r18, jm_M189_r19], 2, 0, 1, 10)
/-- FallMarketModel.lies(I)V -/
def jm_M190 : jm_M := (⟨"FallMarketModel", "lies", "(I)V"⟩, prog_12_method_60_code, 3, none, [[some (.iconst 0, 1, 0, 0, 0), some (.istore_n 2, 1, 0, 0, 0), some (.iload_n 2, 1, 0, 0, 0), some (.aload_n 0, 1, 0, 0, 0), some (.getfield 55, 3, 10, 26, 1100), none, none, some (.aload_n 0, 1, 0, 0, 0), some (.getfield 239, 3, 10, 18, 1092), none, none, some (.iaload, 1, 0, 0, 0), some (.if_icmp .ge 66, 3, 0, 0, 0), none, none, some (.aload_n 0, 1, 0, 0, 0)],
  [some (.getfield 116, 3, 10, 50, 1124), none, none, some (.bipush 49, 2, 0, 0, 0), none, some (.iload_n 2, 1, 0, 0, 0), some (.iadd, 1, 0, 0, 0), some (.iaload, 1, 0, 0, 0), some (.aload_n 0, 1, 0, 0, 0), some (.getfield 116, 3, 10, 50, 1124), none, none, some (.iload_n 1, 1, 0, 0, 0), some (.iaload, 1, 0, 0, 0), some (.if_icmp .ne 42, 3, 0, 0, 0)],
  [none, some (.aload_n 0, 1, 0, 0, 0), some (.getfield 116, 3, 10, 50, 1124), none, none, some (.bipush 53, 2, 0, 0, 0), none, some (.iload_n 2, 1, 0, 0, 0), some (.iadd, 1, 0, 0, 0), some (.iaload, 1, 0, 0, 0), some (.aload_n 0, 1, 0, 0, 0), some (.getfield 125, 3, 10, 54, 1128), none, none, some (.iload_n 1, 1, 0, 0, 0), some (.iaload, 1, 0, 0, 0)],
  [some (.if_icmp .ge 6, 3, 0, 0, 0), none, none, some (.goto 21, 3, 0, 0, 0), none, none, some (.aload_n 0, 1, 0, 0, 0), some (.iload_n 1, 1, 0, 0, 0), some (.iload_n 2, 1, 0, 0, 0), some (.aload_n 0, 1, 0, 0, 0), some (.getfield 125, 3, 10, 54, 1128), none, none, some (.iload_n 1, 1, 0, 0, 0), some (.iaload, 1, 0, 0, 0), some (.invokevirtual 376, 3, 188, 0, 1530)],
  [none, none, some (.aload_n 0, 1, 0, 0, 0), some (.iconst 1, 1, 0, 0, 0), some (.putfield 380, 3, 10, 1056, 1130), none, none, some (.return_, 1, 0, 0, 0), some (.iinc 2 1, 3, 0, 0, 0), none, none, some (.goto (-73), 3, 0, 0, 0), none, none, some (.aload_n 0, 1, 0, 0, 0), some (.getfield 116, 3, 10, 50, 1124)],
  [none, none, some (.bipush 28, 2, 0, 0, 0), none, some (.iload_n 1, 1, 0, 0, 0), some (.iadd, 1, 0, 0, 0), some (.dup2, 1, 0, 0, 0), some (.iaload, 1, 0, 0, 0), some (.iconst 1, 1, 0, 0, 0), some (.iadd, 1, 0, 0, 0), some (.iastore, 1, 0, 0, 0), some (.aload_n 0, 1, 0, 0, 0), some (.getfield 116, 3, 10, 50, 1124), none, none, some (.bipush 28, 2, 0, 0, 0)],
  [none, some (.iload_n 1, 1, 0, 0, 0), some (.iadd, 1, 0, 0, 0), some (.iaload, 1, 0, 0, 0), some (.aload_n 0, 1, 0, 0, 0), some (.getfield 70, 3, 10, 31, 1105), none, none, some (.aload_n 0, 1, 0, 0, 0), some (.getfield 239, 3, 10, 18, 1092), none, none, some (.iaload, 1, 0, 0, 0), some (.if_icmp .le 13, 3, 0, 0, 0)],
  [some (.aload_n 0, 1, 0, 0, 0), some (.getfield 116, 3, 10, 50, 1124), none, none, some (.bipush 14, 2, 0, 0, 0), none, some (.iload_n 1, 1, 0, 0, 0), some (.iadd, 1, 0, 0, 0), some (.iconst 3, 1, 0, 0, 0), some (.iastore, 1, 0, 0, 0), some (.return_, 1, 0, 0, 0)]], 2, 1, 1, 10)
/-- FallMarketModel.falls(I)V -/
def jm_M191 : jm_M := (⟨"FallMarketModel", "falls", "(I)V"⟩, prog_12_method_61_code, 3, none, [[some (.aload_n 0, 1, 0, 0, 0), some (.iload_n 1, 1, 0, 0, 0), some (.aload_n 0, 1, 0, 0, 0), some (.getfield 125, 3, 10, 54, 1128), none, none, some (.iload_n 1, 1, 0, 0, 0), some (.iaload, 1, 0, 0, 0), some (.invokevirtual 383, 3, 187, 0, 1538), none, none, some (.istore_n 2, 1, 0, 0, 0), some (.iload_n 2, 1, 0, 0, 0), some (.ifCond .lt 21, 3, 0, 0, 0)],
  [some (.aload_n 0, 1, 0, 0, 0), some (.iload_n 1, 1, 0, 0, 0), some (.iload_n 2, 1, 0, 0, 0), some (.aload_n 0, 1, 0, 0, 0), some (.getfield 125, 3, 10, 54, 1128), none, none, some (.iload_n 1, 1, 0, 0, 0), some (.iaload, 1, 0, 0, 0), some (.invokevirtual 376, 3, 188, 0, 1530), none, none, some (.aload_n 0, 1, 0, 0, 0), some (.iconst 1, 1, 0, 0, 0), some (.putfield 380, 3, 10, 1056, 1130)],
  [none, some (.return_, 1, 0, 0, 0), some (.aload_n 0, 1, 0, 0, 0), some (.getfield 116, 3, 10, 50, 1124), none, none, some (.bipush 14, 2, 0, 0, 0), none, some (.iload_n 1, 1, 0, 0, 0), some (.iadd, 1, 0, 0, 0), some (.iconst 1, 1, 0, 0, 0), some (.iastore, 1, 0, 0, 0), some (.aload_n 0, 1, 0, 0, 0), some (.getfield 116, 3, 10, 50, 1124)],
  [some (.iload_n 1, 1, 0, 0, 0), some (.aload_n 0, 1, 0, 0, 0), some (.getfield 116, 3, 10, 50, 1124), none, none, some (.iload_n 1, 1, 0, 0, 0), some (.iaload, 1, 0, 0, 0), some (.aload_n 0, 1, 0, 0, 0), some (.getfield 128, 3, 10, 55, 1129), none, none, some (.iload_n 1, 1, 0, 0, 0), some (.iaload, 1, 0, 0, 0), some (.iadd, 1, 0, 0, 0), some (.iconst 0, 1, 0, 0, 0), some (.bipush 9, 2, 0, 0, 0)],
  [none, some (.invokestatic 333, 3, 168, 0, 1462), none, none, some (.iastore, 1, 0, 0, 0), some (.return_, 1, 0, 0, 0)]], 2, 1, 1, 10)
/-- FallMarketModel.hourGoes()V -/
def jm_M192 : jm_M := (⟨"FallMarketModel", "hourGoes", "()V"⟩, prog_12_method_62_code, 2, none, [[some (.aload_n 0, 1, 0, 0, 0), some (.invokevirtual 386, 3, 189, 0, 1522), none, none, some (.aload_n 0, 1, 0, 0, 0), some (.iconst 0, 1, 0, 0, 0), some (.putfield 380, 3, 10, 1056, 1130), none, none, some (.iconst 0, 1, 0, 0, 0), some (.istore_n 1, 1, 0, 0, 0), some (.iload_n 1, 1, 0, 0, 0), some (.aload_n 0, 1, 0, 0, 0), some (.getfield 43, 3, 10, 22, 1096)],
  [some (.aload_n 0, 1, 0, 0, 0), some (.getfield 239, 3, 10, 18, 1092), none, none, some (.iaload, 1, 0, 0, 0), some (.if_icmp .ge 27, 3, 0, 0, 0), none, none, some (.aload_n 0, 1, 0, 0, 0), some (.getfield 116, 3, 10, 50, 1124), none, none, some (.bipush 14, 2, 0, 0, 0), none, some (.iload_n 1, 1, 0, 0, 0), some (.iadd, 1, 0, 0, 0)],
  [some (.iaload, 1, 0, 0, 0), some (.iconst 1, 1, 0, 0, 0), some (.if_icmp .ne 8, 3, 0, 0, 0), none, none, some (.aload_n 0, 1, 0, 0, 0), some (.iload_n 1, 1, 0, 0, 0), some (.invokevirtual 389, 3, 190, 0, 1526), none, none, some (.iinc 1 1, 3, 0, 0, 0), none, none, some (.goto (-34), 3, 0, 0, 0)],
  [some (.iconst 0, 1, 0, 0, 0), some (.istore_n 1, 1, 0, 0, 0), some (.iload_n 1, 1, 0, 0, 0), some (.aload_n 0, 1, 0, 0, 0), some (.getfield 43, 3, 10, 22, 1096), none, none, some (.aload_n 0, 1, 0, 0, 0), some (.getfield 239, 3, 10, 18, 1092), none, none, some (.iaload, 1, 0, 0, 0), some (.if_icmp .ge 48, 3, 0, 0, 0), none, none, some (.aload_n 0, 1, 0, 0, 0)],
  [some (.getfield 119, 3, 10, 52, 1126), none, none, some (.iload_n 1, 1, 0, 0, 0), some (.baload, 1, 0, 0, 0), some (.ifCond .eq 8, 3, 0, 0, 0), none, none, some (.aload_n 0, 1, 0, 0, 0), some (.iload_n 1, 1, 0, 0, 0), some (.invokevirtual 392, 3, 191, 0, 1534), none, none, some (.aload_n 0, 1, 0, 0, 0), some (.getfield 116, 3, 10, 50, 1124)],
  [none, some (.bipush 7, 2, 0, 0, 0), none, some (.iload_n 1, 1, 0, 0, 0), some (.iadd, 1, 0, 0, 0), some (.aload_n 0, 1, 0, 0, 0), some (.getfield 122, 3, 10, 53, 1127), none, none, some (.iload_n 1, 1, 0, 0, 0), some (.iaload, 1, 0, 0, 0), some (.iastore, 1, 0, 0, 0), some (.aload_n 0, 1, 0, 0, 0), some (.getfield 116, 3, 10, 50, 1124)],
  [some (.bipush 42, 2, 0, 0, 0), none, some (.iload_n 1, 1, 0, 0, 0), some (.iadd, 1, 0, 0, 0), some (.iconst 0, 1, 0, 0, 0), some (.iastore, 1, 0, 0, 0), some (.iinc 1 1, 3, 0, 0, 0), none, none, some (.goto (-55), 3, 0, 0, 0), none, none, some (.aload_n 0, 1, 0, 0, 0), some (.getfield 116, 3, 10, 50, 1124)],
  [some (.bipush 57, 2, 0, 0, 0), none, some (.dup2, 1, 0, 0, 0), some (.iaload, 1, 0, 0, 0), some (.iconst 1, 1, 0, 0, 0), some (.iadd, 1, 0, 0, 0), some (.iastore, 1, 0, 0, 0), some (.return_, 1, 0, 0, 0)]], 2, 0, 1, 10)
/-- FallMarketModel.goes(I)V -/
def jm_M193 : jm_M := (⟨"FallMarketModel", "goes", "(I)V"⟩, prog_12_method_63_code, 3, none, [[some (.iconst 0, 1, 0, 0, 0), some (.istore_n 2, 1, 0, 0, 0), some (.iload_n 2, 1, 0, 0, 0), some (.iload_n 1, 1, 0, 0, 0), some (.if_icmp .ge 13, 3, 0, 0, 0), none, none, some (.aload_n 0, 1, 0, 0, 0), some (.invokevirtual 395, 3, 192, 0, 1518), none, none, some (.iinc 2 1, 3, 0, 0, 0), none, none, some (.goto (-12), 3, 0, 0, 0)],
  [none, some (.return_, 1, 0, 0, 0)]], 2, 1, 1, 10)
/-- FallMarketModel.fruit(II)I -/
def jm_M194 : jm_M := (⟨"FallMarketModel", "fruit", "(II)I"⟩, prog_12_method_64_code, 3, some .int, [[some (.aload_n 0, 1, 0, 0, 0), some (.iload_n 1, 1, 0, 0, 0), some (.invokevirtual 398, 3, 169, 0, 1404), none, none, some (.ifCond .ne 5, 3, 0, 0, 0), none, none, some (.iconst (-1), 1, 0, 0, 0), some (.ireturn, 1, 0, 0, 0), some (.iload_n 2, 1, 0, 0, 0), some (.tableswitch 91 0 7 #[45, 52, 67, 77, 77, 77, 77, 77], 45, 0, 0, 0)],
  [],
  [],
  [none, none, none, none, none, none, none, none, some (.aload_n 0, 1, 0, 0, 0), some (.getfield 113, 3, 10, 49, 1123), none, none, some (.iload_n 1, 1, 0, 0, 0), some (.iaload, 1, 0, 0, 0), some (.ireturn, 1, 0, 0, 0), some (.aload_n 0, 1, 0, 0, 0)],
  [some (.getfield 49, 3, 10, 24, 1098), none, none, some (.bipush 7, 2, 0, 0, 0), none, some (.aload_n 0, 1, 0, 0, 0), some (.getfield 239, 3, 10, 18, 1092), none, none, some (.imul, 1, 0, 0, 0), some (.iload_n 1, 1, 0, 0, 0), some (.iadd, 1, 0, 0, 0), some (.iaload, 1, 0, 0, 0), some (.ireturn, 1, 0, 0, 0), some (.aload_n 0, 1, 0, 0, 0), some (.getfield 113, 3, 10, 49, 1123)],
  [none, none, some (.bipush 7, 2, 0, 0, 0), none, some (.iload_n 1, 1, 0, 0, 0), some (.iadd, 1, 0, 0, 0), some (.iaload, 1, 0, 0, 0), some (.ireturn, 1, 0, 0, 0), some (.aload_n 0, 1, 0, 0, 0), some (.getfield 113, 3, 10, 49, 1123), none, none, some (.bipush 7, 2, 0, 0, 0), none, some (.iload_n 2, 1, 0, 0, 0), some (.iconst 1, 1, 0, 0, 0)],
  [some (.isub, 1, 0, 0, 0), some (.imul, 1, 0, 0, 0), some (.iload_n 1, 1, 0, 0, 0), some (.iadd, 1, 0, 0, 0), some (.iaload, 1, 0, 0, 0), some (.ireturn, 1, 0, 0, 0), some (.iconst (-1), 1, 0, 0, 0), some (.ireturn, 1, 0, 0, 0)]], 2, 2, 1, 10)
/-- FallMarketModel.buyer(II)I -/
def jm_M195 : jm_M := (⟨"FallMarketModel", "buyer", "(II)I"⟩, prog_12_method_65_code, 5, some .int, [[some (.aload_n 0, 1, 0, 0, 0), some (.iload_n 1, 1, 0, 0, 0), some (.invokevirtual 401, 3, 170, 0, 1415), none, none, some (.ifCond .ne 5, 3, 0, 0, 0), none, none, some (.iconst (-1), 1, 0, 0, 0), some (.ireturn, 1, 0, 0, 0), some (.iload_n 2, 1, 0, 0, 0), some (.tableswitch 111 0 3 #[29, 39, 53, 63], 29, 0, 0, 0)],
  [],
  [none, none, none, none, none, none, none, none, some (.aload_n 0, 1, 0, 0, 0), some (.getfield 113, 3, 10, 49, 1123), none, none, some (.bipush 49, 2, 0, 0, 0), none, some (.iload_n 1, 1, 0, 0, 0), some (.iadd, 1, 0, 0, 0)],
  [some (.iaload, 1, 0, 0, 0), some (.ireturn, 1, 0, 0, 0), some (.aload_n 0, 1, 0, 0, 0), some (.getfield 61, 3, 10, 28, 1102), none, none, some (.iconst 4, 1, 0, 0, 0), some (.aload_n 0, 1, 0, 0, 0), some (.getfield 239, 3, 10, 18, 1092), none, none, some (.imul, 1, 0, 0, 0), some (.iload_n 1, 1, 0, 0, 0), some (.iadd, 1, 0, 0, 0), some (.iaload, 1, 0, 0, 0), some (.ireturn, 1, 0, 0, 0)],
  [some (.aload_n 0, 1, 0, 0, 0), some (.getfield 113, 3, 10, 49, 1123), none, none, some (.bipush 53, 2, 0, 0, 0), none, some (.iload_n 1, 1, 0, 0, 0), some (.iadd, 1, 0, 0, 0), some (.iaload, 1, 0, 0, 0), some (.ireturn, 1, 0, 0, 0), some (.iconst 0, 1, 0, 0, 0), some (.istore_n 3, 1, 0, 0, 0), some (.iconst 0, 1, 0, 0, 0), some (.istore 4, 2, 0, 0, 0), none, some (.iload 4, 2, 0, 0, 0)],
  [none, some (.aload_n 0, 1, 0, 0, 0), some (.getfield 43, 3, 10, 22, 1096), none, none, some (.aload_n 0, 1, 0, 0, 0), some (.getfield 239, 3, 10, 18, 1092), none, none, some (.iaload, 1, 0, 0, 0), some (.if_icmp .ge 30, 3, 0, 0, 0), none, none, some (.aload_n 0, 1, 0, 0, 0), some (.getfield 113, 3, 10, 49, 1123)],
  [none, some (.bipush 21, 2, 0, 0, 0), none, some (.iload 4, 2, 0, 0, 0), none, some (.iadd, 1, 0, 0, 0), some (.iaload, 1, 0, 0, 0), some (.iload_n 1, 1, 0, 0, 0), some (.if_icmp .ne 10, 3, 0, 0, 0), none, none, some (.iload_n 3, 1, 0, 0, 0), some (.iconst 1, 1, 0, 0, 0), some (.iload 4, 2, 0, 0, 0), none, some (.ishl, 1, 0, 0, 0)],
  [some (.ior, 1, 0, 0, 0), some (.istore_n 3, 1, 0, 0, 0), some (.iinc 4 1, 3, 0, 0, 0), none, none, some (.goto (-38), 3, 0, 0, 0), none, none, some (.iload_n 3, 1, 0, 0, 0), some (.ireturn, 1, 0, 0, 0), some (.iconst (-1), 1, 0, 0, 0), some (.ireturn, 1, 0, 0, 0)]], 2, 2, 1, 10)
/-- FallMarketModel.leftNow()I -/
def jm_M196 : jm_M := (⟨"FallMarketModel", "leftNow", "()I"⟩, prog_12_method_66_code, 1, some .int, [[some (.aload_n 0, 1, 0, 0, 0), some (.iconst 0, 1, 0, 0, 0), some (.invokevirtual 353, 3, 176, 0, 1435), none, none, some (.invokestatic 356, 3, 177, 0, 1439), none, none, some (.ireturn, 1, 0, 0, 0)]], 2, 0, 1, 10)
/-- FallMarketModel.tellsOf(IIII)I -/
def jm_M197 : jm_M := (⟨"FallMarketModel", "tellsOf", "(IIII)I"⟩, prog_12_method_67_code, 5, some .int, [[some (.aload_n 0, 1, 0, 0, 0), some (.iload_n 1, 1, 0, 0, 0), some (.iload_n 2, 1, 0, 0, 0), some (.aload_n 0, 1, 0, 0, 0), some (.getfield 116, 3, 10, 50, 1124), none, none, some (.bipush 7, 2, 0, 0, 0), none, some (.iload_n 2, 1, 0, 0, 0), some (.iadd, 1, 0, 0, 0), some (.iaload, 1, 0, 0, 0), some (.iload_n 3, 1, 0, 0, 0), some (.aload_n 0, 1, 0, 0, 0), some (.getfield 116, 3, 10, 50, 1124)],
  [none, some (.bipush 35, 2, 0, 0, 0), none, some (.iload_n 2, 1, 0, 0, 0), some (.iadd, 1, 0, 0, 0), some (.iaload, 1, 0, 0, 0), some (.iload 4, 2, 0, 0, 0), none, some (.aload_n 0, 1, 0, 0, 0), some (.getfield 116, 3, 10, 50, 1124), none, none, some (.bipush 57, 2, 0, 0, 0), none, some (.iaload, 1, 0, 0, 0), some (.aload_n 0, 1, 0, 0, 0)],
  [some (.invokevirtual 404, 3, 196, 0, 1431), none, none, some (.invokevirtual 369, 3, 185, 0, 1469), none, none, some (.ireturn, 1, 0, 0, 0)]], 2, 4, 1, 10)
/-- FallMarketModel.blowsNow()I -/
def jm_M198 : jm_M := (⟨"FallMarketModel", "blowsNow", "()I"⟩, prog_12_method_68_code, 1, some .int, [[some (.aload_n 0, 1, 0, 0, 0), some (.aload_n 0, 1, 0, 0, 0), some (.getfield 116, 3, 10, 50, 1124), none, none, some (.bipush 57, 2, 0, 0, 0), none, some (.iaload, 1, 0, 0, 0), some (.aload_n 0, 1, 0, 0, 0), some (.invokevirtual 404, 3, 196, 0, 1431), none, none, some (.invokevirtual 359, 3, 181, 0, 1442), none, none, some (.ireturn, 1, 0, 0, 0)]], 2, 0, 1, 10)
/-- FallMarketModel.tells(II)I -/
def jm_M199 : jm_M := (⟨"FallMarketModel", "tells", "(II)I"⟩, prog_12_method_69_code, 3, some .int, [[some (.aload_n 0, 1, 0, 0, 0), some (.iload_n 1, 1, 0, 0, 0), some (.invokevirtual 398, 3, 169, 0, 1404), none, none, some (.ifCond .eq 12, 3, 0, 0, 0), none, none, some (.iload_n 2, 1, 0, 0, 0), some (.iconst 0, 1, 0, 0, 0), some (.iconst 3, 1, 0, 0, 0), some (.invokestatic 319, 3, 167, 0, 1408), none, none, some (.ifCond .ne 6, 3, 0, 0, 0)],
  [none, some (.bipush (-100), 2, 0, 0, 0), none, some (.ireturn, 1, 0, 0, 0), some (.aload_n 0, 1, 0, 0, 0), some (.invokevirtual 407, 3, 173, 0, 1423), none, none, some (.iload_n 2, 1, 0, 0, 0), some (.tableswitch 102 0 2 #[27, 47, 67], 27, 0, 0, 0)],
  [],
  [none, none, none, none, some (.aload_n 0, 1, 0, 0, 0), some (.iconst 2, 1, 0, 0, 0), some (.iload_n 1, 1, 0, 0, 0), some (.aload_n 0, 1, 0, 0, 0), some (.getfield 116, 3, 10, 50, 1124), none, none, some (.bipush 42, 2, 0, 0, 0), none, some (.iload_n 1, 1, 0, 0, 0), some (.iadd, 1, 0, 0, 0), some (.iaload, 1, 0, 0, 0)],
  [some (.aload_n 0, 1, 0, 0, 0), some (.invokevirtual 410, 3, 198, 0, 1427), none, none, some (.invokevirtual 413, 3, 197, 0, 1465), none, none, some (.ireturn, 1, 0, 0, 0), some (.aload_n 0, 1, 0, 0, 0), some (.iconst 1, 1, 0, 0, 0), some (.iload_n 1, 1, 0, 0, 0), some (.aload_n 0, 1, 0, 0, 0), some (.getfield 116, 3, 10, 50, 1124), none, none, some (.bipush 42, 2, 0, 0, 0)],
  [none, some (.iload_n 1, 1, 0, 0, 0), some (.iadd, 1, 0, 0, 0), some (.iaload, 1, 0, 0, 0), some (.aload_n 0, 1, 0, 0, 0), some (.invokevirtual 410, 3, 198, 0, 1427), none, none, some (.invokevirtual 413, 3, 197, 0, 1465), none, none, some (.ireturn, 1, 0, 0, 0), some (.aload_n 0, 1, 0, 0, 0), some (.iload_n 1, 1, 0, 0, 0), some (.aload_n 0, 1, 0, 0, 0), some (.getfield 116, 3, 10, 50, 1124)],
  [none, none, some (.bipush 7, 2, 0, 0, 0), none, some (.iload_n 1, 1, 0, 0, 0), some (.iadd, 1, 0, 0, 0), some (.iaload, 1, 0, 0, 0), some (.aload_n 0, 1, 0, 0, 0), some (.getfield 116, 3, 10, 50, 1124), none, none, some (.bipush 28, 2, 0, 0, 0), none, some (.iload_n 1, 1, 0, 0, 0), some (.iadd, 1, 0, 0, 0), some (.iaload, 1, 0, 0, 0)],
  [some (.aload_n 0, 1, 0, 0, 0), some (.getfield 116, 3, 10, 50, 1124), none, none, some (.bipush 57, 2, 0, 0, 0), none, some (.iaload, 1, 0, 0, 0), some (.aload_n 0, 1, 0, 0, 0), some (.invokevirtual 404, 3, 196, 0, 1431), none, none, some (.invokevirtual 362, 3, 183, 0, 1477), none, none, some (.ireturn, 1, 0, 0, 0), some (.aload_n 0, 1, 0, 0, 0)],
  [some (.iload_n 1, 1, 0, 0, 0), some (.aload_n 0, 1, 0, 0, 0), some (.getfield 116, 3, 10, 50, 1124), none, none, some (.bipush 7, 2, 0, 0, 0), none, some (.iload_n 1, 1, 0, 0, 0), some (.iadd, 1, 0, 0, 0), some (.iaload, 1, 0, 0, 0), some (.aload_n 0, 1, 0, 0, 0), some (.getfield 116, 3, 10, 50, 1124), none, none, some (.bipush 57, 2, 0, 0, 0)],
  [some (.iaload, 1, 0, 0, 0), some (.aload_n 0, 1, 0, 0, 0), some (.invokevirtual 404, 3, 196, 0, 1431), none, none, some (.invokevirtual 373, 3, 184, 0, 1481), none, none, some (.ireturn, 1, 0, 0, 0)]], 2, 2, 1, 10)
/-- FallMarketModel.records()V -/
def jm_M200 : jm_M := (⟨"FallMarketModel", "records", "()V"⟩, prog_12_method_70_code, 2, none, [[some (.aload_n 0, 1, 0, 0, 0), some (.getfield 257, 3, 10, 57, 1131), none, none, some (.bipush 40, 2, 0, 0, 0), none, some (.if_icmp .ne 43, 3, 0, 0, 0), none, none, some (.iconst 0, 1, 0, 0, 0), some (.istore_n 1, 1, 0, 0, 0), some (.iload_n 1, 1, 0, 0, 0), some (.sipush 2379, 3, 0, 0, 0), none, none, some (.if_icmp .ge 24, 3, 0, 0, 0)],
  [none, none, some (.aload_n 0, 1, 0, 0, 0), some (.getfield 131, 3, 10, 58, 1132), none, none, some (.iload_n 1, 1, 0, 0, 0), some (.aload_n 0, 1, 0, 0, 0), some (.getfield 131, 3, 10, 58, 1132), none, none, some (.iload_n 1, 1, 0, 0, 0), some (.bipush 61, 2, 0, 0, 0), none, some (.iadd, 1, 0, 0, 0), some (.iaload, 1, 0, 0, 0)],
  [some (.iastore, 1, 0, 0, 0), some (.iinc 1 1, 3, 0, 0, 0), none, none, some (.goto (-25), 3, 0, 0, 0), none, none, some (.aload_n 0, 1, 0, 0, 0), some (.dup, 1, 0, 0, 0), some (.getfield 257, 3, 10, 57, 1131), none, none, some (.iconst 1, 1, 0, 0, 0), some (.isub, 1, 0, 0, 0), some (.putfield 257, 3, 10, 57, 1131)],
  [none, some (.iconst 0, 1, 0, 0, 0), some (.istore_n 1, 1, 0, 0, 0), some (.iload_n 1, 1, 0, 0, 0), some (.bipush 61, 2, 0, 0, 0), none, some (.if_icmp .ge 29, 3, 0, 0, 0), none, none, some (.aload_n 0, 1, 0, 0, 0), some (.getfield 131, 3, 10, 58, 1132), none, none, some (.bipush 61, 2, 0, 0, 0), none, some (.aload_n 0, 1, 0, 0, 0)],
  [some (.getfield 257, 3, 10, 57, 1131), none, none, some (.imul, 1, 0, 0, 0), some (.iload_n 1, 1, 0, 0, 0), some (.iadd, 1, 0, 0, 0), some (.aload_n 0, 1, 0, 0, 0), some (.getfield 113, 3, 10, 49, 1123), none, none, some (.iload_n 1, 1, 0, 0, 0), some (.iaload, 1, 0, 0, 0), some (.iastore, 1, 0, 0, 0), some (.iinc 1 1, 3, 0, 0, 0)],
  [some (.goto (-29), 3, 0, 0, 0), none, none, some (.aload_n 0, 1, 0, 0, 0), some (.dup, 1, 0, 0, 0), some (.getfield 257, 3, 10, 57, 1131), none, none, some (.iconst 1, 1, 0, 0, 0), some (.iadd, 1, 0, 0, 0), some (.putfield 257, 3, 10, 57, 1131), none, none, some (.aload_n 0, 1, 0, 0, 0), some (.invokevirtual 169, 3, 172, 0, 1071)],
  [none, some (.return_, 1, 0, 0, 0)]], 2, 0, 1, 10)
/-- FallMarketModel.go(II)Z -/
def jm_M201 : jm_M := (⟨"FallMarketModel", "go", "(II)Z"⟩, prog_12_method_71_code, 3, some .boolean, [[some (.aload_n 0, 1, 0, 0, 0), some (.iload_n 1, 1, 0, 0, 0), some (.invokevirtual 401, 3, 170, 0, 1415), none, none, some (.ifCond .eq 26, 3, 0, 0, 0), none, none, some (.iload_n 2, 1, 0, 0, 0), some (.iconst 0, 1, 0, 0, 0), some (.bipush 9, 2, 0, 0, 0), none, some (.invokestatic 319, 3, 167, 0, 1408), none, none, some (.ifCond .eq 16, 3, 0, 0, 0)],
  [none, none, some (.aload_n 0, 1, 0, 0, 0), some (.getfield 113, 3, 10, 49, 1123), none, none, some (.bipush 49, 2, 0, 0, 0), none, some (.iload_n 1, 1, 0, 0, 0), some (.iadd, 1, 0, 0, 0), some (.iaload, 1, 0, 0, 0), some (.iload_n 2, 1, 0, 0, 0), some (.if_icmp .ne 5, 3, 0, 0, 0), none, none, some (.iconst 0, 1, 0, 0, 0)],
  [some (.ireturn, 1, 0, 0, 0), some (.aload_n 0, 1, 0, 0, 0), some (.invokevirtual 407, 3, 173, 0, 1423), none, none, some (.aload_n 0, 1, 0, 0, 0), some (.getfield 116, 3, 10, 50, 1124), none, none, some (.bipush 49, 2, 0, 0, 0), none, some (.iload_n 1, 1, 0, 0, 0), some (.iadd, 1, 0, 0, 0), some (.iload_n 2, 1, 0, 0, 0), some (.iastore, 1, 0, 0, 0), some (.aload_n 0, 1, 0, 0, 0)],
  [some (.invokevirtual 416, 3, 200, 0, 1489), none, none, some (.iconst 1, 1, 0, 0, 0), some (.ireturn, 1, 0, 0, 0)]], 2, 2, 1, 10)
/-- FallMarketModel.prop(IZ)Z -/
def jm_M202 : jm_M := (⟨"FallMarketModel", "prop", "(IZ)Z"⟩, prog_12_method_72_code, 3, some .boolean, [[some (.aload_n 0, 1, 0, 0, 0), some (.iload_n 1, 1, 0, 0, 0), some (.invokevirtual 398, 3, 169, 0, 1404), none, none, some (.ifCond .eq 37, 3, 0, 0, 0), none, none, some (.aload_n 0, 1, 0, 0, 0), some (.getfield 113, 3, 10, 49, 1123), none, none, some (.bipush 14, 2, 0, 0, 0), none, some (.iload_n 1, 1, 0, 0, 0), some (.iadd, 1, 0, 0, 0)],
  [some (.iaload, 1, 0, 0, 0), some (.ifCond .ne 25, 3, 0, 0, 0), none, none, some (.aload_n 0, 1, 0, 0, 0), some (.getfield 113, 3, 10, 49, 1123), none, none, some (.bipush 35, 2, 0, 0, 0), none, some (.iload_n 1, 1, 0, 0, 0), some (.iadd, 1, 0, 0, 0), some (.iaload, 1, 0, 0, 0), some (.iconst 1, 1, 0, 0, 0), some (.if_icmp .ne 7, 3, 0, 0, 0)],
  [none, some (.iconst 1, 1, 0, 0, 0), some (.goto 4, 3, 0, 0, 0), none, none, some (.iconst 0, 1, 0, 0, 0), some (.iload_n 2, 1, 0, 0, 0), some (.if_icmp .ne 5, 3, 0, 0, 0), none, none, some (.iconst 0, 1, 0, 0, 0), some (.ireturn, 1, 0, 0, 0), some (.aload_n 0, 1, 0, 0, 0), some (.invokevirtual 407, 3, 173, 0, 1423)],
  [some (.aload_n 0, 1, 0, 0, 0), some (.getfield 116, 3, 10, 50, 1124), none, none, some (.bipush 35, 2, 0, 0, 0), none, some (.iload_n 1, 1, 0, 0, 0), some (.iadd, 1, 0, 0, 0), some (.iload_n 2, 1, 0, 0, 0), some (.ifCond .eq 7, 3, 0, 0, 0), none, none, some (.iconst 1, 1, 0, 0, 0), some (.goto 4, 3, 0, 0, 0)],
  [some (.iconst 0, 1, 0, 0, 0), some (.iastore, 1, 0, 0, 0), some (.aload_n 0, 1, 0, 0, 0), some (.invokevirtual 416, 3, 200, 0, 1489), none, none, some (.iconst 1, 1, 0, 0, 0), some (.ireturn, 1, 0, 0, 0)]], 2, 2, 1, 10)
def jm_M203_r0 : List (Option jm_I) := [some (.aload_n 0, 1, 0, 0, 0), some (.iload_n 1, 1, 0, 0, 0), some (.invokevirtual 398, 3, 169, 0, 1404), none, none, some (.ifCond .ne 5, 3, 0, 0, 0), none, none, some (.iconst (-1), 1, 0, 0, 0), some (.ireturn, 1, 0, 0, 0), some (.aload_n 0, 1, 0, 0, 0), some (.getfield 113, 3, 10, 49, 1123), none, none, some (.bipush 14, 2, 0, 0, 0)]
def jm_M203_r1 : List (Option jm_I) := [some (.iload_n 1, 1, 0, 0, 0), some (.iadd, 1, 0, 0, 0), some (.iaload, 1, 0, 0, 0), some (.ifCond .eq 6, 3, 0, 0, 0), none, none, some (.bipush (-2), 2, 0, 0, 0), none, some (.ireturn, 1, 0, 0, 0), some (.aload_n 0, 1, 0, 0, 0), some (.invokevirtual 407, 3, 173, 0, 1423), none, none, some (.aload_n 0, 1, 0, 0, 0), some (.invokevirtual 410, 3, 198, 0, 1427)]
def jm_M203_r2 : List (Option jm_I) := [none, some (.istore_n 2, 1, 0, 0, 0), some (.iconst 0, 1, 0, 0, 0), some (.istore_n 3, 1, 0, 0, 0), some (.aload_n 0, 1, 0, 0, 0), some (.aload_n 0, 1, 0, 0, 0), some (.getfield 116, 3, 10, 50, 1124), none, none, some (.bipush 57, 2, 0, 0, 0), none, some (.iaload, 1, 0, 0, 0), some (.aload_n 0, 1, 0, 0, 0), some (.invokevirtual 404, 3, 196, 0, 1431)]
def jm_M203_r3 : List (Option jm_I) := [some (.invokevirtual 339, 3, 178, 0, 1446), none, none, some (.aload_n 0, 1, 0, 0, 0), some (.getfield 107, 3, 10, 46, 1120), none, none, some (.iconst 3, 1, 0, 0, 0), some (.iload_n 2, 1, 0, 0, 0), some (.iastore, 1, 0, 0, 0), some (.aload_n 0, 1, 0, 0, 0), some (.getfield 107, 3, 10, 46, 1120), none, none, some (.iconst 5, 1, 0, 0, 0), some (.aload_n 0, 1, 0, 0, 0)]
def jm_M203_r4 : List (Option jm_I) := [some (.getfield 116, 3, 10, 50, 1124), none, none, some (.bipush 58, 2, 0, 0, 0), none, some (.iaload, 1, 0, 0, 0), some (.iconst 1, 1, 0, 0, 0), some (.iadd, 1, 0, 0, 0), some (.iastore, 1, 0, 0, 0), some (.aload_n 0, 1, 0, 0, 0), some (.iconst 5, 1, 0, 0, 0), some (.iconst 0, 1, 0, 0, 0), some (.iconst 0, 1, 0, 0, 0), some (.bipush 100, 2, 0, 0, 0), none, some (.invokevirtual 342, 3, 179, 0, 1450)]
def jm_M203_r5 : List (Option jm_I) := [none, none, some (.istore 4, 2, 0, 0, 0), none, some (.aload_n 0, 1, 0, 0, 0), some (.ldc_w 419, 3, 1000000, 0, 1501), none, none, some (.aload_n 0, 1, 0, 0, 0), some (.getfield 116, 3, 10, 50, 1124), none, none, some (.bipush 58, 2, 0, 0, 0), none, some (.iaload, 1, 0, 0, 0), some (.iadd, 1, 0, 0, 0)]
def jm_M203_r6 : List (Option jm_I) := [some (.invokevirtual 366, 3, 175, 0, 1502), none, none, some (.iload 4, 2, 0, 0, 0), none, some (.if_icmp .ge 5, 3, 0, 0, 0), none, none, some (.iconst 1, 1, 0, 0, 0), some (.istore_n 3, 1, 0, 0, 0), some (.aload_n 0, 1, 0, 0, 0), some (.getfield 116, 3, 10, 50, 1124), none, none, some (.bipush 42, 2, 0, 0, 0)]
def jm_M203_r7 : List (Option jm_I) := [some (.iload_n 1, 1, 0, 0, 0), some (.iadd, 1, 0, 0, 0), some (.dup2, 1, 0, 0, 0), some (.iaload, 1, 0, 0, 0), some (.iconst 1, 1, 0, 0, 0), some (.iadd, 1, 0, 0, 0), some (.iastore, 1, 0, 0, 0), some (.aload_n 0, 1, 0, 0, 0), some (.getfield 116, 3, 10, 50, 1124), none, none, some (.bipush 58, 2, 0, 0, 0), none, some (.dup2, 1, 0, 0, 0), some (.iaload, 1, 0, 0, 0), some (.iconst 1, 1, 0, 0, 0)]
def jm_M203_r8 : List (Option jm_I) := [some (.iadd, 1, 0, 0, 0), some (.iastore, 1, 0, 0, 0), some (.iload_n 3, 1, 0, 0, 0), some (.ifCond .eq 33, 3, 0, 0, 0), none, none, some (.aload_n 0, 1, 0, 0, 0), some (.getfield 116, 3, 10, 50, 1124), none, none, some (.bipush 59, 2, 0, 0, 0), none, some (.dup2, 1, 0, 0, 0), some (.iaload, 1, 0, 0, 0), some (.iconst 1, 1, 0, 0, 0), some (.iadd, 1, 0, 0, 0)]
def jm_M203_r9 : List (Option jm_I) := [some (.iastore, 1, 0, 0, 0), some (.aload_n 0, 1, 0, 0, 0), some (.getfield 116, 3, 10, 50, 1124), none, none, some (.bipush 60, 2, 0, 0, 0), none, some (.dup2, 1, 0, 0, 0), some (.iaload, 1, 0, 0, 0), some (.aload_n 0, 1, 0, 0, 0), some (.getfield 67, 3, 10, 30, 1104), none, none, some (.aload_n 0, 1, 0, 0, 0), some (.getfield 239, 3, 10, 18, 1092)]
def jm_M203_r10 : List (Option jm_I) := [none, some (.iaload, 1, 0, 0, 0), some (.iadd, 1, 0, 0, 0), some (.iastore, 1, 0, 0, 0), some (.aload_n 0, 1, 0, 0, 0), some (.invokevirtual 416, 3, 200, 0, 1489), none, none, some (.iload_n 3, 1, 0, 0, 0), some (.ifCond .eq 7, 3, 0, 0, 0), none, none, some (.iconst 1, 1, 0, 0, 0), some (.goto 4, 3, 0, 0, 0)]
def jm_M203_r11 : List (Option jm_I) := [some (.iconst 0, 1, 0, 0, 0), some (.ireturn, 1, 0, 0, 0)]
/-- FallMarketModel.shake(I)I -/
def jm_M203 : jm_M := (⟨"FallMarketModel", "shake", "(I)I"⟩, prog_12_method_73_code, 5, some .int, [jm_M203_r0, jm_M203_r1, jm_M203_r2, jm_M203_r3, jm_M203_r4, jm_M203_r5, jm_M203_r6, jm_M203_r7, jm_M203_r8, jm_M203_r9, jm_M203_r10, jm_M203_r11], 2, 1, 1, 10)
/-- FallMarketModel.hours(I)I -/
def jm_M204 : jm_M := (⟨"FallMarketModel", "hours", "(I)I"⟩, prog_12_method_74_code, 2, some .int, [[some (.iload_n 1, 1, 0, 0, 0), some (.iconst 0, 1, 0, 0, 0), some (.bipush 48, 2, 0, 0, 0), none, some (.invokestatic 319, 3, 167, 0, 1408), none, none, some (.ifCond .ne 5, 3, 0, 0, 0), none, none, some (.iconst (-1), 1, 0, 0, 0), some (.ireturn, 1, 0, 0, 0), some (.iload_n 1, 1, 0, 0, 0), some (.ifCond .ne 11, 3, 0, 0, 0)],
  [some (.aload_n 0, 1, 0, 0, 0), some (.getfield 113, 3, 10, 49, 1123), none, none, some (.bipush 57, 2, 0, 0, 0), none, some (.iaload, 1, 0, 0, 0), some (.ireturn, 1, 0, 0, 0), some (.aload_n 0, 1, 0, 0, 0), some (.invokevirtual 407, 3, 173, 0, 1423), none, none, some (.aload_n 0, 1, 0, 0, 0), some (.iload_n 1, 1, 0, 0, 0), some (.invokevirtual 420, 3, 193, 0, 1514)],
  [none, some (.aload_n 0, 1, 0, 0, 0), some (.invokevirtual 416, 3, 200, 0, 1489), none, none, some (.aload_n 0, 1, 0, 0, 0), some (.getfield 113, 3, 10, 49, 1123), none, none, some (.bipush 57, 2, 0, 0, 0), none, some (.iaload, 1, 0, 0, 0), some (.ireturn, 1, 0, 0, 0)]], 2, 1, 1, 10)
/-- FallMarketModel.undo()Z -/
def jm_M205 : jm_M := (⟨"FallMarketModel", "undo", "()Z"⟩, prog_12_method_75_code, 2, some .boolean, [[some (.aload_n 0, 1, 0, 0, 0), some (.getfield 257, 3, 10, 57, 1131), none, none, some (.ifCond .ne 5, 3, 0, 0, 0), none, none, some (.iconst 0, 1, 0, 0, 0), some (.ireturn, 1, 0, 0, 0), some (.aload_n 0, 1, 0, 0, 0), some (.dup, 1, 0, 0, 0), some (.getfield 257, 3, 10, 57, 1131), none, none, some (.iconst 1, 1, 0, 0, 0), some (.isub, 1, 0, 0, 0)],
  [some (.putfield 257, 3, 10, 57, 1131), none, none, some (.iconst 0, 1, 0, 0, 0), some (.istore_n 1, 1, 0, 0, 0), some (.iload_n 1, 1, 0, 0, 0), some (.bipush 61, 2, 0, 0, 0), none, some (.if_icmp .ge 29, 3, 0, 0, 0), none, none, some (.aload_n 0, 1, 0, 0, 0), some (.getfield 113, 3, 10, 49, 1123), none, none, some (.iload_n 1, 1, 0, 0, 0)],
  [some (.aload_n 0, 1, 0, 0, 0), some (.getfield 131, 3, 10, 58, 1132), none, none, some (.bipush 61, 2, 0, 0, 0), none, some (.aload_n 0, 1, 0, 0, 0), some (.getfield 257, 3, 10, 57, 1131), none, none, some (.imul, 1, 0, 0, 0), some (.iload_n 1, 1, 0, 0, 0), some (.iadd, 1, 0, 0, 0), some (.iaload, 1, 0, 0, 0), some (.iastore, 1, 0, 0, 0), some (.iinc 1 1, 3, 0, 0, 0)],
  [none, none, some (.goto (-29), 3, 0, 0, 0), none, none, some (.iconst 1, 1, 0, 0, 0), some (.ireturn, 1, 0, 0, 0)]], 2, 0, 1, 10)
/-- FallMarketModel.fillsOdds(III)V -/
def jm_M206 : jm_M := (⟨"FallMarketModel", "fillsOdds", "(III)V"⟩, prog_12_method_76_code, 9, none, [[some (.aload_n 0, 1, 0, 0, 0), some (.getfield 116, 3, 10, 50, 1124), none, none, some (.bipush 7, 2, 0, 0, 0), none, some (.iload_n 1, 1, 0, 0, 0), some (.iadd, 1, 0, 0, 0), some (.iaload, 1, 0, 0, 0), some (.istore 4, 2, 0, 0, 0), none, some (.iconst 0, 1, 0, 0, 0), some (.istore 5, 2, 0, 0, 0), none, some (.iload 5, 2, 0, 0, 0)],
  [some (.iload_n 2, 1, 0, 0, 0), some (.if_icmp .ge 130, 3, 0, 0, 0), none, none, some (.aload_n 0, 1, 0, 0, 0), some (.getfield 116, 3, 10, 50, 1124), none, none, some (.bipush 57, 2, 0, 0, 0), none, some (.iaload, 1, 0, 0, 0), some (.iload 5, 2, 0, 0, 0), none, some (.iadd, 1, 0, 0, 0), some (.istore 6, 2, 0, 0, 0)],
  [some (.iload 5, 2, 0, 0, 0), none, some (.ifCond .ne 15, 3, 0, 0, 0), none, none, some (.aload_n 0, 1, 0, 0, 0), some (.getfield 116, 3, 10, 50, 1124), none, none, some (.bipush 42, 2, 0, 0, 0), none, some (.iload_n 1, 1, 0, 0, 0), some (.iadd, 1, 0, 0, 0), some (.iaload, 1, 0, 0, 0), some (.goto 4, 3, 0, 0, 0)],
  [none, some (.iconst 0, 1, 0, 0, 0), some (.istore 7, 2, 0, 0, 0), none, some (.aload_n 0, 1, 0, 0, 0), some (.iload 6, 2, 0, 0, 0), none, some (.aload_n 0, 1, 0, 0, 0), some (.invokevirtual 404, 3, 196, 0, 1431), none, none, some (.invokevirtual 359, 3, 181, 0, 1442), none, none, some (.istore 8, 2, 0, 0, 0)],
  [some (.aload_n 0, 1, 0, 0, 0), some (.getfield 134, 3, 10, 59, 1133), none, none, some (.iload 5, 2, 0, 0, 0), none, some (.aload_n 0, 1, 0, 0, 0), some (.iconst 2, 1, 0, 0, 0), some (.iload_n 1, 1, 0, 0, 0), some (.iload 4, 2, 0, 0, 0), none, some (.iload 7, 2, 0, 0, 0), none, some (.iload_n 3, 1, 0, 0, 0), some (.iload 8, 2, 0, 0, 0)],
  [some (.iload 6, 2, 0, 0, 0), none, some (.aload_n 0, 1, 0, 0, 0), some (.invokevirtual 404, 3, 196, 0, 1431), none, none, some (.invokevirtual 369, 3, 185, 0, 1469), none, none, some (.iastore, 1, 0, 0, 0), some (.aload_n 0, 1, 0, 0, 0), some (.getfield 137, 3, 10, 60, 1134), none, none, some (.iload 5, 2, 0, 0, 0)],
  [some (.aload_n 0, 1, 0, 0, 0), some (.iload_n 1, 1, 0, 0, 0), some (.iload 4, 2, 0, 0, 0), none, some (.iconst 0, 1, 0, 0, 0), some (.iload 6, 2, 0, 0, 0), none, some (.aload_n 0, 1, 0, 0, 0), some (.invokevirtual 404, 3, 196, 0, 1431), none, none, some (.invokevirtual 362, 3, 183, 0, 1477), none, none, some (.iastore, 1, 0, 0, 0), some (.iload 4, 2, 0, 0, 0)],
  [none, some (.aload_n 0, 1, 0, 0, 0), some (.iconst 1, 1, 0, 0, 0), some (.iload_n 1, 1, 0, 0, 0), some (.iload 4, 2, 0, 0, 0), none, some (.iload 7, 2, 0, 0, 0), none, some (.iload_n 3, 1, 0, 0, 0), some (.iload 8, 2, 0, 0, 0), none, some (.iload 6, 2, 0, 0, 0), none, some (.aload_n 0, 1, 0, 0, 0), some (.invokevirtual 404, 3, 196, 0, 1431)],
  [none, some (.invokevirtual 369, 3, 185, 0, 1469), none, none, some (.iadd, 1, 0, 0, 0), some (.iconst 0, 1, 0, 0, 0), some (.bipush 99, 2, 0, 0, 0), none, some (.invokestatic 333, 3, 168, 0, 1462), none, none, some (.istore 4, 2, 0, 0, 0), none, some (.iinc 5 1, 3, 0, 0, 0)],
  [some (.goto (-130), 3, 0, 0, 0), none, none, some (.return_, 1, 0, 0, 0)]], 2, 3, 1, 10)
/-- FallMarketModel.hundreds(I)J -/
def jm_M207 : jm_M := (⟨"FallMarketModel", "hundreds", "(I)J"⟩, prog_12_method_77_code, 4, some .long, [[some (.lconst 1, 1, 0, 0, 0), some (.lstore_n 1, 1, 0, 0, 0), some (.iconst 0, 1, 0, 0, 0), some (.istore_n 3, 1, 0, 0, 0), some (.iload_n 3, 1, 0, 0, 0), some (.iload_n 0, 1, 0, 0, 0), some (.if_icmp .ge 15, 3, 0, 0, 0), none, none, some (.lload_n 1, 1, 0, 0, 0), some (.ldc2_w 423, 3, 100, 0, 1563), none, none, some (.lmul, 1, 0, 0, 0), some (.lstore_n 1, 1, 0, 0, 0), some (.iinc 3 1, 3, 0, 0, 0)],
  [none, none, some (.goto (-14), 3, 0, 0, 0), none, none, some (.lload_n 1, 1, 0, 0, 0), some (.lreturn, 1, 0, 0, 0)]], 2, 1, 0, 10)
/-- FallMarketModel.fallsIn(I)J -/
def jm_M208 : jm_M := (⟨"FallMarketModel", "fallsIn", "(I)J"⟩, prog_12_method_78_code, 5, some .long, [[some (.aload_n 0, 1, 0, 0, 0), some (.getfield 134, 3, 10, 59, 1133), none, none, some (.iload_n 1, 1, 0, 0, 0), some (.iaload, 1, 0, 0, 0), some (.i2l, 1, 0, 0, 0), some (.lstore_n 2, 1, 0, 0, 0), some (.iconst 0, 1, 0, 0, 0), some (.istore 4, 2, 0, 0, 0), none, some (.iload 4, 2, 0, 0, 0), none, some (.iload_n 1, 1, 0, 0, 0), some (.if_icmp .ge 23, 3, 0, 0, 0)],
  [none, some (.lload_n 2, 1, 0, 0, 0), some (.bipush 100, 2, 0, 0, 0), none, some (.aload_n 0, 1, 0, 0, 0), some (.getfield 134, 3, 10, 59, 1133), none, none, some (.iload 4, 2, 0, 0, 0), none, some (.iaload, 1, 0, 0, 0), some (.isub, 1, 0, 0, 0), some (.i2l, 1, 0, 0, 0), some (.lmul, 1, 0, 0, 0), some (.lstore_n 2, 1, 0, 0, 0), some (.iinc 4 1, 3, 0, 0, 0)],
  [none, none, some (.goto (-23), 3, 0, 0, 0), none, none, some (.lload_n 2, 1, 0, 0, 0), some (.lreturn, 1, 0, 0, 0)]], 2, 1, 1, 10)
/-- FallMarketModel.isFew(II)Z -/
def jm_M209 : jm_M := (⟨"FallMarketModel", "isFew", "(II)Z"⟩, prog_12_method_79_code, 2, some .boolean, [[some (.iload_n 0, 1, 0, 0, 0), some (.iconst 1, 1, 0, 0, 0), some (.iload_n 1, 1, 0, 0, 0), some (.invokestatic 319, 3, 167, 0, 1408), none, none, some (.ireturn, 1, 0, 0, 0)]], 2, 2, 0, 10)
/-- FallMarketModel.common(JJ)J -/
def jm_M210 : jm_M := (⟨"FallMarketModel", "common", "(JJ)J"⟩, prog_12_method_80_code, 10, some .long, [[some (.lload_n 0, 1, 0, 0, 0), some (.lstore 4, 2, 0, 0, 0), none, some (.lload_n 2, 1, 0, 0, 0), some (.lstore 6, 2, 0, 0, 0), none, some (.lload 6, 2, 0, 0, 0), none, some (.lconst 0, 1, 0, 0, 0), some (.lcmp, 1, 0, 0, 0), some (.ifCond .eq 21, 3, 0, 0, 0), none, none, some (.lload 4, 2, 0, 0, 0), none, some (.lload 6, 2, 0, 0, 0)],
  [none, some (.lrem, 1, 0, 0, 0), some (.lstore 8, 2, 0, 0, 0), none, some (.lload 6, 2, 0, 0, 0), none, some (.lstore 4, 2, 0, 0, 0), none, some (.lload 8, 2, 0, 0, 0), none, some (.lstore 6, 2, 0, 0, 0), none, some (.goto (-22), 3, 0, 0, 0), none, none, some (.lload 4, 2, 0, 0, 0)],
  [none, some (.lreturn, 1, 0, 0, 0)]], 2, 2, 0, 10)
/-- FallMarketModel.hangsOn(IIZ)I -/
def jm_M211 : jm_M := (⟨"FallMarketModel", "hangsOn", "(IIZ)I"⟩, prog_12_method_81_code, 8, some .int, [[some (.aload_n 0, 1, 0, 0, 0), some (.iload_n 1, 1, 0, 0, 0), some (.invokevirtual 398, 3, 169, 0, 1404), none, none, some (.ifCond .eq 11, 3, 0, 0, 0), none, none, some (.iload_n 2, 1, 0, 0, 0), some (.iconst 4, 1, 0, 0, 0), some (.invokestatic 425, 3, 209, 0, 1553), none, none, some (.ifCond .ne 5, 3, 0, 0, 0)],
  [some (.iconst (-1), 1, 0, 0, 0), some (.ireturn, 1, 0, 0, 0), some (.aload_n 0, 1, 0, 0, 0), some (.getfield 113, 3, 10, 49, 1123), none, none, some (.bipush 14, 2, 0, 0, 0), none, some (.iload_n 1, 1, 0, 0, 0), some (.iadd, 1, 0, 0, 0), some (.iaload, 1, 0, 0, 0), some (.ifCond .eq 6, 3, 0, 0, 0), none, none, some (.bipush (-2), 2, 0, 0, 0)],
  [some (.ireturn, 1, 0, 0, 0), some (.aload_n 0, 1, 0, 0, 0), some (.invokevirtual 407, 3, 173, 0, 1423), none, none, some (.aload_n 0, 1, 0, 0, 0), some (.iload_n 1, 1, 0, 0, 0), some (.iload_n 2, 1, 0, 0, 0), some (.aload_n 0, 1, 0, 0, 0), some (.getfield 116, 3, 10, 50, 1124), none, none, some (.bipush 35, 2, 0, 0, 0), none, some (.iload_n 1, 1, 0, 0, 0), some (.iadd, 1, 0, 0, 0)],
  [some (.iaload, 1, 0, 0, 0), some (.invokevirtual 429, 3, 206, 0, 1556), none, none, some (.lconst 1, 1, 0, 0, 0), some (.lstore 4, 2, 0, 0, 0), none, some (.iconst 0, 1, 0, 0, 0), some (.istore 6, 2, 0, 0, 0), none, some (.iload 6, 2, 0, 0, 0), none, some (.iload_n 2, 1, 0, 0, 0), some (.if_icmp .ge 25, 3, 0, 0, 0)],
  [some (.lload 4, 2, 0, 0, 0), none, some (.bipush 100, 2, 0, 0, 0), none, some (.aload_n 0, 1, 0, 0, 0), some (.getfield 134, 3, 10, 59, 1133), none, none, some (.iload 6, 2, 0, 0, 0), none, some (.iaload, 1, 0, 0, 0), some (.isub, 1, 0, 0, 0), some (.i2l, 1, 0, 0, 0), some (.lmul, 1, 0, 0, 0), some (.lstore 4, 2, 0, 0, 0)],
  [some (.iinc 6 1, 3, 0, 0, 0), none, none, some (.goto (-25), 3, 0, 0, 0), none, none, some (.lload 4, 2, 0, 0, 0), none, some (.iload_n 2, 1, 0, 0, 0), some (.invokestatic 432, 3, 207, 0, 1560), none, none, some (.invokestatic 436, 3, 210, 0, 1564), none, none, some (.lstore 6, 2, 0, 0, 0)],
  [none, some (.iload_n 3, 1, 0, 0, 0), some (.ifCond .eq 13, 3, 0, 0, 0), none, none, some (.iload_n 2, 1, 0, 0, 0), some (.invokestatic 432, 3, 207, 0, 1560), none, none, some (.lload 6, 2, 0, 0, 0), none, some (.ldiv, 1, 0, 0, 0), some (.goto 8, 3, 0, 0, 0), none, none, some (.lload 4, 2, 0, 0, 0)],
  [none, some (.lload 6, 2, 0, 0, 0), none, some (.ldiv, 1, 0, 0, 0), some (.l2i, 1, 0, 0, 0), some (.ireturn, 1, 0, 0, 0)]], 2, 3, 1, 10)
end
section
/-! ===== the methods, a row each ===== -/
/-- FallMarketModel.meanAt(III)J -/
def jm_M212 : jm_M := (⟨"FallMarketModel", "meanAt", "(III)J"⟩, prog_12_method_82_code, 8, some .long, [[some (.aload_n 0, 1, 0, 0, 0), some (.invokevirtual 407, 3, 173, 0, 1423), none, none, some (.aload_n 0, 1, 0, 0, 0), some (.getfield 116, 3, 10, 50, 1124), none, none, some (.bipush 49, 2, 0, 0, 0), none, some (.iload_n 1, 1, 0, 0, 0), some (.iadd, 1, 0, 0, 0), some (.iload_n 2, 1, 0, 0, 0), some (.iastore, 1, 0, 0, 0), some (.lconst 0, 1, 0, 0, 0), some (.lstore 4, 2, 0, 0, 0)],
  [none, some (.iconst 0, 1, 0, 0, 0), some (.istore 6, 2, 0, 0, 0), none, some (.iload 6, 2, 0, 0, 0), none, some (.aload_n 0, 1, 0, 0, 0), some (.getfield 43, 3, 10, 22, 1096), none, none, some (.aload_n 0, 1, 0, 0, 0), some (.getfield 239, 3, 10, 18, 1092), none, none, some (.iaload, 1, 0, 0, 0), some (.if_icmp .ge 98, 3, 0, 0, 0)],
  [none, none, some (.aload_n 0, 1, 0, 0, 0), some (.getfield 116, 3, 10, 50, 1124), none, none, some (.bipush 14, 2, 0, 0, 0), none, some (.iload 6, 2, 0, 0, 0), none, some (.iadd, 1, 0, 0, 0), some (.iaload, 1, 0, 0, 0), some (.ifCond .ne 79, 3, 0, 0, 0), none, none, some (.aload_n 0, 1, 0, 0, 0)],
  [some (.iload 6, 2, 0, 0, 0), none, some (.iconst 0, 1, 0, 0, 0), some (.invokevirtual 383, 3, 187, 0, 1538), none, none, some (.iload_n 1, 1, 0, 0, 0), some (.if_icmp .eq 6, 3, 0, 0, 0), none, none, some (.goto 65, 3, 0, 0, 0), none, none, some (.aload_n 0, 1, 0, 0, 0), some (.iload 6, 2, 0, 0, 0)],
  [some (.iload_n 3, 1, 0, 0, 0), some (.aload_n 0, 1, 0, 0, 0), some (.getfield 116, 3, 10, 50, 1124), none, none, some (.bipush 35, 2, 0, 0, 0), none, some (.iload 6, 2, 0, 0, 0), none, some (.iadd, 1, 0, 0, 0), some (.iaload, 1, 0, 0, 0), some (.invokevirtual 429, 3, 206, 0, 1556), none, none, some (.iconst 0, 1, 0, 0, 0), some (.istore 7, 2, 0, 0, 0)],
  [none, some (.iload 7, 2, 0, 0, 0), none, some (.iload_n 3, 1, 0, 0, 0), some (.if_icmp .ge 39, 3, 0, 0, 0), none, none, some (.lload 4, 2, 0, 0, 0), none, some (.aload_n 0, 1, 0, 0, 0), some (.iload 7, 2, 0, 0, 0), none, some (.invokevirtual 440, 3, 208, 0, 1575), none, none, some (.aload_n 0, 1, 0, 0, 0)],
  [some (.getfield 137, 3, 10, 60, 1134), none, none, some (.iload 7, 2, 0, 0, 0), none, some (.iaload, 1, 0, 0, 0), some (.i2l, 1, 0, 0, 0), some (.lmul, 1, 0, 0, 0), some (.iload_n 3, 1, 0, 0, 0), some (.iconst 1, 1, 0, 0, 0), some (.isub, 1, 0, 0, 0), some (.iload 7, 2, 0, 0, 0), none, some (.isub, 1, 0, 0, 0), some (.invokestatic 432, 3, 207, 0, 1560)],
  [none, some (.lmul, 1, 0, 0, 0), some (.ladd, 1, 0, 0, 0), some (.lstore 4, 2, 0, 0, 0), none, some (.iinc 7 1, 3, 0, 0, 0), none, none, some (.goto (-39), 3, 0, 0, 0), none, none, some (.iinc 6 1, 3, 0, 0, 0), none, none, some (.goto (-106), 3, 0, 0, 0)],
  [none, some (.lload 4, 2, 0, 0, 0), none, some (.lreturn, 1, 0, 0, 0)]], 2, 3, 1, 10)
/-- FallMarketModel.mean(III)I -/
def jm_M213 : jm_M := (⟨"FallMarketModel", "mean", "(III)I"⟩, prog_12_method_83_code, 4, some .int, [[some (.aload_n 0, 1, 0, 0, 0), some (.iload_n 1, 1, 0, 0, 0), some (.invokevirtual 401, 3, 170, 0, 1415), none, none, some (.ifCond .eq 39, 3, 0, 0, 0), none, none, some (.iload_n 2, 1, 0, 0, 0), some (.iconst 0, 1, 0, 0, 0), some (.bipush 9, 2, 0, 0, 0), none, some (.invokestatic 319, 3, 167, 0, 1408), none, none, some (.ifCond .eq 29, 3, 0, 0, 0)],
  [none, none, some (.iload_n 3, 1, 0, 0, 0), some (.iconst 4, 1, 0, 0, 0), some (.invokestatic 425, 3, 209, 0, 1553), none, none, some (.ifCond .eq 21, 3, 0, 0, 0), none, none, some (.aload_n 0, 1, 0, 0, 0), some (.iload_n 1, 1, 0, 0, 0), some (.iload_n 2, 1, 0, 0, 0), some (.iload_n 3, 1, 0, 0, 0), some (.invokevirtual 443, 3, 212, 0, 1571)],
  [none, some (.iload_n 3, 1, 0, 0, 0), some (.iconst 1, 1, 0, 0, 0), some (.isub, 1, 0, 0, 0), some (.invokestatic 432, 3, 207, 0, 1560), none, none, some (.ldiv, 1, 0, 0, 0), some (.l2i, 1, 0, 0, 0), some (.goto 4, 3, 0, 0, 0), none, none, some (.iconst (-1), 1, 0, 0, 0), some (.ireturn, 1, 0, 0, 0)]], 2, 3, 1, 10)
/-- FallMarketModel.stand(III)I -/
def jm_M214 : jm_M := (⟨"FallMarketModel", "stand", "(III)I"⟩, prog_12_method_84_code, 10, some .int, [[some (.aload_n 0, 1, 0, 0, 0), some (.iload_n 1, 1, 0, 0, 0), some (.invokevirtual 401, 3, 170, 0, 1415), none, none, some (.ifCond .eq 20, 3, 0, 0, 0), none, none, some (.iload_n 2, 1, 0, 0, 0), some (.iconst 4, 1, 0, 0, 0), some (.invokestatic 425, 3, 209, 0, 1553), none, none, some (.ifCond .eq 12, 3, 0, 0, 0)],
  [some (.iload_n 3, 1, 0, 0, 0), some (.iconst 0, 1, 0, 0, 0), some (.iconst 1, 1, 0, 0, 0), some (.invokestatic 319, 3, 167, 0, 1408), none, none, some (.ifCond .ne 5, 3, 0, 0, 0), none, none, some (.iconst (-1), 1, 0, 0, 0), some (.ireturn, 1, 0, 0, 0), some (.iconst 0, 1, 0, 0, 0), some (.istore 4, 2, 0, 0, 0), none, some (.ldc2_w 447, 3, 18446744073709551615, 0, 1583)],
  [none, some (.lstore 5, 2, 0, 0, 0), none, some (.iconst 0, 1, 0, 0, 0), some (.istore 7, 2, 0, 0, 0), none, some (.iload 7, 2, 0, 0, 0), none, some (.bipush 9, 2, 0, 0, 0), none, some (.if_icmp .gt 38, 3, 0, 0, 0), none, none, some (.aload_n 0, 1, 0, 0, 0), some (.iload_n 1, 1, 0, 0, 0), some (.iload 7, 2, 0, 0, 0)],
  [none, some (.iload_n 2, 1, 0, 0, 0), some (.invokevirtual 443, 3, 212, 0, 1571), none, none, some (.lstore 8, 2, 0, 0, 0), none, some (.lload 8, 2, 0, 0, 0), none, some (.lload 5, 2, 0, 0, 0), none, some (.lcmp, 1, 0, 0, 0), some (.ifCond .gt 6, 3, 0, 0, 0), none, none, some (.goto 11, 3, 0, 0, 0)],
  [none, none, some (.iload 7, 2, 0, 0, 0), none, some (.istore 4, 2, 0, 0, 0), none, some (.lload 8, 2, 0, 0, 0), none, some (.lstore 5, 2, 0, 0, 0), none, some (.iinc 7 1, 3, 0, 0, 0), none, none, some (.goto (-39), 3, 0, 0, 0)],
  [some (.iload_n 3, 1, 0, 0, 0), some (.ifCond .ne 8, 3, 0, 0, 0), none, none, some (.iload 4, 2, 0, 0, 0), none, some (.goto 13, 3, 0, 0, 0), none, none, some (.lload 5, 2, 0, 0, 0), none, some (.iload_n 2, 1, 0, 0, 0), some (.iconst 1, 1, 0, 0, 0), some (.isub, 1, 0, 0, 0), some (.invokestatic 432, 3, 207, 0, 1560)],
  [none, some (.ldiv, 1, 0, 0, 0), some (.l2i, 1, 0, 0, 0), some (.ireturn, 1, 0, 0, 0)]], 2, 3, 1, 10)
/-- FallMarketModel.props(II)I -/
def jm_M215 : jm_M := (⟨"FallMarketModel", "props", "(II)I"⟩, prog_12_method_85_code, 11, some .int, [[some (.iload_n 1, 1, 0, 0, 0), some (.iconst 3, 1, 0, 0, 0), some (.invokestatic 425, 3, 209, 0, 1553), none, none, some (.ifCond .eq 12, 3, 0, 0, 0), none, none, some (.iload_n 2, 1, 0, 0, 0), some (.iconst 0, 1, 0, 0, 0), some (.iconst 1, 1, 0, 0, 0), some (.invokestatic 319, 3, 167, 0, 1408), none, none, some (.ifCond .ne 5, 3, 0, 0, 0)],
  [none, some (.iconst (-1), 1, 0, 0, 0), some (.ireturn, 1, 0, 0, 0), some (.aload_n 0, 1, 0, 0, 0), some (.invokevirtual 407, 3, 173, 0, 1423), none, none, some (.iconst 0, 1, 0, 0, 0), some (.istore_n 3, 1, 0, 0, 0), some (.lconst 0, 1, 0, 0, 0), some (.lstore 4, 2, 0, 0, 0), none, some (.iconst 0, 1, 0, 0, 0), some (.istore 6, 2, 0, 0, 0), none, some (.iload 6, 2, 0, 0, 0)],
  [none, some (.aload_n 0, 1, 0, 0, 0), some (.getfield 43, 3, 10, 22, 1096), none, none, some (.aload_n 0, 1, 0, 0, 0), some (.getfield 239, 3, 10, 18, 1092), none, none, some (.iaload, 1, 0, 0, 0), some (.if_icmp .ge 94, 3, 0, 0, 0), none, none, some (.aload_n 0, 1, 0, 0, 0), some (.getfield 116, 3, 10, 50, 1124)],
  [none, some (.bipush 14, 2, 0, 0, 0), none, some (.iload 6, 2, 0, 0, 0), none, some (.iadd, 1, 0, 0, 0), some (.iaload, 1, 0, 0, 0), some (.ifCond .eq 6, 3, 0, 0, 0), none, none, some (.goto 72, 3, 0, 0, 0), none, none, some (.aload_n 0, 1, 0, 0, 0), some (.iload 6, 2, 0, 0, 0)],
  [some (.iload_n 1, 1, 0, 0, 0), some (.iconst 0, 1, 0, 0, 0), some (.invokevirtual 429, 3, 206, 0, 1556), none, none, some (.aload_n 0, 1, 0, 0, 0), some (.iload_n 1, 1, 0, 0, 0), some (.iconst 1, 1, 0, 0, 0), some (.isub, 1, 0, 0, 0), some (.invokevirtual 440, 3, 208, 0, 1575), none, none, some (.lstore 7, 2, 0, 0, 0), none, some (.aload_n 0, 1, 0, 0, 0), some (.iload 6, 2, 0, 0, 0)],
  [none, some (.iload_n 1, 1, 0, 0, 0), some (.iconst 1, 1, 0, 0, 0), some (.invokevirtual 429, 3, 206, 0, 1556), none, none, some (.aload_n 0, 1, 0, 0, 0), some (.iload_n 1, 1, 0, 0, 0), some (.iconst 1, 1, 0, 0, 0), some (.isub, 1, 0, 0, 0), some (.invokevirtual 440, 3, 208, 0, 1575), none, none, some (.lstore 9, 2, 0, 0, 0), none, some (.lload 9, 2, 0, 0, 0)],
  [none, some (.lload 7, 2, 0, 0, 0), none, some (.lcmp, 1, 0, 0, 0), some (.ifCond .le 10, 3, 0, 0, 0), none, none, some (.iload_n 3, 1, 0, 0, 0), some (.iconst 1, 1, 0, 0, 0), some (.iload 6, 2, 0, 0, 0), none, some (.ishl, 1, 0, 0, 0), some (.ior, 1, 0, 0, 0), some (.istore_n 3, 1, 0, 0, 0), some (.lload 4, 2, 0, 0, 0)],
  [some (.lload 9, 2, 0, 0, 0), none, some (.lload 7, 2, 0, 0, 0), none, some (.lcmp, 1, 0, 0, 0), some (.ifCond .le 8, 3, 0, 0, 0), none, none, some (.lload 9, 2, 0, 0, 0), none, some (.goto 5, 3, 0, 0, 0), none, none, some (.lload 7, 2, 0, 0, 0), none, some (.ladd, 1, 0, 0, 0)],
  [some (.lstore 4, 2, 0, 0, 0), none, some (.iinc 6 1, 3, 0, 0, 0), none, none, some (.goto (-102), 3, 0, 0, 0), none, none, some (.iload_n 2, 1, 0, 0, 0), some (.iconst 1, 1, 0, 0, 0), some (.if_icmp .ne 7, 3, 0, 0, 0), none, none, some (.iload_n 3, 1, 0, 0, 0), some (.goto 13, 3, 0, 0, 0)],
  [none, some (.lload 4, 2, 0, 0, 0), none, some (.iload_n 1, 1, 0, 0, 0), some (.iconst 1, 1, 0, 0, 0), some (.isub, 1, 0, 0, 0), some (.invokestatic 432, 3, 207, 0, 1560), none, none, some (.ldiv, 1, 0, 0, 0), some (.l2i, 1, 0, 0, 0), some (.ireturn, 1, 0, 0, 0)]], 2, 2, 1, 10)
/-- FallMarketModel.shakes(II)I -/
def jm_M216 : jm_M := (⟨"FallMarketModel", "shakes", "(II)I"⟩, prog_12_method_86_code, 4, some .int, [[some (.aload_n 0, 1, 0, 0, 0), some (.iload_n 1, 1, 0, 0, 0), some (.invokevirtual 398, 3, 169, 0, 1404), none, none, some (.ifCond .eq 13, 3, 0, 0, 0), none, none, some (.iload_n 2, 1, 0, 0, 0), some (.iconst 0, 1, 0, 0, 0), some (.bipush 100, 2, 0, 0, 0), none, some (.invokestatic 319, 3, 167, 0, 1408), none, none, some (.ifCond .ne 5, 3, 0, 0, 0)],
  [none, none, some (.iconst (-1), 1, 0, 0, 0), some (.ireturn, 1, 0, 0, 0), some (.aload_n 0, 1, 0, 0, 0), some (.getfield 113, 3, 10, 49, 1123), none, none, some (.bipush 14, 2, 0, 0, 0), none, some (.iload_n 1, 1, 0, 0, 0), some (.iadd, 1, 0, 0, 0), some (.iaload, 1, 0, 0, 0), some (.ifCond .eq 6, 3, 0, 0, 0)],
  [some (.bipush (-2), 2, 0, 0, 0), none, some (.ireturn, 1, 0, 0, 0), some (.aload_n 0, 1, 0, 0, 0), some (.invokevirtual 407, 3, 173, 0, 1423), none, none, some (.iconst 0, 1, 0, 0, 0), some (.istore_n 3, 1, 0, 0, 0), some (.iload_n 3, 1, 0, 0, 0), some (.bipush 20, 2, 0, 0, 0), none, some (.if_icmp .gt 36, 3, 0, 0, 0), none, none, some (.aload_n 0, 1, 0, 0, 0)],
  [some (.iconst 2, 1, 0, 0, 0), some (.iload_n 1, 1, 0, 0, 0), some (.aload_n 0, 1, 0, 0, 0), some (.getfield 116, 3, 10, 50, 1124), none, none, some (.bipush 42, 2, 0, 0, 0), none, some (.iload_n 1, 1, 0, 0, 0), some (.iadd, 1, 0, 0, 0), some (.iaload, 1, 0, 0, 0), some (.iload_n 3, 1, 0, 0, 0), some (.iadd, 1, 0, 0, 0), some (.aload_n 0, 1, 0, 0, 0), some (.invokevirtual 410, 3, 198, 0, 1427)],
  [none, some (.invokevirtual 413, 3, 197, 0, 1465), none, none, some (.iload_n 2, 1, 0, 0, 0), some (.if_icmp .lt 5, 3, 0, 0, 0), none, none, some (.iload_n 3, 1, 0, 0, 0), some (.ireturn, 1, 0, 0, 0), some (.iinc 3 1, 3, 0, 0, 0), none, none, some (.goto (-36), 3, 0, 0, 0)],
  [some (.bipush (-2), 2, 0, 0, 0), none, some (.ireturn, 1, 0, 0, 0)]], 2, 2, 1, 10)
/-- FallMarketModel.passes(II)I -/
def jm_M217 : jm_M := (⟨"FallMarketModel", "passes", "(II)I"⟩, prog_12_method_87_code, 5, some .int, [[some (.aload_n 0, 1, 0, 0, 0), some (.iload_n 1, 1, 0, 0, 0), some (.invokevirtual 398, 3, 169, 0, 1404), none, none, some (.ifCond .eq 13, 3, 0, 0, 0), none, none, some (.iload_n 2, 1, 0, 0, 0), some (.iconst 0, 1, 0, 0, 0), some (.bipush 20, 2, 0, 0, 0), none, some (.invokestatic 319, 3, 167, 0, 1408), none, none, some (.ifCond .ne 5, 3, 0, 0, 0)],
  [none, none, some (.iconst (-1), 1, 0, 0, 0), some (.ireturn, 1, 0, 0, 0), some (.aload_n 0, 1, 0, 0, 0), some (.getfield 113, 3, 10, 49, 1123), none, none, some (.bipush 14, 2, 0, 0, 0), none, some (.iload_n 1, 1, 0, 0, 0), some (.iadd, 1, 0, 0, 0), some (.iaload, 1, 0, 0, 0), some (.ifCond .eq 6, 3, 0, 0, 0)],
  [some (.bipush (-2), 2, 0, 0, 0), none, some (.ireturn, 1, 0, 0, 0), some (.aload_n 0, 1, 0, 0, 0), some (.invokevirtual 407, 3, 173, 0, 1423), none, none, some (.aload_n 0, 1, 0, 0, 0), some (.iconst 2, 1, 0, 0, 0), some (.iload_n 1, 1, 0, 0, 0), some (.iload_n 2, 1, 0, 0, 0), some (.aload_n 0, 1, 0, 0, 0), some (.invokevirtual 410, 3, 198, 0, 1427), none, none, some (.invokevirtual 413, 3, 197, 0, 1465)],
  [none, none, some (.istore_n 3, 1, 0, 0, 0), some (.iconst 0, 1, 0, 0, 0), some (.istore 4, 2, 0, 0, 0), none, some (.iload 4, 2, 0, 0, 0), none, some (.bipush 9, 2, 0, 0, 0), none, some (.if_icmp .gt 25, 3, 0, 0, 0), none, none, some (.aload_n 0, 1, 0, 0, 0), some (.iconst 2, 1, 0, 0, 0), some (.iload_n 1, 1, 0, 0, 0)],
  [some (.iconst 0, 1, 0, 0, 0), some (.iload 4, 2, 0, 0, 0), none, some (.invokevirtual 413, 3, 197, 0, 1465), none, none, some (.iload_n 3, 1, 0, 0, 0), some (.if_icmp .lt 6, 3, 0, 0, 0), none, none, some (.iload 4, 2, 0, 0, 0), none, some (.ireturn, 1, 0, 0, 0), some (.iinc 4 1, 3, 0, 0, 0)],
  [some (.goto (-26), 3, 0, 0, 0), none, none, some (.bipush (-2), 2, 0, 0, 0), none, some (.ireturn, 1, 0, 0, 0)]], 2, 2, 1, 10)
/-- FallMarketModel.isLong(I)Z -/
def jm_M218 : jm_M := (⟨"FallMarketModel", "isLong", "(I)Z"⟩, prog_12_method_88_code, 1, some .boolean, [[some (.iload_n 0, 1, 0, 0, 0), some (.iconst 0, 1, 0, 0, 0), some (.bipush 60, 2, 0, 0, 0), none, some (.invokestatic 319, 3, 167, 0, 1408), none, none, some (.ireturn, 1, 0, 0, 0)]], 2, 1, 0, 10)
/-- FallMarketModel.windIn(I)I -/
def jm_M219 : jm_M := (⟨"FallMarketModel", "windIn", "(I)I"⟩, prog_12_method_89_code, 2, some .int, [[some (.iload_n 1, 1, 0, 0, 0), some (.invokestatic 449, 3, 218, 0, 1600), none, none, some (.ifCond .ne 5, 3, 0, 0, 0), none, none, some (.iconst (-1), 1, 0, 0, 0), some (.ireturn, 1, 0, 0, 0), some (.aload_n 0, 1, 0, 0, 0), some (.invokevirtual 407, 3, 173, 0, 1423), none, none, some (.aload_n 0, 1, 0, 0, 0), some (.aload_n 0, 1, 0, 0, 0), some (.getfield 116, 3, 10, 50, 1124)],
  [none, none, some (.bipush 57, 2, 0, 0, 0), none, some (.iaload, 1, 0, 0, 0), some (.iload_n 1, 1, 0, 0, 0), some (.iadd, 1, 0, 0, 0), some (.aload_n 0, 1, 0, 0, 0), some (.invokevirtual 404, 3, 196, 0, 1431), none, none, some (.invokevirtual 359, 3, 181, 0, 1442), none, none, some (.ireturn, 1, 0, 0, 0)]], 2, 1, 1, 10)
/-- FallMarketModel.next(Z)I -/
def jm_M220 : jm_M := (⟨"FallMarketModel", "next", "(Z)I"⟩, prog_12_method_90_code, 6, some .int, [[some (.aload_n 0, 1, 0, 0, 0), some (.invokevirtual 407, 3, 173, 0, 1423), none, none, some (.bipush (-2), 2, 0, 0, 0), none, some (.istore_n 2, 1, 0, 0, 0), some (.bipush (-2), 2, 0, 0, 0), none, some (.istore_n 3, 1, 0, 0, 0), some (.iconst 0, 1, 0, 0, 0), some (.istore 4, 2, 0, 0, 0), none, some (.iload 4, 2, 0, 0, 0), none, some (.aload_n 0, 1, 0, 0, 0)],
  [some (.getfield 43, 3, 10, 22, 1096), none, none, some (.aload_n 0, 1, 0, 0, 0), some (.getfield 239, 3, 10, 18, 1092), none, none, some (.iaload, 1, 0, 0, 0), some (.if_icmp .ge 63, 3, 0, 0, 0), none, none, some (.aload_n 0, 1, 0, 0, 0), some (.getfield 116, 3, 10, 50, 1124), none, none, some (.bipush 14, 2, 0, 0, 0)],
  [none, some (.iload 4, 2, 0, 0, 0), none, some (.iadd, 1, 0, 0, 0), some (.iaload, 1, 0, 0, 0), some (.ifCond .eq 6, 3, 0, 0, 0), none, none, some (.goto 41, 3, 0, 0, 0), none, none, some (.aload_n 0, 1, 0, 0, 0), some (.iconst 2, 1, 0, 0, 0), some (.iload 4, 2, 0, 0, 0), none, some (.aload_n 0, 1, 0, 0, 0)],
  [some (.getfield 116, 3, 10, 50, 1124), none, none, some (.bipush 42, 2, 0, 0, 0), none, some (.iload 4, 2, 0, 0, 0), none, some (.iadd, 1, 0, 0, 0), some (.iaload, 1, 0, 0, 0), some (.aload_n 0, 1, 0, 0, 0), some (.invokevirtual 410, 3, 198, 0, 1427), none, none, some (.invokevirtual 413, 3, 197, 0, 1465)],
  [some (.istore 5, 2, 0, 0, 0), none, some (.iload 5, 2, 0, 0, 0), none, some (.iload_n 3, 1, 0, 0, 0), some (.if_icmp .gt 6, 3, 0, 0, 0), none, none, some (.goto 9, 3, 0, 0, 0), none, none, some (.iload 4, 2, 0, 0, 0), none, some (.istore_n 2, 1, 0, 0, 0), some (.iload 5, 2, 0, 0, 0)],
  [some (.istore_n 3, 1, 0, 0, 0), some (.iinc 4 1, 3, 0, 0, 0), none, none, some (.goto (-71), 3, 0, 0, 0), none, none, some (.iload_n 1, 1, 0, 0, 0), some (.ifCond .eq 7, 3, 0, 0, 0), none, none, some (.iload_n 3, 1, 0, 0, 0), some (.goto 4, 3, 0, 0, 0), none, none, some (.iload_n 2, 1, 0, 0, 0)],
  [some (.ireturn, 1, 0, 0, 0)]], 2, 1, 1, 10)
/-- FallMarketModel.catcher(I)I -/
def jm_M221 : jm_M := (⟨"FallMarketModel", "catcher", "(I)I"⟩, prog_12_method_91_code, 2, some .int, [[some (.aload_n 0, 1, 0, 0, 0), some (.iload_n 1, 1, 0, 0, 0), some (.invokevirtual 398, 3, 169, 0, 1404), none, none, some (.ifCond .ne 5, 3, 0, 0, 0), none, none, some (.iconst (-1), 1, 0, 0, 0), some (.ireturn, 1, 0, 0, 0), some (.aload_n 0, 1, 0, 0, 0), some (.invokevirtual 407, 3, 173, 0, 1423), none, none, some (.aload_n 0, 1, 0, 0, 0), some (.iload_n 1, 1, 0, 0, 0)],
  [some (.aload_n 0, 1, 0, 0, 0), some (.iload_n 1, 1, 0, 0, 0), some (.aload_n 0, 1, 0, 0, 0), some (.getfield 116, 3, 10, 50, 1124), none, none, some (.bipush 7, 2, 0, 0, 0), none, some (.iload_n 1, 1, 0, 0, 0), some (.iadd, 1, 0, 0, 0), some (.iaload, 1, 0, 0, 0), some (.iconst 0, 1, 0, 0, 0), some (.aload_n 0, 1, 0, 0, 0), some (.getfield 116, 3, 10, 50, 1124)],
  [some (.bipush 57, 2, 0, 0, 0), none, some (.iaload, 1, 0, 0, 0), some (.aload_n 0, 1, 0, 0, 0), some (.invokevirtual 404, 3, 196, 0, 1431), none, none, some (.invokevirtual 362, 3, 183, 0, 1477), none, none, some (.invokevirtual 383, 3, 187, 0, 1538), none, none, some (.ireturn, 1, 0, 0, 0)]], 2, 1, 1, 10)
/-- FallMarketModel.then(III)I -/
def jm_M222 : jm_M := (⟨"FallMarketModel", "then", "(III)I"⟩, prog_12_method_92_code, 4, some .int, [[some (.aload_n 0, 1, 0, 0, 0), some (.iload_n 1, 1, 0, 0, 0), some (.invokevirtual 398, 3, 169, 0, 1404), none, none, some (.ifCond .eq 19, 3, 0, 0, 0), none, none, some (.iload_n 2, 1, 0, 0, 0), some (.invokestatic 449, 3, 218, 0, 1600), none, none, some (.ifCond .eq 12, 3, 0, 0, 0), none, none, some (.iload_n 3, 1, 0, 0, 0)],
  [some (.iconst 0, 1, 0, 0, 0), some (.iconst 1, 1, 0, 0, 0), some (.invokestatic 319, 3, 167, 0, 1408), none, none, some (.ifCond .ne 5, 3, 0, 0, 0), none, none, some (.iconst (-1), 1, 0, 0, 0), some (.ireturn, 1, 0, 0, 0), some (.aload_n 0, 1, 0, 0, 0), some (.invokevirtual 407, 3, 173, 0, 1423), none, none, some (.aload_n 0, 1, 0, 0, 0), some (.iload_n 2, 1, 0, 0, 0)],
  [some (.invokevirtual 420, 3, 193, 0, 1514), none, none, some (.aload_n 0, 1, 0, 0, 0), some (.getfield 116, 3, 10, 50, 1124), none, none, some (.bipush 14, 2, 0, 0, 0), none, some (.bipush 7, 2, 0, 0, 0), none, some (.iload_n 3, 1, 0, 0, 0), some (.imul, 1, 0, 0, 0), some (.iadd, 1, 0, 0, 0), some (.iload_n 1, 1, 0, 0, 0), some (.iadd, 1, 0, 0, 0)],
  [some (.iaload, 1, 0, 0, 0), some (.ireturn, 1, 0, 0, 0)]], 2, 3, 1, 10)
/-- FallMarketModel.paid(II)I -/
def jm_M223 : jm_M := (⟨"FallMarketModel", "paid", "(II)I"⟩, prog_12_method_93_code, 3, some .int, [[some (.aload_n 0, 1, 0, 0, 0), some (.iload_n 1, 1, 0, 0, 0), some (.invokevirtual 401, 3, 170, 0, 1415), none, none, some (.ifCond .eq 10, 3, 0, 0, 0), none, none, some (.iload_n 2, 1, 0, 0, 0), some (.invokestatic 449, 3, 218, 0, 1600), none, none, some (.ifCond .ne 5, 3, 0, 0, 0), none, none, some (.iconst (-1), 1, 0, 0, 0)],
  [some (.ireturn, 1, 0, 0, 0), some (.aload_n 0, 1, 0, 0, 0), some (.invokevirtual 407, 3, 173, 0, 1423), none, none, some (.aload_n 0, 1, 0, 0, 0), some (.iload_n 2, 1, 0, 0, 0), some (.invokevirtual 420, 3, 193, 0, 1514), none, none, some (.aload_n 0, 1, 0, 0, 0), some (.getfield 113, 3, 10, 49, 1123), none, none, some (.bipush 53, 2, 0, 0, 0)],
  [some (.iload_n 1, 1, 0, 0, 0), some (.iadd, 1, 0, 0, 0), some (.iaload, 1, 0, 0, 0), some (.aload_n 0, 1, 0, 0, 0), some (.getfield 116, 3, 10, 50, 1124), none, none, some (.bipush 53, 2, 0, 0, 0), none, some (.iload_n 1, 1, 0, 0, 0), some (.iadd, 1, 0, 0, 0), some (.iaload, 1, 0, 0, 0), some (.isub, 1, 0, 0, 0), some (.ireturn, 1, 0, 0, 0)]], 2, 2, 1, 10)
/-- FallMarketModel.much(II)I -/
def jm_M224 : jm_M := (⟨"FallMarketModel", "much", "(II)I"⟩, prog_12_method_94_code, 3, some .int, [[some (.iload_n 1, 1, 0, 0, 0), some (.invokestatic 449, 3, 218, 0, 1600), none, none, some (.ifCond .eq 12, 3, 0, 0, 0), none, none, some (.iload_n 2, 1, 0, 0, 0), some (.iconst 0, 1, 0, 0, 0), some (.iconst 3, 1, 0, 0, 0), some (.invokestatic 319, 3, 167, 0, 1408), none, none, some (.ifCond .ne 5, 3, 0, 0, 0)],
  [some (.iconst (-1), 1, 0, 0, 0), some (.ireturn, 1, 0, 0, 0), some (.aload_n 0, 1, 0, 0, 0), some (.invokevirtual 407, 3, 173, 0, 1423), none, none, some (.aload_n 0, 1, 0, 0, 0), some (.iload_n 1, 1, 0, 0, 0), some (.invokevirtual 420, 3, 193, 0, 1514), none, none, some (.aload_n 0, 1, 0, 0, 0), some (.iload_n 2, 1, 0, 0, 0), some (.invokevirtual 353, 3, 176, 0, 1435)],
  [some (.invokestatic 356, 3, 177, 0, 1439), none, none, some (.ireturn, 1, 0, 0, 0)]], 2, 2, 1, 10)
/-- FallMarketModel.last(I)I -/
def jm_M225 : jm_M := (⟨"FallMarketModel", "last", "(I)I"⟩, prog_12_method_95_code, 7, some .int, [[some (.iload_n 1, 1, 0, 0, 0), some (.iconst 0, 1, 0, 0, 0), some (.iconst 1, 1, 0, 0, 0), some (.invokestatic 319, 3, 167, 0, 1408), none, none, some (.ifCond .ne 5, 3, 0, 0, 0), none, none, some (.iconst (-1), 1, 0, 0, 0), some (.ireturn, 1, 0, 0, 0), some (.aload_n 0, 1, 0, 0, 0), some (.invokevirtual 407, 3, 173, 0, 1423), none, none, some (.bipush (-2), 2, 0, 0, 0)],
  [none, some (.istore_n 2, 1, 0, 0, 0), some (.bipush (-2), 2, 0, 0, 0), none, some (.istore_n 3, 1, 0, 0, 0), some (.iconst 1, 1, 0, 0, 0), some (.istore 4, 2, 0, 0, 0), none, some (.iload 4, 2, 0, 0, 0), none, some (.sipush 200, 3, 0, 0, 0), none, none, some (.if_icmp .gt 75, 3, 0, 0, 0)],
  [some (.aload_n 0, 1, 0, 0, 0), some (.iconst 0, 1, 0, 0, 0), some (.invokevirtual 353, 3, 176, 0, 1435), none, none, some (.istore 5, 2, 0, 0, 0), none, some (.aload_n 0, 1, 0, 0, 0), some (.invokevirtual 395, 3, 192, 0, 1518), none, none, some (.iconst 0, 1, 0, 0, 0), some (.istore 6, 2, 0, 0, 0), none, some (.iload 6, 2, 0, 0, 0)],
  [some (.aload_n 0, 1, 0, 0, 0), some (.getfield 43, 3, 10, 22, 1096), none, none, some (.aload_n 0, 1, 0, 0, 0), some (.getfield 239, 3, 10, 18, 1092), none, none, some (.iaload, 1, 0, 0, 0), some (.if_icmp .ge 41, 3, 0, 0, 0), none, none, some (.iload 5, 2, 0, 0, 0), none, some (.iload 6, 2, 0, 0, 0)],
  [some (.ishr, 1, 0, 0, 0), some (.iconst 1, 1, 0, 0, 0), some (.iand, 1, 0, 0, 0), some (.ifCond .eq 25, 3, 0, 0, 0), none, none, some (.aload_n 0, 1, 0, 0, 0), some (.getfield 116, 3, 10, 50, 1124), none, none, some (.bipush 14, 2, 0, 0, 0), none, some (.iload 6, 2, 0, 0, 0), none, some (.iadd, 1, 0, 0, 0), some (.iaload, 1, 0, 0, 0)],
  [some (.ifCond .ne 6, 3, 0, 0, 0), none, none, some (.goto 9, 3, 0, 0, 0), none, none, some (.iload 6, 2, 0, 0, 0), none, some (.istore_n 2, 1, 0, 0, 0), some (.iload 4, 2, 0, 0, 0), none, some (.istore_n 3, 1, 0, 0, 0), some (.iinc 6 1, 3, 0, 0, 0), none, none, some (.goto (-49), 3, 0, 0, 0)],
  [none, none, some (.iinc 4 1, 3, 0, 0, 0), none, none, some (.goto (-77), 3, 0, 0, 0), none, none, some (.aload_n 0, 1, 0, 0, 0), some (.invokevirtual 404, 3, 196, 0, 1431), none, none, some (.ifCond .le 6, 3, 0, 0, 0), none, none, some (.bipush (-2), 2, 0, 0, 0)],
  [none, some (.ireturn, 1, 0, 0, 0), some (.iload_n 1, 1, 0, 0, 0), some (.ifCond .ne 7, 3, 0, 0, 0), none, none, some (.iload_n 2, 1, 0, 0, 0), some (.goto 4, 3, 0, 0, 0), none, none, some (.iload_n 3, 1, 0, 0, 0), some (.ireturn, 1, 0, 0, 0)]], 2, 1, 1, 10)
/-- FallMarketModel.asleep()I -/
def jm_M226 : jm_M := (⟨"FallMarketModel", "asleep", "()I"⟩, prog_12_method_96_code, 2, some .int, [[some (.aload_n 0, 1, 0, 0, 0), some (.invokevirtual 407, 3, 173, 0, 1423), none, none, some (.iconst 0, 1, 0, 0, 0), some (.istore_n 1, 1, 0, 0, 0), some (.iload_n 1, 1, 0, 0, 0), some (.sipush 200, 3, 0, 0, 0), none, none, some (.if_icmp .gt 22, 3, 0, 0, 0), none, none, some (.aload_n 0, 1, 0, 0, 0), some (.invokevirtual 395, 3, 192, 0, 1518)],
  [none, some (.aload_n 0, 1, 0, 0, 0), some (.getfield 380, 3, 10, 56, 1130), none, none, some (.ifCond .ne 5, 3, 0, 0, 0), none, none, some (.iload_n 1, 1, 0, 0, 0), some (.ireturn, 1, 0, 0, 0), some (.iinc 1 1, 3, 0, 0, 0), none, none, some (.goto (-23), 3, 0, 0, 0)],
  [some (.bipush (-2), 2, 0, 0, 0), none, some (.ireturn, 1, 0, 0, 0)]], 2, 0, 1, 10)
/-- FallMarketModel.year(IIII)I -/
def jm_M227 : jm_M := (⟨"FallMarketModel", "year", "(IIII)I"⟩, prog_12_method_97_code, 7, some .int, [[some (.aload_n 0, 1, 0, 0, 0), some (.iload_n 1, 1, 0, 0, 0), some (.invokevirtual 401, 3, 170, 0, 1415), none, none, some (.ifCond .eq 29, 3, 0, 0, 0), none, none, some (.aload_n 0, 1, 0, 0, 0), some (.iload_n 2, 1, 0, 0, 0), some (.invokevirtual 398, 3, 169, 0, 1404), none, none, some (.ifCond .eq 21, 3, 0, 0, 0)],
  [some (.iload_n 3, 1, 0, 0, 0), some (.invokestatic 449, 3, 218, 0, 1600), none, none, some (.ifCond .eq 14, 3, 0, 0, 0), none, none, some (.iload 4, 2, 0, 0, 0), none, some (.iconst 1, 1, 0, 0, 0), some (.bipush 20, 2, 0, 0, 0), none, some (.invokestatic 319, 3, 167, 0, 1408), none, none, some (.ifCond .ne 5, 3, 0, 0, 0)],
  [none, none, some (.iconst (-1), 1, 0, 0, 0), some (.ireturn, 1, 0, 0, 0), some (.iconst 0, 1, 0, 0, 0), some (.istore 5, 2, 0, 0, 0), none, some (.iconst 0, 1, 0, 0, 0), some (.istore 6, 2, 0, 0, 0), none, some (.iload 6, 2, 0, 0, 0), none, some (.iload 4, 2, 0, 0, 0), none, some (.if_icmp .ge 45, 3, 0, 0, 0)],
  [none, some (.aload_n 0, 1, 0, 0, 0), some (.invokevirtual 407, 3, 173, 0, 1423), none, none, some (.aload_n 0, 1, 0, 0, 0), some (.dup, 1, 0, 0, 0), some (.getfield 323, 3, 10, 51, 1125), none, none, some (.iload 6, 2, 0, 0, 0), none, some (.iadd, 1, 0, 0, 0), some (.putfield 323, 3, 10, 51, 1125)],
  [some (.aload_n 0, 1, 0, 0, 0), some (.iload_n 3, 1, 0, 0, 0), some (.invokevirtual 420, 3, 193, 0, 1514), none, none, some (.aload_n 0, 1, 0, 0, 0), some (.getfield 116, 3, 10, 50, 1124), none, none, some (.bipush 21, 2, 0, 0, 0), none, some (.iload_n 2, 1, 0, 0, 0), some (.iadd, 1, 0, 0, 0), some (.iaload, 1, 0, 0, 0), some (.iload_n 1, 1, 0, 0, 0), some (.if_icmp .ne 6, 3, 0, 0, 0)],
  [none, none, some (.iinc 5 1, 3, 0, 0, 0), none, none, some (.iinc 6 1, 3, 0, 0, 0), none, none, some (.goto (-46), 3, 0, 0, 0), none, none, some (.iload 5, 2, 0, 0, 0), none, some (.ireturn, 1, 0, 0, 0)]], 2, 4, 1, 10)
/-- FallMarketModel.tell(II)I -/
def jm_M228 : jm_M := (⟨"FallMarketModel", "tell", "(II)I"⟩, prog_12_method_98_code, 3, some .int, [[some (.aload_n 0, 1, 0, 0, 0), some (.getfield 260, 3, 10, 61, 1135), none, none, some (.bipush 7, 2, 0, 0, 0), none, some (.if_icmp .eq 23, 3, 0, 0, 0), none, none, some (.iload_n 1, 1, 0, 0, 0), some (.iconst 1, 1, 0, 0, 0), some (.bipush 9, 2, 0, 0, 0), none, some (.invokestatic 319, 3, 167, 0, 1408)],
  [some (.ifCond .eq 13, 3, 0, 0, 0), none, none, some (.iload_n 2, 1, 0, 0, 0), some (.iconst 0, 1, 0, 0, 0), some (.bipush 9, 2, 0, 0, 0), none, some (.invokestatic 319, 3, 167, 0, 1408), none, none, some (.ifCond .ne 5, 3, 0, 0, 0), none, none, some (.iconst (-1), 1, 0, 0, 0), some (.ireturn, 1, 0, 0, 0), some (.aload_n 0, 1, 0, 0, 0)],
  [some (.getfield 140, 3, 10, 62, 1136), none, none, some (.aload_n 0, 1, 0, 0, 0), some (.getfield 260, 3, 10, 61, 1135), none, none, some (.iload_n 1, 1, 0, 0, 0), some (.iastore, 1, 0, 0, 0), some (.aload_n 0, 1, 0, 0, 0), some (.getfield 143, 3, 10, 63, 1137), none, none, some (.aload_n 0, 1, 0, 0, 0), some (.getfield 260, 3, 10, 61, 1135)],
  [none, some (.iload_n 2, 1, 0, 0, 0), some (.iastore, 1, 0, 0, 0), some (.aload_n 0, 1, 0, 0, 0), some (.dup, 1, 0, 0, 0), some (.getfield 260, 3, 10, 61, 1135), none, none, some (.iconst 1, 1, 0, 0, 0), some (.iadd, 1, 0, 0, 0), some (.putfield 260, 3, 10, 61, 1135), none, none, some (.aload_n 0, 1, 0, 0, 0), some (.getfield 260, 3, 10, 61, 1135)],
  [none, some (.iconst 1, 1, 0, 0, 0), some (.isub, 1, 0, 0, 0), some (.ireturn, 1, 0, 0, 0)]], 2, 2, 1, 10)
/-- FallMarketModel.forget()I -/
def jm_M229 : jm_M := (⟨"FallMarketModel", "forget", "()I"⟩, prog_12_method_99_code, 2, some .int, [[some (.aload_n 0, 1, 0, 0, 0), some (.getfield 260, 3, 10, 61, 1135), none, none, some (.istore_n 1, 1, 0, 0, 0), some (.aload_n 0, 1, 0, 0, 0), some (.iconst 0, 1, 0, 0, 0), some (.putfield 260, 3, 10, 61, 1135), none, none, some (.iload_n 1, 1, 0, 0, 0), some (.ireturn, 1, 0, 0, 0)]], 2, 0, 1, 10)
/-- FallMarketModel.sevens(I)I -/
def jm_M230 : jm_M := (⟨"FallMarketModel", "sevens", "(I)I"⟩, prog_12_method_100_code, 3, some .int, [[some (.iconst 1, 1, 0, 0, 0), some (.istore_n 1, 1, 0, 0, 0), some (.iconst 0, 1, 0, 0, 0), some (.istore_n 2, 1, 0, 0, 0), some (.iload_n 2, 1, 0, 0, 0), some (.iload_n 0, 1, 0, 0, 0), some (.if_icmp .ge 14, 3, 0, 0, 0), none, none, some (.iload_n 1, 1, 0, 0, 0), some (.bipush 7, 2, 0, 0, 0), none, some (.imul, 1, 0, 0, 0), some (.istore_n 1, 1, 0, 0, 0), some (.iinc 2 1, 3, 0, 0, 0)],
  [none, some (.goto (-13), 3, 0, 0, 0), none, none, some (.iload_n 1, 1, 0, 0, 0), some (.ireturn, 1, 0, 0, 0)]], 2, 1, 0, 10)
/-- FallMarketModel.isRow(II)Z -/
def jm_M231 : jm_M := (⟨"FallMarketModel", "isRow", "(II)Z"⟩, prog_12_method_101_code, 6, some .boolean, [[some (.iconst 0, 1, 0, 0, 0), some (.istore_n 3, 1, 0, 0, 0), some (.iconst 0, 1, 0, 0, 0), some (.istore 4, 2, 0, 0, 0), none, some (.iload 4, 2, 0, 0, 0), none, some (.iload_n 2, 1, 0, 0, 0), some (.if_icmp .ge 95, 3, 0, 0, 0), none, none, some (.iload_n 1, 1, 0, 0, 0), some (.iload_n 2, 1, 0, 0, 0), some (.iconst 1, 1, 0, 0, 0), some (.isub, 1, 0, 0, 0), some (.iload 4, 2, 0, 0, 0)],
  [none, some (.isub, 1, 0, 0, 0), some (.invokestatic 452, 3, 230, 0, 1651), none, none, some (.idiv, 1, 0, 0, 0), some (.bipush 7, 2, 0, 0, 0), none, some (.irem, 1, 0, 0, 0), some (.istore 5, 2, 0, 0, 0), none, some (.aload_n 0, 1, 0, 0, 0), some (.iload 5, 2, 0, 0, 0), none, some (.invokevirtual 398, 3, 169, 0, 1404)],
  [none, some (.ifCond .eq 55, 3, 0, 0, 0), none, none, some (.iload_n 3, 1, 0, 0, 0), some (.iload 5, 2, 0, 0, 0), none, some (.ishr, 1, 0, 0, 0), some (.iconst 1, 1, 0, 0, 0), some (.iand, 1, 0, 0, 0), some (.iconst 1, 1, 0, 0, 0), some (.if_icmp .eq 45, 3, 0, 0, 0), none, none, some (.aload_n 0, 1, 0, 0, 0), some (.getfield 49, 3, 10, 24, 1098)],
  [none, none, some (.bipush 7, 2, 0, 0, 0), none, some (.aload_n 0, 1, 0, 0, 0), some (.getfield 239, 3, 10, 18, 1092), none, none, some (.imul, 1, 0, 0, 0), some (.iload 5, 2, 0, 0, 0), none, some (.iadd, 1, 0, 0, 0), some (.iaload, 1, 0, 0, 0), some (.aload_n 0, 1, 0, 0, 0), some (.getfield 140, 3, 10, 62, 1136)],
  [none, some (.iload 4, 2, 0, 0, 0), none, some (.iaload, 1, 0, 0, 0), some (.if_icmp .ne 20, 3, 0, 0, 0), none, none, some (.aload_n 0, 1, 0, 0, 0), some (.getfield 146, 3, 10, 64, 1138), none, none, some (.iload 5, 2, 0, 0, 0), none, some (.iaload, 1, 0, 0, 0), some (.aload_n 0, 1, 0, 0, 0), some (.getfield 143, 3, 10, 63, 1137)],
  [none, none, some (.iload 4, 2, 0, 0, 0), none, some (.iaload, 1, 0, 0, 0), some (.if_icmp .eq 5, 3, 0, 0, 0), none, none, some (.iconst 0, 1, 0, 0, 0), some (.ireturn, 1, 0, 0, 0), some (.iload_n 3, 1, 0, 0, 0), some (.iconst 1, 1, 0, 0, 0), some (.iload 5, 2, 0, 0, 0), none, some (.ishl, 1, 0, 0, 0), some (.ior, 1, 0, 0, 0)],
  [some (.istore_n 3, 1, 0, 0, 0), some (.iinc 4 1, 3, 0, 0, 0), none, none, some (.goto (-95), 3, 0, 0, 0), none, none, some (.iconst 1, 1, 0, 0, 0), some (.ireturn, 1, 0, 0, 0)]], 2, 2, 1, 10)
def jm_M232_r0 : List (Option jm_I) := [some (.iconst 0, 1, 0, 0, 0), some (.istore_n 2, 1, 0, 0, 0), some (.iload_n 2, 1, 0, 0, 0), some (.aload_n 0, 1, 0, 0, 0), some (.getfield 43, 3, 10, 22, 1096), none, none, some (.aload_n 0, 1, 0, 0, 0), some (.getfield 239, 3, 10, 18, 1092), none, none, some (.iaload, 1, 0, 0, 0), some (.if_icmp .ge 65, 3, 0, 0, 0), none, none, some (.aload_n 0, 1, 0, 0, 0)]
def jm_M232_r1 : List (Option jm_I) := [some (.getfield 146, 3, 10, 64, 1138), none, none, some (.iload_n 2, 1, 0, 0, 0), some (.aload_n 0, 1, 0, 0, 0), some (.getfield 46, 3, 10, 23, 1097), none, none, some (.bipush 7, 2, 0, 0, 0), none, some (.aload_n 0, 1, 0, 0, 0), some (.getfield 239, 3, 10, 18, 1092), none, none, some (.imul, 1, 0, 0, 0), some (.iload_n 2, 1, 0, 0, 0)]
def jm_M232_r2 : List (Option jm_I) := [some (.iadd, 1, 0, 0, 0), some (.iaload, 1, 0, 0, 0), some (.aload_n 0, 1, 0, 0, 0), some (.iload_n 2, 1, 0, 0, 0), some (.aload_n 0, 1, 0, 0, 0), some (.getfield 52, 3, 10, 25, 1099), none, none, some (.bipush 7, 2, 0, 0, 0), none, some (.aload_n 0, 1, 0, 0, 0), some (.getfield 239, 3, 10, 18, 1092), none, none, some (.imul, 1, 0, 0, 0), some (.iload_n 2, 1, 0, 0, 0)]
def jm_M232_r3 : List (Option jm_I) := [some (.iadd, 1, 0, 0, 0), some (.iaload, 1, 0, 0, 0), some (.iconst 0, 1, 0, 0, 0), some (.aload_n 0, 1, 0, 0, 0), some (.getfield 43, 3, 10, 22, 1096), none, none, some (.aload_n 0, 1, 0, 0, 0), some (.getfield 239, 3, 10, 18, 1092), none, none, some (.iaload, 1, 0, 0, 0), some (.invokevirtual 373, 3, 184, 0, 1481), none, none, some (.iadd, 1, 0, 0, 0)]
def jm_M232_r4 : List (Option jm_I) := [some (.iconst 0, 1, 0, 0, 0), some (.bipush 9, 2, 0, 0, 0), none, some (.invokestatic 333, 3, 168, 0, 1462), none, none, some (.iastore, 1, 0, 0, 0), some (.iinc 2 1, 3, 0, 0, 0), none, none, some (.goto (-72), 3, 0, 0, 0), none, none, some (.iconst 0, 1, 0, 0, 0), some (.istore_n 2, 1, 0, 0, 0), some (.iload_n 2, 1, 0, 0, 0)]
def jm_M232_r5 : List (Option jm_I) := [some (.bipush 49, 2, 0, 0, 0), none, some (.if_icmp .ge 16, 3, 0, 0, 0), none, none, some (.aload_n 0, 1, 0, 0, 0), some (.getfield 149, 3, 10, 65, 1139), none, none, some (.iload_n 2, 1, 0, 0, 0), some (.iconst 0, 1, 0, 0, 0), some (.iastore, 1, 0, 0, 0), some (.iinc 2 1, 3, 0, 0, 0), none, none, some (.goto (-16), 3, 0, 0, 0)]
def jm_M232_r6 : List (Option jm_I) := [none, none, some (.aload_n 0, 1, 0, 0, 0), some (.iconst 0, 1, 0, 0, 0), some (.putfield 455, 3, 10, 66, 1140), none, none, some (.iconst 0, 1, 0, 0, 0), some (.istore_n 2, 1, 0, 0, 0), some (.iload_n 2, 1, 0, 0, 0), some (.iload_n 1, 1, 0, 0, 0), some (.invokestatic 452, 3, 230, 0, 1651), none, none, some (.if_icmp .ge 71, 3, 0, 0, 0)]
def jm_M232_r7 : List (Option jm_I) := [none, some (.aload_n 0, 1, 0, 0, 0), some (.iload_n 2, 1, 0, 0, 0), some (.iload_n 1, 1, 0, 0, 0), some (.invokevirtual 458, 3, 231, 0, 1654), none, none, some (.ifCond .ne 6, 3, 0, 0, 0), none, none, some (.goto 53, 3, 0, 0, 0), none, none, some (.aload_n 0, 1, 0, 0, 0), some (.dup, 1, 0, 0, 0), some (.getfield 455, 3, 10, 66, 1140)]
def jm_M232_r8 : List (Option jm_I) := [none, none, some (.iconst 1, 1, 0, 0, 0), some (.iadd, 1, 0, 0, 0), some (.putfield 455, 3, 10, 66, 1140), none, none, some (.iconst 0, 1, 0, 0, 0), some (.istore_n 3, 1, 0, 0, 0), some (.iload_n 3, 1, 0, 0, 0), some (.iload_n 1, 1, 0, 0, 0), some (.if_icmp .ge 36, 3, 0, 0, 0), none, none, some (.aload_n 0, 1, 0, 0, 0), some (.getfield 149, 3, 10, 65, 1139)]
def jm_M232_r9 : List (Option jm_I) := [none, none, some (.bipush 7, 2, 0, 0, 0), none, some (.iload_n 3, 1, 0, 0, 0), some (.imul, 1, 0, 0, 0), some (.iload_n 2, 1, 0, 0, 0), some (.iload_n 1, 1, 0, 0, 0), some (.iconst 1, 1, 0, 0, 0), some (.isub, 1, 0, 0, 0), some (.iload_n 3, 1, 0, 0, 0), some (.isub, 1, 0, 0, 0), some (.invokestatic 452, 3, 230, 0, 1651), none, none, some (.idiv, 1, 0, 0, 0)]
def jm_M232_r10 : List (Option jm_I) := [some (.bipush 7, 2, 0, 0, 0), none, some (.irem, 1, 0, 0, 0), some (.iadd, 1, 0, 0, 0), some (.dup2, 1, 0, 0, 0), some (.iaload, 1, 0, 0, 0), some (.iconst 1, 1, 0, 0, 0), some (.iadd, 1, 0, 0, 0), some (.iastore, 1, 0, 0, 0), some (.iinc 3 1, 3, 0, 0, 0), none, none, some (.goto (-35), 3, 0, 0, 0), none, none, some (.iinc 2 1, 3, 0, 0, 0)]
def jm_M232_r11 : List (Option jm_I) := [none, none, some (.goto (-73), 3, 0, 0, 0), none, none, some (.return_, 1, 0, 0, 0)]
/-- FallMarketModel.fillsRows(I)V -/
def jm_M232 : jm_M := (⟨"FallMarketModel", "fillsRows", "(I)V"⟩, prog_12_method_102_code, 4, none, [jm_M232_r0, jm_M232_r1, jm_M232_r2, jm_M232_r3, jm_M232_r4, jm_M232_r5, jm_M232_r6, jm_M232_r7, jm_M232_r8, jm_M232_r9, jm_M232_r10, jm_M232_r11], 2, 1, 1, 10)
/-- FallMarketModel.rows(I)I -/
def jm_M233 : jm_M := (⟨"FallMarketModel", "rows", "(I)I"⟩, prog_12_method_103_code, 2, some .int, [[some (.iload_n 1, 1, 0, 0, 0), some (.iconst 0, 1, 0, 0, 0), some (.aload_n 0, 1, 0, 0, 0), some (.getfield 260, 3, 10, 61, 1135), none, none, some (.invokestatic 319, 3, 167, 0, 1408), none, none, some (.ifCond .ne 5, 3, 0, 0, 0), none, none, some (.iconst (-1), 1, 0, 0, 0), some (.ireturn, 1, 0, 0, 0), some (.aload_n 0, 1, 0, 0, 0), some (.iload_n 1, 1, 0, 0, 0)],
  [some (.invokevirtual 461, 3, 232, 0, 1647), none, none, some (.aload_n 0, 1, 0, 0, 0), some (.getfield 455, 3, 10, 66, 1140), none, none, some (.ireturn, 1, 0, 0, 0)]], 2, 1, 1, 10)
/-- FallMarketModel.sure(II)I -/
def jm_M234 : jm_M := (⟨"FallMarketModel", "sure", "(II)I"⟩, prog_12_method_104_code, 4, some .int, [[some (.iload_n 1, 1, 0, 0, 0), some (.iconst 0, 1, 0, 0, 0), some (.aload_n 0, 1, 0, 0, 0), some (.getfield 260, 3, 10, 61, 1135), none, none, some (.invokestatic 319, 3, 167, 0, 1408), none, none, some (.ifCond .eq 14, 3, 0, 0, 0), none, none, some (.iload_n 2, 1, 0, 0, 0), some (.iconst 0, 1, 0, 0, 0), some (.iload_n 1, 1, 0, 0, 0), some (.iconst 1, 1, 0, 0, 0)],
  [some (.isub, 1, 0, 0, 0), some (.invokestatic 319, 3, 167, 0, 1408), none, none, some (.ifCond .ne 5, 3, 0, 0, 0), none, none, some (.iconst (-1), 1, 0, 0, 0), some (.ireturn, 1, 0, 0, 0), some (.aload_n 0, 1, 0, 0, 0), some (.iload_n 1, 1, 0, 0, 0), some (.invokevirtual 461, 3, 232, 0, 1647), none, none, some (.iconst 0, 1, 0, 0, 0), some (.istore_n 3, 1, 0, 0, 0)],
  [some (.iload_n 3, 1, 0, 0, 0), some (.bipush 7, 2, 0, 0, 0), none, some (.if_icmp .ge 36, 3, 0, 0, 0), none, none, some (.aload_n 0, 1, 0, 0, 0), some (.getfield 455, 3, 10, 66, 1140), none, none, some (.ifCond .le 23, 3, 0, 0, 0), none, none, some (.aload_n 0, 1, 0, 0, 0), some (.getfield 149, 3, 10, 65, 1139)],
  [none, some (.bipush 7, 2, 0, 0, 0), none, some (.iload_n 2, 1, 0, 0, 0), some (.imul, 1, 0, 0, 0), some (.iload_n 3, 1, 0, 0, 0), some (.iadd, 1, 0, 0, 0), some (.iaload, 1, 0, 0, 0), some (.aload_n 0, 1, 0, 0, 0), some (.getfield 455, 3, 10, 66, 1140), none, none, some (.if_icmp .ne 5, 3, 0, 0, 0), none, none, some (.iload_n 3, 1, 0, 0, 0)],
  [some (.ireturn, 1, 0, 0, 0), some (.iinc 3 1, 3, 0, 0, 0), none, none, some (.goto (-36), 3, 0, 0, 0), none, none, some (.bipush (-2), 2, 0, 0, 0), none, some (.ireturn, 1, 0, 0, 0)]], 2, 2, 1, 10)
/-- FallMarketModel.ask(I)I -/
def jm_M235 : jm_M := (⟨"FallMarketModel", "ask", "(I)I"⟩, prog_12_method_105_code, 7, some .int, [[some (.iload_n 1, 1, 0, 0, 0), some (.iconst 0, 1, 0, 0, 0), some (.aload_n 0, 1, 0, 0, 0), some (.getfield 260, 3, 10, 61, 1135), none, none, some (.invokestatic 319, 3, 167, 0, 1408), none, none, some (.ifCond .ne 5, 3, 0, 0, 0), none, none, some (.iconst (-1), 1, 0, 0, 0), some (.ireturn, 1, 0, 0, 0), some (.aload_n 0, 1, 0, 0, 0), some (.iload_n 1, 1, 0, 0, 0)],
  [some (.invokevirtual 461, 3, 232, 0, 1647), none, none, some (.bipush (-2), 2, 0, 0, 0), none, some (.istore_n 2, 1, 0, 0, 0), some (.iconst 0, 1, 0, 0, 0), some (.istore_n 3, 1, 0, 0, 0), some (.iconst 0, 1, 0, 0, 0), some (.istore 4, 2, 0, 0, 0), none, some (.iload 4, 2, 0, 0, 0), none, some (.iload_n 1, 1, 0, 0, 0), some (.if_icmp .ge 87, 3, 0, 0, 0)],
  [none, some (.aload_n 0, 1, 0, 0, 0), some (.getfield 455, 3, 10, 66, 1140), none, none, some (.ifCond .le 80, 3, 0, 0, 0), none, none, some (.iconst 0, 1, 0, 0, 0), some (.istore 5, 2, 0, 0, 0), none, some (.iconst 0, 1, 0, 0, 0), some (.istore 6, 2, 0, 0, 0), none, some (.iload 6, 2, 0, 0, 0)],
  [some (.bipush 7, 2, 0, 0, 0), none, some (.if_icmp .ge 42, 3, 0, 0, 0), none, none, some (.aload_n 0, 1, 0, 0, 0), some (.getfield 149, 3, 10, 65, 1139), none, none, some (.bipush 7, 2, 0, 0, 0), none, some (.iload 4, 2, 0, 0, 0), none, some (.imul, 1, 0, 0, 0), some (.iload 6, 2, 0, 0, 0)],
  [some (.iadd, 1, 0, 0, 0), some (.iaload, 1, 0, 0, 0), some (.iload 5, 2, 0, 0, 0), none, some (.if_icmp .le 18, 3, 0, 0, 0), none, none, some (.aload_n 0, 1, 0, 0, 0), some (.getfield 149, 3, 10, 65, 1139), none, none, some (.bipush 7, 2, 0, 0, 0), none, some (.iload 4, 2, 0, 0, 0), none, some (.imul, 1, 0, 0, 0)],
  [some (.iload 6, 2, 0, 0, 0), none, some (.iadd, 1, 0, 0, 0), some (.iaload, 1, 0, 0, 0), some (.istore 5, 2, 0, 0, 0), none, some (.iinc 6 1, 3, 0, 0, 0), none, none, some (.goto (-43), 3, 0, 0, 0), none, none, some (.iload_n 2, 1, 0, 0, 0), some (.ifCond .lt 12, 3, 0, 0, 0)],
  [some (.iload 5, 2, 0, 0, 0), none, some (.iload_n 3, 1, 0, 0, 0), some (.if_icmp .lt 6, 3, 0, 0, 0), none, none, some (.goto 9, 3, 0, 0, 0), none, none, some (.iload 4, 2, 0, 0, 0), none, some (.istore_n 2, 1, 0, 0, 0), some (.iload 5, 2, 0, 0, 0), none, some (.istore_n 3, 1, 0, 0, 0), some (.iinc 4 1, 3, 0, 0, 0)],
  [none, none, some (.goto (-87), 3, 0, 0, 0), none, none, some (.iload_n 2, 1, 0, 0, 0), some (.ireturn, 1, 0, 0, 0)]], 2, 1, 1, 10)
/-- FallMarketModel.hold(I)Z -/
def jm_M236 : jm_M := (⟨"FallMarketModel", "hold", "(I)Z"⟩, prog_12_method_106_code, 3, some .boolean, [[some (.iload_n 1, 1, 0, 0, 0), some (.iconst 0, 1, 0, 0, 0), some (.iconst 2, 1, 0, 0, 0), some (.invokestatic 319, 3, 167, 0, 1408), none, none, some (.ifCond .ne 5, 3, 0, 0, 0), none, none, some (.iconst 0, 1, 0, 0, 0), some (.ireturn, 1, 0, 0, 0), some (.aload_n 0, 1, 0, 0, 0), some (.getfield 152, 3, 10, 67, 1141), none, none, some (.iload_n 1, 1, 0, 0, 0)],
  [some (.iconst 1, 1, 0, 0, 0), some (.bastore, 1, 0, 0, 0), some (.iconst 0, 1, 0, 0, 0), some (.istore_n 2, 1, 0, 0, 0), some (.iload_n 2, 1, 0, 0, 0), some (.bipush 61, 2, 0, 0, 0), none, some (.if_icmp .ge 26, 3, 0, 0, 0), none, none, some (.aload_n 0, 1, 0, 0, 0), some (.getfield 155, 3, 10, 68, 1142), none, none, some (.bipush 61, 2, 0, 0, 0)],
  [some (.iload_n 1, 1, 0, 0, 0), some (.imul, 1, 0, 0, 0), some (.iload_n 2, 1, 0, 0, 0), some (.iadd, 1, 0, 0, 0), some (.aload_n 0, 1, 0, 0, 0), some (.getfield 113, 3, 10, 49, 1123), none, none, some (.iload_n 2, 1, 0, 0, 0), some (.iaload, 1, 0, 0, 0), some (.iastore, 1, 0, 0, 0), some (.iinc 2 1, 3, 0, 0, 0), none, none, some (.goto (-26), 3, 0, 0, 0)],
  [none, some (.iconst 1, 1, 0, 0, 0), some (.ireturn, 1, 0, 0, 0)]], 2, 1, 1, 10)
/-- FallMarketModel.restore(I)Z -/
def jm_M237 : jm_M := (⟨"FallMarketModel", "restore", "(I)Z"⟩, prog_12_method_107_code, 3, some .boolean, [[some (.iload_n 1, 1, 0, 0, 0), some (.iconst 0, 1, 0, 0, 0), some (.iconst 2, 1, 0, 0, 0), some (.invokestatic 319, 3, 167, 0, 1408), none, none, some (.ifCond .eq 12, 3, 0, 0, 0), none, none, some (.aload_n 0, 1, 0, 0, 0), some (.getfield 152, 3, 10, 67, 1141), none, none, some (.iload_n 1, 1, 0, 0, 0), some (.baload, 1, 0, 0, 0), some (.ifCond .ne 5, 3, 0, 0, 0)],
  [none, none, some (.iconst 0, 1, 0, 0, 0), some (.ireturn, 1, 0, 0, 0), some (.iconst 0, 1, 0, 0, 0), some (.istore_n 2, 1, 0, 0, 0), some (.iload_n 2, 1, 0, 0, 0), some (.bipush 61, 2, 0, 0, 0), none, some (.if_icmp .ge 26, 3, 0, 0, 0), none, none, some (.aload_n 0, 1, 0, 0, 0), some (.getfield 113, 3, 10, 49, 1123)],
  [some (.iload_n 2, 1, 0, 0, 0), some (.aload_n 0, 1, 0, 0, 0), some (.getfield 155, 3, 10, 68, 1142), none, none, some (.bipush 61, 2, 0, 0, 0), none, some (.iload_n 1, 1, 0, 0, 0), some (.imul, 1, 0, 0, 0), some (.iload_n 2, 1, 0, 0, 0), some (.iadd, 1, 0, 0, 0), some (.iaload, 1, 0, 0, 0), some (.iastore, 1, 0, 0, 0), some (.iinc 2 1, 3, 0, 0, 0)],
  [some (.goto (-26), 3, 0, 0, 0), none, none, some (.aload_n 0, 1, 0, 0, 0), some (.iconst 0, 1, 0, 0, 0), some (.putfield 257, 3, 10, 57, 1131), none, none, some (.iconst 1, 1, 0, 0, 0), some (.ireturn, 1, 0, 0, 0)]], 2, 1, 1, 10)
def jm_M238_r0 : List (Option jm_I) := [some (.aload_n 0, 1, 0, 0, 0), some (.invokevirtual 407, 3, 173, 0, 1423), none, none, some (.iconst 0, 1, 0, 0, 0), some (.istore_n 2, 1, 0, 0, 0), some (.iload_n 1, 1, 0, 0, 0), some (.tableswitch 345 0 18 #[89, 99, 109, 117, 122, 122, 122, 122, 130, 135, 140, 145, 190, 190, 190, 200, 235, 289, 336], 89, 0, 0, 0)]
def jm_M238_r1 : List (Option jm_I) := []
def jm_M238_r2 : List (Option jm_I) := []
def jm_M238_r3 : List (Option jm_I) := []
def jm_M238_r4 : List (Option jm_I) := []
def jm_M238_r5 : List (Option jm_I) := []
def jm_M238_r6 : List (Option jm_I) := [some (.aload_n 0, 1, 0, 0, 0), some (.getfield 43, 3, 10, 22, 1096), none, none, some (.aload_n 0, 1, 0, 0, 0), some (.getfield 239, 3, 10, 18, 1092), none, none, some (.iaload, 1, 0, 0, 0), some (.ireturn, 1, 0, 0, 0), some (.aload_n 0, 1, 0, 0, 0), some (.getfield 55, 3, 10, 26, 1100), none, none, some (.aload_n 0, 1, 0, 0, 0), some (.getfield 239, 3, 10, 18, 1092)]
def jm_M238_r7 : List (Option jm_I) := [none, none, some (.iaload, 1, 0, 0, 0), some (.ireturn, 1, 0, 0, 0), some (.aload_n 0, 1, 0, 0, 0), some (.getfield 116, 3, 10, 50, 1124), none, none, some (.bipush 57, 2, 0, 0, 0), none, some (.iaload, 1, 0, 0, 0), some (.ireturn, 1, 0, 0, 0), some (.aload_n 0, 1, 0, 0, 0), some (.invokevirtual 410, 3, 198, 0, 1427)]
def jm_M238_r8 : List (Option jm_I) := [some (.ireturn, 1, 0, 0, 0), some (.aload_n 0, 1, 0, 0, 0), some (.iload_n 1, 1, 0, 0, 0), some (.iconst 4, 1, 0, 0, 0), some (.isub, 1, 0, 0, 0), some (.invokevirtual 353, 3, 176, 0, 1435), none, none, some (.ireturn, 1, 0, 0, 0), some (.aload_n 0, 1, 0, 0, 0), some (.getfield 172, 3, 10, 2, 1076), none, none, some (.ireturn, 1, 0, 0, 0), some (.aload_n 0, 1, 0, 0, 0), some (.getfield 257, 3, 10, 57, 1131)]
def jm_M238_r9 : List (Option jm_I) := [none, none, some (.ireturn, 1, 0, 0, 0), some (.aload_n 0, 1, 0, 0, 0), some (.getfield 260, 3, 10, 61, 1135), none, none, some (.ireturn, 1, 0, 0, 0), some (.aload_n 0, 1, 0, 0, 0), some (.getfield 152, 3, 10, 67, 1141), none, none, some (.iconst 0, 1, 0, 0, 0), some (.baload, 1, 0, 0, 0), some (.ifCond .eq 7, 3, 0, 0, 0)]
def jm_M238_r10 : List (Option jm_I) := [none, some (.iconst 1, 1, 0, 0, 0), some (.goto 4, 3, 0, 0, 0), none, none, some (.iconst 0, 1, 0, 0, 0), some (.aload_n 0, 1, 0, 0, 0), some (.getfield 152, 3, 10, 67, 1141), none, none, some (.iconst 1, 1, 0, 0, 0), some (.baload, 1, 0, 0, 0), some (.ifCond .eq 7, 3, 0, 0, 0), none, none, some (.iconst 1, 1, 0, 0, 0)]
def jm_M238_r11 : List (Option jm_I) := [some (.goto 4, 3, 0, 0, 0), none, none, some (.iconst 0, 1, 0, 0, 0), some (.iadd, 1, 0, 0, 0), some (.aload_n 0, 1, 0, 0, 0), some (.getfield 152, 3, 10, 67, 1141), none, none, some (.iconst 2, 1, 0, 0, 0), some (.baload, 1, 0, 0, 0), some (.ifCond .eq 7, 3, 0, 0, 0), none, none, some (.iconst 1, 1, 0, 0, 0), some (.goto 4, 3, 0, 0, 0)]
def jm_M238_r12 : List (Option jm_I) := [none, none, some (.iconst 0, 1, 0, 0, 0), some (.iadd, 1, 0, 0, 0), some (.ireturn, 1, 0, 0, 0), some (.aload_n 0, 1, 0, 0, 0), some (.getfield 116, 3, 10, 50, 1124), none, none, some (.bipush 46, 2, 0, 0, 0), none, some (.iload_n 1, 1, 0, 0, 0), some (.iadd, 1, 0, 0, 0), some (.iaload, 1, 0, 0, 0), some (.ireturn, 1, 0, 0, 0), some (.iconst 0, 1, 0, 0, 0)]
def jm_M238_r13 : List (Option jm_I) := [some (.istore_n 3, 1, 0, 0, 0), some (.iload_n 3, 1, 0, 0, 0), some (.aload_n 0, 1, 0, 0, 0), some (.getfield 55, 3, 10, 26, 1100), none, none, some (.aload_n 0, 1, 0, 0, 0), some (.getfield 239, 3, 10, 18, 1092), none, none, some (.iaload, 1, 0, 0, 0), some (.if_icmp .ge 21, 3, 0, 0, 0), none, none, some (.iload_n 2, 1, 0, 0, 0), some (.aload_n 0, 1, 0, 0, 0)]
def jm_M238_r14 : List (Option jm_I) := [some (.getfield 116, 3, 10, 50, 1124), none, none, some (.bipush 53, 2, 0, 0, 0), none, some (.iload_n 3, 1, 0, 0, 0), some (.iadd, 1, 0, 0, 0), some (.iaload, 1, 0, 0, 0), some (.iadd, 1, 0, 0, 0), some (.istore_n 2, 1, 0, 0, 0), some (.iinc 3 1, 3, 0, 0, 0), none, none, some (.goto (-28), 3, 0, 0, 0)]
def jm_M238_r15 : List (Option jm_I) := [some (.iload_n 2, 1, 0, 0, 0), some (.ireturn, 1, 0, 0, 0), some (.iconst 0, 1, 0, 0, 0), some (.istore_n 3, 1, 0, 0, 0), some (.iload_n 3, 1, 0, 0, 0), some (.aload_n 0, 1, 0, 0, 0), some (.getfield 43, 3, 10, 22, 1096), none, none, some (.aload_n 0, 1, 0, 0, 0), some (.getfield 239, 3, 10, 18, 1092), none, none, some (.iaload, 1, 0, 0, 0), some (.if_icmp .ge 40, 3, 0, 0, 0)]
def jm_M238_r16 : List (Option jm_I) := [none, some (.aload_n 0, 1, 0, 0, 0), some (.getfield 116, 3, 10, 50, 1124), none, none, some (.bipush 14, 2, 0, 0, 0), none, some (.iload_n 3, 1, 0, 0, 0), some (.iadd, 1, 0, 0, 0), some (.iaload, 1, 0, 0, 0), some (.ifCond .ne 22, 3, 0, 0, 0), none, none, some (.aload_n 0, 1, 0, 0, 0), some (.getfield 116, 3, 10, 50, 1124)]
def jm_M238_r17 : List (Option jm_I) := [none, some (.bipush 35, 2, 0, 0, 0), none, some (.iload_n 3, 1, 0, 0, 0), some (.iadd, 1, 0, 0, 0), some (.iaload, 1, 0, 0, 0), some (.iconst 1, 1, 0, 0, 0), some (.if_icmp .ne 9, 3, 0, 0, 0), none, none, some (.iload_n 2, 1, 0, 0, 0), some (.iconst 1, 1, 0, 0, 0), some (.iload_n 3, 1, 0, 0, 0), some (.ishl, 1, 0, 0, 0), some (.ior, 1, 0, 0, 0), some (.istore_n 2, 1, 0, 0, 0)]
def jm_M238_r18 : List (Option jm_I) := [some (.iinc 3 1, 3, 0, 0, 0), none, none, some (.goto (-47), 3, 0, 0, 0), none, none, some (.iload_n 2, 1, 0, 0, 0), some (.ireturn, 1, 0, 0, 0), some (.iconst 0, 1, 0, 0, 0), some (.istore_n 3, 1, 0, 0, 0), some (.iload_n 3, 1, 0, 0, 0), some (.aload_n 0, 1, 0, 0, 0), some (.getfield 43, 3, 10, 22, 1096), none, none, some (.aload_n 0, 1, 0, 0, 0)]
def jm_M238_r19 : List (Option jm_I) := [some (.getfield 239, 3, 10, 18, 1092), none, none, some (.iaload, 1, 0, 0, 0), some (.if_icmp .ge 33, 3, 0, 0, 0), none, none, some (.aload_n 0, 1, 0, 0, 0), some (.getfield 116, 3, 10, 50, 1124), none, none, some (.bipush 14, 2, 0, 0, 0), none, some (.iload_n 3, 1, 0, 0, 0), some (.iadd, 1, 0, 0, 0), some (.iaload, 1, 0, 0, 0)]
def jm_M238_r20 : List (Option jm_I) := [some (.ifCond .ne 15, 3, 0, 0, 0), none, none, some (.iload_n 2, 1, 0, 0, 0), some (.aload_n 0, 1, 0, 0, 0), some (.getfield 116, 3, 10, 50, 1124), none, none, some (.bipush 7, 2, 0, 0, 0), none, some (.iload_n 3, 1, 0, 0, 0), some (.iadd, 1, 0, 0, 0), some (.iaload, 1, 0, 0, 0), some (.iadd, 1, 0, 0, 0), some (.istore_n 2, 1, 0, 0, 0), some (.iinc 3 1, 3, 0, 0, 0)]
def jm_M238_r21 : List (Option jm_I) := [none, none, some (.goto (-40), 3, 0, 0, 0), none, none, some (.iload_n 2, 1, 0, 0, 0), some (.ireturn, 1, 0, 0, 0), some (.aload_n 0, 1, 0, 0, 0), some (.iconst 2, 1, 0, 0, 0), some (.invokevirtual 353, 3, 176, 0, 1435), none, none, some (.invokestatic 356, 3, 177, 0, 1439), none, none, some (.ireturn, 1, 0, 0, 0)]
def jm_M238_r22 : List (Option jm_I) := [some (.iconst (-1), 1, 0, 0, 0), some (.ireturn, 1, 0, 0, 0)]
/-- FallMarketModel.count(I)I -/
def jm_M238 : jm_M := (⟨"FallMarketModel", "count", "(I)I"⟩, prog_12_method_108_code, 4, some .int, [jm_M238_r0, jm_M238_r1, jm_M238_r2, jm_M238_r3, jm_M238_r4, jm_M238_r5, jm_M238_r6, jm_M238_r7, jm_M238_r8, jm_M238_r9, jm_M238_r10, jm_M238_r11, jm_M238_r12, jm_M238_r13, jm_M238_r14, jm_M238_r15, jm_M238_r16, jm_M238_r17, jm_M238_r18, jm_M238_r19, jm_M238_r20, jm_M238_r21, jm_M238_r22], 2, 1, 1, 10)
/-- java/lang/Integer.bitCount(I)I -/
def jm_M239 : jm_M := (⟨"java/lang/Integer", "bitCount", "(I)I"⟩, prog_13_method_49_code, 1, some .int, [[some (.iload_n 0, 1, 0, 0, 0), some (.iload_n 0, 1, 0, 0, 0), some (.iconst 1, 1, 0, 0, 0), some (.iushr, 1, 0, 0, 0), some (.ldc_w 265, 3, 1431655765, 0, 771), none, none, some (.iand, 1, 0, 0, 0), some (.isub, 1, 0, 0, 0), some (.istore_n 0, 1, 0, 0, 0), some (.iload_n 0, 1, 0, 0, 0), some (.ldc_w 266, 3, 858993459, 0, 772), none, none, some (.iand, 1, 0, 0, 0), some (.iload_n 0, 1, 0, 0, 0)],
  [some (.iconst 2, 1, 0, 0, 0), some (.iushr, 1, 0, 0, 0), some (.ldc_w 266, 3, 858993459, 0, 772), none, none, some (.iand, 1, 0, 0, 0), some (.iadd, 1, 0, 0, 0), some (.istore_n 0, 1, 0, 0, 0), some (.iload_n 0, 1, 0, 0, 0), some (.iload_n 0, 1, 0, 0, 0), some (.iconst 4, 1, 0, 0, 0), some (.iushr, 1, 0, 0, 0), some (.iadd, 1, 0, 0, 0), some (.ldc_w 267, 3, 252645135, 0, 773)],
  [some (.iand, 1, 0, 0, 0), some (.istore_n 0, 1, 0, 0, 0), some (.iload_n 0, 1, 0, 0, 0), some (.iload_n 0, 1, 0, 0, 0), some (.bipush 8, 2, 0, 0, 0), none, some (.iushr, 1, 0, 0, 0), some (.iadd, 1, 0, 0, 0), some (.istore_n 0, 1, 0, 0, 0), some (.iload_n 0, 1, 0, 0, 0), some (.iload_n 0, 1, 0, 0, 0), some (.bipush 16, 2, 0, 0, 0), none, some (.iushr, 1, 0, 0, 0), some (.iadd, 1, 0, 0, 0), some (.istore_n 0, 1, 0, 0, 0)],
  [some (.iload_n 0, 1, 0, 0, 0), some (.bipush 63, 2, 0, 0, 0), none, some (.iand, 1, 0, 0, 0), some (.ireturn, 1, 0, 0, 0)]], 1, 1, 0, 0)
/-- java/lang/Math.abs(I)I -/
def jm_M240 : jm_M := (⟨"java/lang/Math", "abs", "(I)I"⟩, prog_14_method_59_code, 1, some .int, [[some (.iload_n 0, 1, 0, 0, 0), some (.ifCond .ge 8, 3, 0, 0, 0), none, none, some (.iload_n 0, 1, 0, 0, 0), some (.ineg, 1, 0, 0, 0), some (.goto 4, 3, 0, 0, 0), none, none, some (.iload_n 0, 1, 0, 0, 0), some (.ireturn, 1, 0, 0, 0)]], 1, 1, 0, 0)
/-- java/lang/Math.max(II)I -/
def jm_M241 : jm_M := (⟨"java/lang/Math", "max", "(II)I"⟩, prog_14_method_65_code, 2, some .int, [[some (.iload_n 0, 1, 0, 0, 0), some (.iload_n 1, 1, 0, 0, 0), some (.if_icmp .lt 7, 3, 0, 0, 0), none, none, some (.iload_n 0, 1, 0, 0, 0), some (.goto 4, 3, 0, 0, 0), none, none, some (.iload_n 1, 1, 0, 0, 0), some (.ireturn, 1, 0, 0, 0)]], 1, 2, 0, 0)
/-- java/lang/Math.max(JJ)J -/
def jm_M242 : jm_M := (⟨"java/lang/Math", "max", "(JJ)J"⟩, prog_14_method_66_code, 4, some .long, [[some (.lload_n 0, 1, 0, 0, 0), some (.lload_n 2, 1, 0, 0, 0), some (.lcmp, 1, 0, 0, 0), some (.ifCond .lt 7, 3, 0, 0, 0), none, none, some (.lload_n 0, 1, 0, 0, 0), some (.goto 4, 3, 0, 0, 0), none, none, some (.lload_n 2, 1, 0, 0, 0), some (.lreturn, 1, 0, 0, 0)]], 1, 2, 0, 0)
/-- java/lang/Math.min(II)I -/
def jm_M243 : jm_M := (⟨"java/lang/Math", "min", "(II)I"⟩, prog_14_method_69_code, 2, some .int, [[some (.iload_n 0, 1, 0, 0, 0), some (.iload_n 1, 1, 0, 0, 0), some (.if_icmp .gt 7, 3, 0, 0, 0), none, none, some (.iload_n 0, 1, 0, 0, 0), some (.goto 4, 3, 0, 0, 0), none, none, some (.iload_n 1, 1, 0, 0, 0), some (.ireturn, 1, 0, 0, 0)]], 1, 2, 0, 0)
/-- java/lang/String.length()I -/
def jm_M244 : jm_M := (⟨"java/lang/String", "length", "()I"⟩, prog_15_method_54_code, 1, some .int, [[some (.aload_n 0, 1, 0, 0, 0), some (.getfield 9, 3, 100, 1, 1678), none, none, some (.arraylength, 1, 0, 0, 0), some (.aload_n 0, 1, 0, 0, 0), some (.invokevirtual 335, 3, 246, 0, 241), none, none, some (.ishr, 1, 0, 0, 0), some (.ireturn, 1, 0, 0, 0)]], 1, 0, 1, 100)
/-- java/lang/String.charAt(I)C -/
def jm_M245 : jm_M := (⟨"java/lang/String", "charAt", "(I)C"⟩, prog_15_method_56_code, 2, some .char, [[some (.aload_n 0, 1, 0, 0, 0), some (.invokevirtual 492, 3, 247, 0, 251), none, none, some (.ifCond .eq 12, 3, 0, 0, 0), none, none, some (.aload_n 0, 1, 0, 0, 0), some (.getfield 9, 3, 100, 1, 1678), none, none, some (.iload_n 1, 1, 0, 0, 0), some (.invokestatic 495, 3, 249, 0, 255), none, none, some (.ireturn, 1, 0, 0, 0)],
  [some (.aload_n 0, 1, 0, 0, 0), some (.getfield 9, 3, 100, 1, 1678), none, none, some (.iload_n 1, 1, 0, 0, 0), some (.invokestatic 498, 3, 252, 0, 266), none, none, some (.ireturn, 1, 0, 0, 0)]], 1, 1, 1, 100)
/-- java/lang/String.coder()B -/
def jm_M246 : jm_M := (⟨"java/lang/String", "coder", "()B"⟩, prog_15_method_152_code, 1, some .byte, [[some (.getstatic 38, 3, 3, 0, 245), none, none, some (.ifCond .eq 10, 3, 0, 0, 0), none, none, some (.aload_n 0, 1, 0, 0, 0), some (.getfield 15, 3, 100, 0, 1679), none, none, some (.goto 4, 3, 0, 0, 0), none, none, some (.iconst 1, 1, 0, 0, 0), some (.ireturn, 1, 0, 0, 0)]], 1, 0, 1, 100)
/-- java/lang/String.isLatin1()Z -/
def jm_M247 : jm_M := (⟨"java/lang/String", "isLatin1", "()Z"⟩, prog_15_method_154_code, 1, some .boolean, [[some (.getstatic 38, 3, 3, 0, 245), none, none, some (.ifCond .eq 14, 3, 0, 0, 0), none, none, some (.aload_n 0, 1, 0, 0, 0), some (.getfield 15, 3, 100, 0, 1679), none, none, some (.ifCond .ne 7, 3, 0, 0, 0), none, none, some (.iconst 1, 1, 0, 0, 0), some (.goto 4, 3, 0, 0, 0)],
  [none, some (.iconst 0, 1, 0, 0, 0), some (.ireturn, 1, 0, 0, 0)]], 1, 0, 1, 100)
/-- java/lang/String.checkIndex(II)V -/
def jm_M248 : jm_M := (⟨"java/lang/String", "checkIndex", "(II)V"⟩, prog_15_method_155_code, 2, none, [[some (.iload_n 0, 1, 0, 0, 0), some (.iload_n 1, 1, 0, 0, 0), some (.getstatic 1053, 3, 4, 0, 261), none, none, some (.invokestatic 1059, 3, 255, 0, 263), none, none, some (.pop, 1, 0, 0, 0), some (.return_, 1, 0, 0, 0)]], 1, 2, 0, 100)
/-- java/lang/StringLatin1.charAt([BI)C -/
def jm_M249 : jm_M := (⟨"java/lang/StringLatin1", "charAt", "([BI)C"⟩, prog_16_method_2_code, 2, some .char, [[some (.iload_n 1, 1, 0, 0, 0), some (.aload_n 0, 1, 0, 0, 0), some (.arraylength, 1, 0, 0, 0), some (.invokestatic 9, 3, 248, 0, 258), none, none, some (.aload_n 0, 1, 0, 0, 0), some (.iload_n 1, 1, 0, 0, 0), some (.baload, 1, 0, 0, 0), some (.sipush 255, 3, 0, 0, 0), none, none, some (.iand, 1, 0, 0, 0), some (.i2c, 1, 0, 0, 0), some (.ireturn, 1, 0, 0, 0)]], 1, 2, 0, 0)
/-- java/lang/StringUTF16.getChar([BI)C -/
def jm_M250 : jm_M := (⟨"java/lang/StringUTF16", "getChar", "([BI)C"⟩, prog_17_method_5_code, 2, some .char, [[none, none, none, some (.ifCond .ne 25, 3, 0, 0, 0), none, none, some (.iload_n 1, 1, 0, 0, 0), some (.ifCond .lt 11, 3, 0, 0, 0), none, none, some (.iload_n 1, 1, 0, 0, 0), some (.aload_n 0, 1, 0, 0, 0), some (.invokestatic 48, 3, 251, 0, 272), none, none, some (.if_icmp .lt 13, 3, 0, 0, 0)],
  [none, none, none, none, none, some (.dup, 1, 0, 0, 0), none, none, none, none, none, none, some (.iload_n 1, 1, 0, 0, 0), some (.iconst 1, 1, 0, 0, 0), some (.ishl, 1, 0, 0, 0), some (.istore_n 1, 1, 0, 0, 0)],
  [some (.aload_n 0, 1, 0, 0, 0), some (.iload_n 1, 1, 0, 0, 0), some (.iinc 1 1, 3, 0, 0, 0), none, none, some (.baload, 1, 0, 0, 0), some (.sipush 255, 3, 0, 0, 0), none, none, some (.iand, 1, 0, 0, 0), none, none, none, some (.ishl, 1, 0, 0, 0), some (.aload_n 0, 1, 0, 0, 0), some (.iload_n 1, 1, 0, 0, 0)],
  [some (.baload, 1, 0, 0, 0), some (.sipush 255, 3, 0, 0, 0), none, none, some (.iand, 1, 0, 0, 0), none, none, none, some (.ishl, 1, 0, 0, 0), some (.ior, 1, 0, 0, 0), some (.i2c, 1, 0, 0, 0), some (.ireturn, 1, 0, 0, 0)]], 1, 2, 0, 0)
/-- java/lang/StringUTF16.length([B)I -/
def jm_M251 : jm_M := (⟨"java/lang/StringUTF16", "length", "([B)I"⟩, prog_17_method_6_code, 1, some .int, [[some (.aload_n 0, 1, 0, 0, 0), some (.arraylength, 1, 0, 0, 0), some (.iconst 1, 1, 0, 0, 0), some (.ishr, 1, 0, 0, 0), some (.ireturn, 1, 0, 0, 0)]], 1, 1, 0, 0)
/-- java/lang/StringUTF16.charAt([BI)C -/
def jm_M252 : jm_M := (⟨"java/lang/StringUTF16", "charAt", "([BI)C"⟩, prog_17_method_83_code, 2, some .char, [[some (.iload_n 1, 1, 0, 0, 0), some (.aload_n 0, 1, 0, 0, 0), some (.invokestatic 67, 3, 253, 0, 269), none, none, some (.aload_n 0, 1, 0, 0, 0), some (.iload_n 1, 1, 0, 0, 0), some (.invokestatic 71, 3, 250, 0, 276), none, none, some (.ireturn, 1, 0, 0, 0)]], 1, 2, 0, 0)
/-- java/lang/StringUTF16.checkIndex(I[B)V -/
def jm_M253 : jm_M := (⟨"java/lang/StringUTF16", "checkIndex", "(I[B)V"⟩, prog_17_method_91_code, 2, none, [[some (.iload_n 0, 1, 0, 0, 0), some (.aload_n 1, 1, 0, 0, 0), some (.invokestatic 48, 3, 251, 0, 272), none, none, some (.invokestatic 414, 3, 248, 0, 275), none, none, some (.return_, 1, 0, 0, 0)]], 1, 2, 0, 0)
/-- java/util/Arrays.fill([II)V -/
def jm_M254 : jm_M := (⟨"java/util/Arrays", "fill", "([II)V"⟩, prog_19_method_103_code, 4, none, [[some (.iconst 0, 1, 0, 0, 0), some (.istore_n 2, 1, 0, 0, 0), some (.aload_n 0, 1, 0, 0, 0), some (.arraylength, 1, 0, 0, 0), some (.istore_n 3, 1, 0, 0, 0), some (.iload_n 2, 1, 0, 0, 0), some (.iload_n 3, 1, 0, 0, 0), some (.if_icmp .ge 13, 3, 0, 0, 0), none, none, some (.aload_n 0, 1, 0, 0, 0), some (.iload_n 2, 1, 0, 0, 0), some (.iload_n 1, 1, 0, 0, 0), some (.iastore, 1, 0, 0, 0), some (.iinc 2 1, 3, 0, 0, 0)],
  [none, some (.goto (-12), 3, 0, 0, 0), none, none, some (.return_, 1, 0, 0, 0)]], 1, 2, 0, 0)
/-- jdk/internal/util/Preconditions.checkIndex(IILjava/util/function/BiFunction;)I -/
def jm_M255 : jm_M := (⟨"jdk/internal/util/Preconditions", "checkIndex", "(IILjava/util/function/BiFunction;)I"⟩, prog_20_method_11_code, 3, some .int, [[some (.iload_n 0, 1, 0, 0, 0), some (.ifCond .lt 8, 3, 0, 0, 0), none, none, some (.iload_n 0, 1, 0, 0, 0), some (.iload_n 1, 1, 0, 0, 0), some (.if_icmp .lt 10, 3, 0, 0, 0), none, none, some (.aload_n 2, 1, 0, 0, 0), some (.iload_n 0, 1, 0, 0, 0), some (.iload_n 1, 1, 0, 0, 0)],
  [some (.iload_n 0, 1, 0, 0, 0), some (.ireturn, 1, 0, 0, 0)]], 1, 3, 0, 0)
def jm_ML_r0 : List (Option jm_I) := [some (.new 7, 3, 9, 0, 113), none, none, some (.dup, 1, 0, 0, 0), some (.invokespecial 9, 3, 80, 0, 115), none, none, some (.astore_n 1, 1, 0, 0, 0), some (.new 10, 3, 10, 0, 1050), none, none, some (.dup, 1, 0, 0, 0), some (.invokespecial 12, 3, 132, 0, 1052), none, none, some (.astore_n 2, 1, 0, 0, 0)]
def jm_ML_r1 : List (Option jm_I) := [some (.iconst 0, 1, 0, 0, 0), some (.istore_n 3, 1, 0, 0, 0), some (.iload_n 3, 1, 0, 0, 0), some (.aload_n 0, 1, 0, 0, 0), some (.arraylength, 1, 0, 0, 0), some (.bipush 6, 2, 0, 0, 0), none, some (.isub, 1, 0, 0, 0), some (.if_icmp .gt 1243, 3, 0, 0, 0), none, none, some (.aload_n 0, 1, 0, 0, 0), some (.iload_n 3, 1, 0, 0, 0), some (.iaload, 1, 0, 0, 0), some (.bipush 63, 2, 0, 0, 0)]
def jm_ML_r2 : List (Option jm_I) := [some (.iand, 1, 0, 0, 0), some (.tableswitch 1228 0 34 #[155, 218, 241, 254, 267, 300, 333, 366, 399, 448, 471, 494, 507, 566, 609, 652, 685, 718, 751, 774, 813, 836, 879, 912, 945, 968, 981, 1034, 1067, 1080, 1103, 1136, 1159, 1182, 1205], 155, 0, 0, 0)]
def jm_ML_r3 : List (Option jm_I) := []
def jm_ML_r4 : List (Option jm_I) := []
def jm_ML_r5 : List (Option jm_I) := []
def jm_ML_r6 : List (Option jm_I) := []
def jm_ML_r7 : List (Option jm_I) := []
def jm_ML_r8 : List (Option jm_I) := []
def jm_ML_r9 : List (Option jm_I) := []
def jm_ML_r10 : List (Option jm_I) := []
def jm_ML_r11 : List (Option jm_I) := [none, none, none, none, none, none, none, none, none, none, none, none, some (.aload_n 1, 1, 0, 0, 0), some (.aload_n 0, 1, 0, 0, 0), some (.iload_n 3, 1, 0, 0, 0), some (.iconst 1, 1, 0, 0, 0)]
def jm_ML_r12 : List (Option jm_I) := [some (.iadd, 1, 0, 0, 0), some (.iaload, 1, 0, 0, 0), some (.aload_n 0, 1, 0, 0, 0), some (.iload_n 3, 1, 0, 0, 0), some (.iconst 2, 1, 0, 0, 0), some (.iadd, 1, 0, 0, 0), some (.iaload, 1, 0, 0, 0), some (.aload_n 0, 1, 0, 0, 0), some (.iload_n 3, 1, 0, 0, 0), some (.iconst 3, 1, 0, 0, 0), some (.iadd, 1, 0, 0, 0), some (.iaload, 1, 0, 0, 0), some (.aload_n 0, 1, 0, 0, 0), some (.iload_n 3, 1, 0, 0, 0), some (.iconst 4, 1, 0, 0, 0), some (.iadd, 1, 0, 0, 0)]
def jm_ML_r13 : List (Option jm_I) := [some (.iaload, 1, 0, 0, 0), some (.aload_n 0, 1, 0, 0, 0), some (.iload_n 3, 1, 0, 0, 0), some (.iconst 5, 1, 0, 0, 0), some (.iadd, 1, 0, 0, 0), some (.iaload, 1, 0, 0, 0), some (.invokevirtual 13, 3, 81, 0, 586), none, none, some (.aload_n 2, 1, 0, 0, 0), some (.aload_n 0, 1, 0, 0, 0), some (.iload_n 3, 1, 0, 0, 0), some (.iconst 1, 1, 0, 0, 0), some (.iadd, 1, 0, 0, 0), some (.iaload, 1, 0, 0, 0), some (.aload_n 0, 1, 0, 0, 0)]
def jm_ML_r14 : List (Option jm_I) := [some (.iload_n 3, 1, 0, 0, 0), some (.iconst 2, 1, 0, 0, 0), some (.iadd, 1, 0, 0, 0), some (.iaload, 1, 0, 0, 0), some (.aload_n 0, 1, 0, 0, 0), some (.iload_n 3, 1, 0, 0, 0), some (.iconst 3, 1, 0, 0, 0), some (.iadd, 1, 0, 0, 0), some (.iaload, 1, 0, 0, 0), some (.aload_n 0, 1, 0, 0, 0), some (.iload_n 3, 1, 0, 0, 0), some (.iconst 4, 1, 0, 0, 0), some (.iadd, 1, 0, 0, 0), some (.iaload, 1, 0, 0, 0), some (.aload_n 0, 1, 0, 0, 0), some (.iload_n 3, 1, 0, 0, 0)]
def jm_ML_r15 : List (Option jm_I) := [some (.iconst 5, 1, 0, 0, 0), some (.iadd, 1, 0, 0, 0), some (.iaload, 1, 0, 0, 0), some (.invokevirtual 17, 3, 133, 0, 1282), none, none, some (.if_icmp .eq 1015, 3, 0, 0, 0), none, none, some (.iconst 0, 1, 0, 0, 0), some (.ireturn, 1, 0, 0, 0), some (.aload_n 1, 1, 0, 0, 0), some (.aload_n 0, 1, 0, 0, 0), some (.iload_n 3, 1, 0, 0, 0), some (.iconst 1, 1, 0, 0, 0), some (.iadd, 1, 0, 0, 0)]
def jm_ML_r16 : List (Option jm_I) := [some (.iaload, 1, 0, 0, 0), some (.invokevirtual 18, 3, 82, 0, 594), none, none, some (.aload_n 2, 1, 0, 0, 0), some (.aload_n 0, 1, 0, 0, 0), some (.iload_n 3, 1, 0, 0, 0), some (.iconst 1, 1, 0, 0, 0), some (.iadd, 1, 0, 0, 0), some (.iaload, 1, 0, 0, 0), some (.invokevirtual 22, 3, 135, 0, 1290), none, none, some (.if_icmp .eq 992, 3, 0, 0, 0)]
def jm_ML_r17 : List (Option jm_I) := [some (.iconst 0, 1, 0, 0, 0), some (.ireturn, 1, 0, 0, 0), some (.aload_n 1, 1, 0, 0, 0), some (.invokevirtual 23, 3, 83, 0, 598), none, none, some (.aload_n 2, 1, 0, 0, 0), some (.invokevirtual 27, 3, 150, 0, 1294), none, none, some (.if_icmp .eq 979, 3, 0, 0, 0), none, none, some (.iconst 0, 1, 0, 0, 0), some (.ireturn, 1, 0, 0, 0), some (.aload_n 1, 1, 0, 0, 0)]
def jm_ML_r18 : List (Option jm_I) := [some (.invokevirtual 28, 3, 84, 0, 728), none, none, some (.aload_n 2, 1, 0, 0, 0), some (.invokevirtual 31, 3, 151, 0, 1396), none, none, some (.if_icmp .eq 966, 3, 0, 0, 0), none, none, some (.iconst 0, 1, 0, 0, 0), some (.ireturn, 1, 0, 0, 0), some (.aload_n 1, 1, 0, 0, 0), some (.aload_n 0, 1, 0, 0, 0), some (.iload_n 3, 1, 0, 0, 0), some (.iconst 1, 1, 0, 0, 0)]
def jm_ML_r19 : List (Option jm_I) := [some (.iadd, 1, 0, 0, 0), some (.iaload, 1, 0, 0, 0), some (.aload_n 0, 1, 0, 0, 0), some (.iload_n 3, 1, 0, 0, 0), some (.iconst 2, 1, 0, 0, 0), some (.iadd, 1, 0, 0, 0), some (.iaload, 1, 0, 0, 0), some (.invokevirtual 32, 3, 85, 0, 732), none, none, some (.aload_n 2, 1, 0, 0, 0), some (.aload_n 0, 1, 0, 0, 0), some (.iload_n 3, 1, 0, 0, 0), some (.iconst 1, 1, 0, 0, 0), some (.iadd, 1, 0, 0, 0), some (.iaload, 1, 0, 0, 0)]
def jm_ML_r20 : List (Option jm_I) := [some (.aload_n 0, 1, 0, 0, 0), some (.iload_n 3, 1, 0, 0, 0), some (.iconst 2, 1, 0, 0, 0), some (.iadd, 1, 0, 0, 0), some (.iaload, 1, 0, 0, 0), some (.invokevirtual 36, 3, 194, 0, 1400), none, none, some (.if_icmp .eq 933, 3, 0, 0, 0), none, none, some (.iconst 0, 1, 0, 0, 0), some (.ireturn, 1, 0, 0, 0), some (.aload_n 1, 1, 0, 0, 0), some (.aload_n 0, 1, 0, 0, 0), some (.iload_n 3, 1, 0, 0, 0)]
def jm_ML_r21 : List (Option jm_I) := [some (.iconst 1, 1, 0, 0, 0), some (.iadd, 1, 0, 0, 0), some (.iaload, 1, 0, 0, 0), some (.aload_n 0, 1, 0, 0, 0), some (.iload_n 3, 1, 0, 0, 0), some (.iconst 2, 1, 0, 0, 0), some (.iadd, 1, 0, 0, 0), some (.iaload, 1, 0, 0, 0), some (.invokevirtual 37, 3, 86, 0, 740), none, none, some (.aload_n 2, 1, 0, 0, 0), some (.aload_n 0, 1, 0, 0, 0), some (.iload_n 3, 1, 0, 0, 0), some (.iconst 1, 1, 0, 0, 0), some (.iadd, 1, 0, 0, 0)]
def jm_ML_r22 : List (Option jm_I) := [some (.iaload, 1, 0, 0, 0), some (.aload_n 0, 1, 0, 0, 0), some (.iload_n 3, 1, 0, 0, 0), some (.iconst 2, 1, 0, 0, 0), some (.iadd, 1, 0, 0, 0), some (.iaload, 1, 0, 0, 0), some (.invokevirtual 40, 3, 195, 0, 1411), none, none, some (.if_icmp .eq 900, 3, 0, 0, 0), none, none, some (.iconst 0, 1, 0, 0, 0), some (.ireturn, 1, 0, 0, 0), some (.aload_n 1, 1, 0, 0, 0), some (.aload_n 0, 1, 0, 0, 0)]
def jm_ML_r23 : List (Option jm_I) := [some (.iload_n 3, 1, 0, 0, 0), some (.iconst 1, 1, 0, 0, 0), some (.iadd, 1, 0, 0, 0), some (.iaload, 1, 0, 0, 0), some (.aload_n 0, 1, 0, 0, 0), some (.iload_n 3, 1, 0, 0, 0), some (.iconst 2, 1, 0, 0, 0), some (.iadd, 1, 0, 0, 0), some (.iaload, 1, 0, 0, 0), some (.invokevirtual 41, 3, 87, 0, 752), none, none, some (.aload_n 2, 1, 0, 0, 0), some (.aload_n 0, 1, 0, 0, 0), some (.iload_n 3, 1, 0, 0, 0), some (.iconst 1, 1, 0, 0, 0)]
def jm_ML_r24 : List (Option jm_I) := [some (.iadd, 1, 0, 0, 0), some (.iaload, 1, 0, 0, 0), some (.aload_n 0, 1, 0, 0, 0), some (.iload_n 3, 1, 0, 0, 0), some (.iconst 2, 1, 0, 0, 0), some (.iadd, 1, 0, 0, 0), some (.iaload, 1, 0, 0, 0), some (.invokevirtual 44, 3, 199, 0, 1419), none, none, some (.if_icmp .eq 867, 3, 0, 0, 0), none, none, some (.iconst 0, 1, 0, 0, 0), some (.ireturn, 1, 0, 0, 0), some (.aload_n 1, 1, 0, 0, 0)]
def jm_ML_r25 : List (Option jm_I) := [some (.aload_n 0, 1, 0, 0, 0), some (.iload_n 3, 1, 0, 0, 0), some (.iconst 1, 1, 0, 0, 0), some (.iadd, 1, 0, 0, 0), some (.iaload, 1, 0, 0, 0), some (.aload_n 0, 1, 0, 0, 0), some (.iload_n 3, 1, 0, 0, 0), some (.iconst 2, 1, 0, 0, 0), some (.iadd, 1, 0, 0, 0), some (.iaload, 1, 0, 0, 0), some (.invokevirtual 45, 3, 88, 0, 780), none, none, some (.aload_n 2, 1, 0, 0, 0), some (.aload_n 0, 1, 0, 0, 0), some (.iload_n 3, 1, 0, 0, 0)]
def jm_ML_r26 : List (Option jm_I) := [some (.iconst 1, 1, 0, 0, 0), some (.iadd, 1, 0, 0, 0), some (.iaload, 1, 0, 0, 0), some (.aload_n 0, 1, 0, 0, 0), some (.iload_n 3, 1, 0, 0, 0), some (.iconst 2, 1, 0, 0, 0), some (.iadd, 1, 0, 0, 0), some (.iaload, 1, 0, 0, 0), some (.invokevirtual 49, 3, 201, 0, 1485), none, none, some (.if_icmp .eq 834, 3, 0, 0, 0), none, none, some (.iconst 0, 1, 0, 0, 0), some (.ireturn, 1, 0, 0, 0)]
def jm_ML_r27 : List (Option jm_I) := [some (.aload_n 1, 1, 0, 0, 0), some (.aload_n 0, 1, 0, 0, 0), some (.iload_n 3, 1, 0, 0, 0), some (.iconst 1, 1, 0, 0, 0), some (.iadd, 1, 0, 0, 0), some (.iaload, 1, 0, 0, 0), some (.aload_n 0, 1, 0, 0, 0), some (.iload_n 3, 1, 0, 0, 0), some (.iconst 2, 1, 0, 0, 0), some (.iadd, 1, 0, 0, 0), some (.iaload, 1, 0, 0, 0), some (.ifCond .eq 7, 3, 0, 0, 0), none, none, some (.iconst 1, 1, 0, 0, 0), some (.goto 4, 3, 0, 0, 0)]
def jm_ML_r28 : List (Option jm_I) := [none, none, some (.iconst 0, 1, 0, 0, 0), some (.invokevirtual 50, 3, 89, 0, 793), none, none, some (.aload_n 2, 1, 0, 0, 0), some (.aload_n 0, 1, 0, 0, 0), some (.iload_n 3, 1, 0, 0, 0), some (.iconst 1, 1, 0, 0, 0), some (.iadd, 1, 0, 0, 0), some (.iaload, 1, 0, 0, 0), some (.aload_n 0, 1, 0, 0, 0), some (.iload_n 3, 1, 0, 0, 0), some (.iconst 2, 1, 0, 0, 0), some (.iadd, 1, 0, 0, 0)]
def jm_ML_r29 : List (Option jm_I) := [some (.iaload, 1, 0, 0, 0), some (.ifCond .eq 7, 3, 0, 0, 0), none, none, some (.iconst 1, 1, 0, 0, 0), some (.goto 4, 3, 0, 0, 0), none, none, some (.iconst 0, 1, 0, 0, 0), some (.invokevirtual 54, 3, 202, 0, 1493), none, none, some (.if_icmp .eq 785, 3, 0, 0, 0), none, none, some (.iconst 0, 1, 0, 0, 0)]
def jm_ML_r30 : List (Option jm_I) := [some (.ireturn, 1, 0, 0, 0), some (.aload_n 1, 1, 0, 0, 0), some (.aload_n 0, 1, 0, 0, 0), some (.iload_n 3, 1, 0, 0, 0), some (.iconst 1, 1, 0, 0, 0), some (.iadd, 1, 0, 0, 0), some (.iaload, 1, 0, 0, 0), some (.invokevirtual 55, 3, 90, 0, 797), none, none, some (.aload_n 2, 1, 0, 0, 0), some (.aload_n 0, 1, 0, 0, 0), some (.iload_n 3, 1, 0, 0, 0), some (.iconst 1, 1, 0, 0, 0), some (.iadd, 1, 0, 0, 0), some (.iaload, 1, 0, 0, 0)]
def jm_ML_r31 : List (Option jm_I) := [some (.invokevirtual 58, 3, 203, 0, 1497), none, none, some (.if_icmp .eq 762, 3, 0, 0, 0), none, none, some (.iconst 0, 1, 0, 0, 0), some (.ireturn, 1, 0, 0, 0), some (.aload_n 1, 1, 0, 0, 0), some (.aload_n 0, 1, 0, 0, 0), some (.iload_n 3, 1, 0, 0, 0), some (.iconst 1, 1, 0, 0, 0), some (.iadd, 1, 0, 0, 0), some (.iaload, 1, 0, 0, 0), some (.invokevirtual 59, 3, 91, 0, 809)]
def jm_ML_r32 : List (Option jm_I) := [none, some (.aload_n 2, 1, 0, 0, 0), some (.aload_n 0, 1, 0, 0, 0), some (.iload_n 3, 1, 0, 0, 0), some (.iconst 1, 1, 0, 0, 0), some (.iadd, 1, 0, 0, 0), some (.iaload, 1, 0, 0, 0), some (.invokevirtual 62, 3, 204, 0, 1510), none, none, some (.if_icmp .eq 739, 3, 0, 0, 0), none, none, some (.iconst 0, 1, 0, 0, 0), some (.ireturn, 1, 0, 0, 0), some (.aload_n 1, 1, 0, 0, 0)]
def jm_ML_r33 : List (Option jm_I) := [some (.invokevirtual 63, 3, 92, 0, 848), none, none, some (.aload_n 2, 1, 0, 0, 0), some (.invokevirtual 67, 3, 205, 0, 1545), none, none, some (.if_icmp .eq 726, 3, 0, 0, 0), none, none, some (.iconst 0, 1, 0, 0, 0), some (.ireturn, 1, 0, 0, 0), some (.aload_n 1, 1, 0, 0, 0), some (.aload_n 0, 1, 0, 0, 0), some (.iload_n 3, 1, 0, 0, 0), some (.iconst 1, 1, 0, 0, 0)]
def jm_ML_r34 : List (Option jm_I) := [some (.iadd, 1, 0, 0, 0), some (.iaload, 1, 0, 0, 0), some (.aload_n 0, 1, 0, 0, 0), some (.iload_n 3, 1, 0, 0, 0), some (.iconst 2, 1, 0, 0, 0), some (.iadd, 1, 0, 0, 0), some (.iaload, 1, 0, 0, 0), some (.aload_n 0, 1, 0, 0, 0), some (.iload_n 3, 1, 0, 0, 0), some (.iconst 3, 1, 0, 0, 0), some (.iadd, 1, 0, 0, 0), some (.iaload, 1, 0, 0, 0), some (.ifCond .eq 7, 3, 0, 0, 0), none, none, some (.iconst 1, 1, 0, 0, 0)]
def jm_ML_r35 : List (Option jm_I) := [some (.goto 4, 3, 0, 0, 0), none, none, some (.iconst 0, 1, 0, 0, 0), some (.invokevirtual 68, 3, 93, 0, 860), none, none, some (.aload_n 2, 1, 0, 0, 0), some (.aload_n 0, 1, 0, 0, 0), some (.iload_n 3, 1, 0, 0, 0), some (.iconst 1, 1, 0, 0, 0), some (.iadd, 1, 0, 0, 0), some (.iaload, 1, 0, 0, 0), some (.aload_n 0, 1, 0, 0, 0), some (.iload_n 3, 1, 0, 0, 0), some (.iconst 2, 1, 0, 0, 0)]
def jm_ML_r36 : List (Option jm_I) := [some (.iadd, 1, 0, 0, 0), some (.iaload, 1, 0, 0, 0), some (.aload_n 0, 1, 0, 0, 0), some (.iload_n 3, 1, 0, 0, 0), some (.iconst 3, 1, 0, 0, 0), some (.iadd, 1, 0, 0, 0), some (.iaload, 1, 0, 0, 0), some (.ifCond .eq 7, 3, 0, 0, 0), none, none, some (.iconst 1, 1, 0, 0, 0), some (.goto 4, 3, 0, 0, 0), none, none, some (.iconst 0, 1, 0, 0, 0), some (.invokevirtual 72, 3, 211, 0, 1549)]
def jm_ML_r37 : List (Option jm_I) := [none, none, some (.if_icmp .eq 667, 3, 0, 0, 0), none, none, some (.iconst 0, 1, 0, 0, 0), some (.ireturn, 1, 0, 0, 0), some (.aload_n 1, 1, 0, 0, 0), some (.aload_n 0, 1, 0, 0, 0), some (.iload_n 3, 1, 0, 0, 0), some (.iconst 1, 1, 0, 0, 0), some (.iadd, 1, 0, 0, 0), some (.iaload, 1, 0, 0, 0), some (.aload_n 0, 1, 0, 0, 0), some (.iload_n 3, 1, 0, 0, 0), some (.iconst 2, 1, 0, 0, 0)]
def jm_ML_r38 : List (Option jm_I) := [some (.iadd, 1, 0, 0, 0), some (.iaload, 1, 0, 0, 0), some (.aload_n 0, 1, 0, 0, 0), some (.iload_n 3, 1, 0, 0, 0), some (.iconst 3, 1, 0, 0, 0), some (.iadd, 1, 0, 0, 0), some (.iaload, 1, 0, 0, 0), some (.invokevirtual 73, 3, 94, 0, 876), none, none, some (.aload_n 2, 1, 0, 0, 0), some (.aload_n 0, 1, 0, 0, 0), some (.iload_n 3, 1, 0, 0, 0), some (.iconst 1, 1, 0, 0, 0), some (.iadd, 1, 0, 0, 0), some (.iaload, 1, 0, 0, 0)]
def jm_ML_r39 : List (Option jm_I) := [some (.aload_n 0, 1, 0, 0, 0), some (.iload_n 3, 1, 0, 0, 0), some (.iconst 2, 1, 0, 0, 0), some (.iadd, 1, 0, 0, 0), some (.iaload, 1, 0, 0, 0), some (.aload_n 0, 1, 0, 0, 0), some (.iload_n 3, 1, 0, 0, 0), some (.iconst 3, 1, 0, 0, 0), some (.iadd, 1, 0, 0, 0), some (.iaload, 1, 0, 0, 0), some (.invokevirtual 77, 3, 213, 0, 1567), none, none, some (.if_icmp .eq 624, 3, 0, 0, 0)]
def jm_ML_r40 : List (Option jm_I) := [some (.iconst 0, 1, 0, 0, 0), some (.ireturn, 1, 0, 0, 0), some (.aload_n 1, 1, 0, 0, 0), some (.aload_n 0, 1, 0, 0, 0), some (.iload_n 3, 1, 0, 0, 0), some (.iconst 1, 1, 0, 0, 0), some (.iadd, 1, 0, 0, 0), some (.iaload, 1, 0, 0, 0), some (.aload_n 0, 1, 0, 0, 0), some (.iload_n 3, 1, 0, 0, 0), some (.iconst 2, 1, 0, 0, 0), some (.iadd, 1, 0, 0, 0), some (.iaload, 1, 0, 0, 0), some (.aload_n 0, 1, 0, 0, 0), some (.iload_n 3, 1, 0, 0, 0), some (.iconst 3, 1, 0, 0, 0)]
def jm_ML_r41 : List (Option jm_I) := [some (.iadd, 1, 0, 0, 0), some (.iaload, 1, 0, 0, 0), some (.invokevirtual 78, 3, 95, 0, 902), none, none, some (.aload_n 2, 1, 0, 0, 0), some (.aload_n 0, 1, 0, 0, 0), some (.iload_n 3, 1, 0, 0, 0), some (.iconst 1, 1, 0, 0, 0), some (.iadd, 1, 0, 0, 0), some (.iaload, 1, 0, 0, 0), some (.aload_n 0, 1, 0, 0, 0), some (.iload_n 3, 1, 0, 0, 0), some (.iconst 2, 1, 0, 0, 0), some (.iadd, 1, 0, 0, 0), some (.iaload, 1, 0, 0, 0)]
def jm_ML_r42 : List (Option jm_I) := [some (.aload_n 0, 1, 0, 0, 0), some (.iload_n 3, 1, 0, 0, 0), some (.iconst 3, 1, 0, 0, 0), some (.iadd, 1, 0, 0, 0), some (.iaload, 1, 0, 0, 0), some (.invokevirtual 81, 3, 214, 0, 1579), none, none, some (.if_icmp .eq 581, 3, 0, 0, 0), none, none, some (.iconst 0, 1, 0, 0, 0), some (.ireturn, 1, 0, 0, 0), some (.aload_n 1, 1, 0, 0, 0), some (.aload_n 0, 1, 0, 0, 0), some (.iload_n 3, 1, 0, 0, 0)]
def jm_ML_r43 : List (Option jm_I) := [some (.iconst 1, 1, 0, 0, 0), some (.iadd, 1, 0, 0, 0), some (.iaload, 1, 0, 0, 0), some (.aload_n 0, 1, 0, 0, 0), some (.iload_n 3, 1, 0, 0, 0), some (.iconst 2, 1, 0, 0, 0), some (.iadd, 1, 0, 0, 0), some (.iaload, 1, 0, 0, 0), some (.invokevirtual 82, 3, 96, 0, 907), none, none, some (.aload_n 2, 1, 0, 0, 0), some (.aload_n 0, 1, 0, 0, 0), some (.iload_n 3, 1, 0, 0, 0), some (.iconst 1, 1, 0, 0, 0), some (.iadd, 1, 0, 0, 0)]
def jm_ML_r44 : List (Option jm_I) := [some (.iaload, 1, 0, 0, 0), some (.aload_n 0, 1, 0, 0, 0), some (.iload_n 3, 1, 0, 0, 0), some (.iconst 2, 1, 0, 0, 0), some (.iadd, 1, 0, 0, 0), some (.iaload, 1, 0, 0, 0), some (.invokevirtual 85, 3, 215, 0, 1584), none, none, some (.if_icmp .eq 548, 3, 0, 0, 0), none, none, some (.iconst 0, 1, 0, 0, 0), some (.ireturn, 1, 0, 0, 0), some (.aload_n 1, 1, 0, 0, 0), some (.aload_n 0, 1, 0, 0, 0)]
def jm_ML_r45 : List (Option jm_I) := [some (.iload_n 3, 1, 0, 0, 0), some (.iconst 1, 1, 0, 0, 0), some (.iadd, 1, 0, 0, 0), some (.iaload, 1, 0, 0, 0), some (.aload_n 0, 1, 0, 0, 0), some (.iload_n 3, 1, 0, 0, 0), some (.iconst 2, 1, 0, 0, 0), some (.iadd, 1, 0, 0, 0), some (.iaload, 1, 0, 0, 0), some (.invokevirtual 86, 3, 97, 0, 918), none, none, some (.aload_n 2, 1, 0, 0, 0), some (.aload_n 0, 1, 0, 0, 0), some (.iload_n 3, 1, 0, 0, 0), some (.iconst 1, 1, 0, 0, 0)]
def jm_ML_r46 : List (Option jm_I) := [some (.iadd, 1, 0, 0, 0), some (.iaload, 1, 0, 0, 0), some (.aload_n 0, 1, 0, 0, 0), some (.iload_n 3, 1, 0, 0, 0), some (.iconst 2, 1, 0, 0, 0), some (.iadd, 1, 0, 0, 0), some (.iaload, 1, 0, 0, 0), some (.invokevirtual 89, 3, 216, 0, 1588), none, none, some (.if_icmp .eq 515, 3, 0, 0, 0), none, none, some (.iconst 0, 1, 0, 0, 0), some (.ireturn, 1, 0, 0, 0), some (.aload_n 1, 1, 0, 0, 0)]
def jm_ML_r47 : List (Option jm_I) := [some (.aload_n 0, 1, 0, 0, 0), some (.iload_n 3, 1, 0, 0, 0), some (.iconst 1, 1, 0, 0, 0), some (.iadd, 1, 0, 0, 0), some (.iaload, 1, 0, 0, 0), some (.aload_n 0, 1, 0, 0, 0), some (.iload_n 3, 1, 0, 0, 0), some (.iconst 2, 1, 0, 0, 0), some (.iadd, 1, 0, 0, 0), some (.iaload, 1, 0, 0, 0), some (.invokevirtual 90, 3, 98, 0, 922), none, none, some (.aload_n 2, 1, 0, 0, 0), some (.aload_n 0, 1, 0, 0, 0), some (.iload_n 3, 1, 0, 0, 0)]
def jm_ML_r48 : List (Option jm_I) := [some (.iconst 1, 1, 0, 0, 0), some (.iadd, 1, 0, 0, 0), some (.iaload, 1, 0, 0, 0), some (.aload_n 0, 1, 0, 0, 0), some (.iload_n 3, 1, 0, 0, 0), some (.iconst 2, 1, 0, 0, 0), some (.iadd, 1, 0, 0, 0), some (.iaload, 1, 0, 0, 0), some (.invokevirtual 93, 3, 217, 0, 1592), none, none, some (.if_icmp .eq 482, 3, 0, 0, 0), none, none, some (.iconst 0, 1, 0, 0, 0), some (.ireturn, 1, 0, 0, 0)]
def jm_ML_r49 : List (Option jm_I) := [some (.aload_n 1, 1, 0, 0, 0), some (.aload_n 0, 1, 0, 0, 0), some (.iload_n 3, 1, 0, 0, 0), some (.iconst 1, 1, 0, 0, 0), some (.iadd, 1, 0, 0, 0), some (.iaload, 1, 0, 0, 0), some (.invokevirtual 94, 3, 99, 0, 926), none, none, some (.aload_n 2, 1, 0, 0, 0), some (.aload_n 0, 1, 0, 0, 0), some (.iload_n 3, 1, 0, 0, 0), some (.iconst 1, 1, 0, 0, 0), some (.iadd, 1, 0, 0, 0), some (.iaload, 1, 0, 0, 0), some (.invokevirtual 97, 3, 219, 0, 1596)]
def jm_ML_r50 : List (Option jm_I) := [none, none, some (.if_icmp .eq 459, 3, 0, 0, 0), none, none, some (.iconst 0, 1, 0, 0, 0), some (.ireturn, 1, 0, 0, 0), some (.aload_n 1, 1, 0, 0, 0), some (.aload_n 0, 1, 0, 0, 0), some (.iload_n 3, 1, 0, 0, 0), some (.iconst 1, 1, 0, 0, 0), some (.iadd, 1, 0, 0, 0), some (.iaload, 1, 0, 0, 0), some (.ifCond .eq 7, 3, 0, 0, 0)]
def jm_ML_r51 : List (Option jm_I) := [some (.iconst 1, 1, 0, 0, 0), some (.goto 4, 3, 0, 0, 0), none, none, some (.iconst 0, 1, 0, 0, 0), some (.invokevirtual 98, 3, 100, 0, 930), none, none, some (.aload_n 2, 1, 0, 0, 0), some (.aload_n 0, 1, 0, 0, 0), some (.iload_n 3, 1, 0, 0, 0), some (.iconst 1, 1, 0, 0, 0), some (.iadd, 1, 0, 0, 0), some (.iaload, 1, 0, 0, 0), some (.ifCond .eq 7, 3, 0, 0, 0)]
def jm_ML_r52 : List (Option jm_I) := [none, some (.iconst 1, 1, 0, 0, 0), some (.goto 4, 3, 0, 0, 0), none, none, some (.iconst 0, 1, 0, 0, 0), some (.invokevirtual 102, 3, 220, 0, 1603), none, none, some (.if_icmp .eq 420, 3, 0, 0, 0), none, none, some (.iconst 0, 1, 0, 0, 0), some (.ireturn, 1, 0, 0, 0), some (.aload_n 1, 1, 0, 0, 0), some (.aload_n 0, 1, 0, 0, 0)]
def jm_ML_r53 : List (Option jm_I) := [some (.iload_n 3, 1, 0, 0, 0), some (.iconst 1, 1, 0, 0, 0), some (.iadd, 1, 0, 0, 0), some (.iaload, 1, 0, 0, 0), some (.invokevirtual 103, 3, 101, 0, 934), none, none, some (.aload_n 2, 1, 0, 0, 0), some (.aload_n 0, 1, 0, 0, 0), some (.iload_n 3, 1, 0, 0, 0), some (.iconst 1, 1, 0, 0, 0), some (.iadd, 1, 0, 0, 0), some (.iaload, 1, 0, 0, 0), some (.invokevirtual 106, 3, 221, 0, 1607)]
def jm_ML_r54 : List (Option jm_I) := [some (.if_icmp .eq 397, 3, 0, 0, 0), none, none, some (.iconst 0, 1, 0, 0, 0), some (.ireturn, 1, 0, 0, 0), some (.aload_n 1, 1, 0, 0, 0), some (.aload_n 0, 1, 0, 0, 0), some (.iload_n 3, 1, 0, 0, 0), some (.iconst 1, 1, 0, 0, 0), some (.iadd, 1, 0, 0, 0), some (.iaload, 1, 0, 0, 0), some (.aload_n 0, 1, 0, 0, 0), some (.iload_n 3, 1, 0, 0, 0), some (.iconst 2, 1, 0, 0, 0), some (.iadd, 1, 0, 0, 0), some (.iaload, 1, 0, 0, 0)]
def jm_ML_r55 : List (Option jm_I) := [some (.aload_n 0, 1, 0, 0, 0), some (.iload_n 3, 1, 0, 0, 0), some (.iconst 3, 1, 0, 0, 0), some (.iadd, 1, 0, 0, 0), some (.iaload, 1, 0, 0, 0), some (.invokevirtual 107, 3, 102, 0, 938), none, none, some (.aload_n 2, 1, 0, 0, 0), some (.aload_n 0, 1, 0, 0, 0), some (.iload_n 3, 1, 0, 0, 0), some (.iconst 1, 1, 0, 0, 0), some (.iadd, 1, 0, 0, 0), some (.iaload, 1, 0, 0, 0), some (.aload_n 0, 1, 0, 0, 0), some (.iload_n 3, 1, 0, 0, 0)]
def jm_ML_r56 : List (Option jm_I) := [some (.iconst 2, 1, 0, 0, 0), some (.iadd, 1, 0, 0, 0), some (.iaload, 1, 0, 0, 0), some (.aload_n 0, 1, 0, 0, 0), some (.iload_n 3, 1, 0, 0, 0), some (.iconst 3, 1, 0, 0, 0), some (.iadd, 1, 0, 0, 0), some (.iaload, 1, 0, 0, 0), some (.invokevirtual 110, 3, 222, 0, 1611), none, none, some (.if_icmp .eq 354, 3, 0, 0, 0), none, none, some (.iconst 0, 1, 0, 0, 0), some (.ireturn, 1, 0, 0, 0)]
def jm_ML_r57 : List (Option jm_I) := [some (.aload_n 1, 1, 0, 0, 0), some (.aload_n 0, 1, 0, 0, 0), some (.iload_n 3, 1, 0, 0, 0), some (.iconst 1, 1, 0, 0, 0), some (.iadd, 1, 0, 0, 0), some (.iaload, 1, 0, 0, 0), some (.aload_n 0, 1, 0, 0, 0), some (.iload_n 3, 1, 0, 0, 0), some (.iconst 2, 1, 0, 0, 0), some (.iadd, 1, 0, 0, 0), some (.iaload, 1, 0, 0, 0), some (.invokevirtual 111, 3, 103, 0, 946), none, none, some (.aload_n 2, 1, 0, 0, 0), some (.aload_n 0, 1, 0, 0, 0)]
def jm_ML_r58 : List (Option jm_I) := [some (.iload_n 3, 1, 0, 0, 0), some (.iconst 1, 1, 0, 0, 0), some (.iadd, 1, 0, 0, 0), some (.iaload, 1, 0, 0, 0), some (.aload_n 0, 1, 0, 0, 0), some (.iload_n 3, 1, 0, 0, 0), some (.iconst 2, 1, 0, 0, 0), some (.iadd, 1, 0, 0, 0), some (.iaload, 1, 0, 0, 0), some (.invokevirtual 114, 3, 223, 0, 1615), none, none, some (.if_icmp .eq 321, 3, 0, 0, 0), none, none, some (.iconst 0, 1, 0, 0, 0)]
def jm_ML_r59 : List (Option jm_I) := [some (.ireturn, 1, 0, 0, 0), some (.aload_n 1, 1, 0, 0, 0), some (.aload_n 0, 1, 0, 0, 0), some (.iload_n 3, 1, 0, 0, 0), some (.iconst 1, 1, 0, 0, 0), some (.iadd, 1, 0, 0, 0), some (.iaload, 1, 0, 0, 0), some (.aload_n 0, 1, 0, 0, 0), some (.iload_n 3, 1, 0, 0, 0), some (.iconst 2, 1, 0, 0, 0), some (.iadd, 1, 0, 0, 0), some (.iaload, 1, 0, 0, 0), some (.invokevirtual 115, 3, 104, 0, 950), none, none, some (.aload_n 2, 1, 0, 0, 0)]
def jm_ML_r60 : List (Option jm_I) := [some (.aload_n 0, 1, 0, 0, 0), some (.iload_n 3, 1, 0, 0, 0), some (.iconst 1, 1, 0, 0, 0), some (.iadd, 1, 0, 0, 0), some (.iaload, 1, 0, 0, 0), some (.aload_n 0, 1, 0, 0, 0), some (.iload_n 3, 1, 0, 0, 0), some (.iconst 2, 1, 0, 0, 0), some (.iadd, 1, 0, 0, 0), some (.iaload, 1, 0, 0, 0), some (.invokevirtual 118, 3, 224, 0, 1619), none, none, some (.if_icmp .eq 288, 3, 0, 0, 0)]
def jm_ML_r61 : List (Option jm_I) := [some (.iconst 0, 1, 0, 0, 0), some (.ireturn, 1, 0, 0, 0), some (.aload_n 1, 1, 0, 0, 0), some (.aload_n 0, 1, 0, 0, 0), some (.iload_n 3, 1, 0, 0, 0), some (.iconst 1, 1, 0, 0, 0), some (.iadd, 1, 0, 0, 0), some (.iaload, 1, 0, 0, 0), some (.invokevirtual 119, 3, 105, 0, 954), none, none, some (.aload_n 2, 1, 0, 0, 0), some (.aload_n 0, 1, 0, 0, 0), some (.iload_n 3, 1, 0, 0, 0), some (.iconst 1, 1, 0, 0, 0), some (.iadd, 1, 0, 0, 0)]
def jm_ML_r62 : List (Option jm_I) := [some (.iaload, 1, 0, 0, 0), some (.invokevirtual 122, 3, 225, 0, 1623), none, none, some (.if_icmp .eq 265, 3, 0, 0, 0), none, none, some (.iconst 0, 1, 0, 0, 0), some (.ireturn, 1, 0, 0, 0), some (.aload_n 1, 1, 0, 0, 0), some (.invokevirtual 123, 3, 106, 0, 962), none, none, some (.aload_n 2, 1, 0, 0, 0), some (.invokevirtual 126, 3, 226, 0, 1627)]
def jm_ML_r63 : List (Option jm_I) := [none, some (.if_icmp .eq 252, 3, 0, 0, 0), none, none, some (.iconst 0, 1, 0, 0, 0), some (.ireturn, 1, 0, 0, 0), some (.aload_n 1, 1, 0, 0, 0), some (.aload_n 0, 1, 0, 0, 0), some (.iload_n 3, 1, 0, 0, 0), some (.iconst 1, 1, 0, 0, 0), some (.iadd, 1, 0, 0, 0), some (.iaload, 1, 0, 0, 0), some (.aload_n 0, 1, 0, 0, 0), some (.iload_n 3, 1, 0, 0, 0), some (.iconst 2, 1, 0, 0, 0), some (.iadd, 1, 0, 0, 0)]
def jm_ML_r64 : List (Option jm_I) := [some (.iaload, 1, 0, 0, 0), some (.aload_n 0, 1, 0, 0, 0), some (.iload_n 3, 1, 0, 0, 0), some (.iconst 3, 1, 0, 0, 0), some (.iadd, 1, 0, 0, 0), some (.iaload, 1, 0, 0, 0), some (.aload_n 0, 1, 0, 0, 0), some (.iload_n 3, 1, 0, 0, 0), some (.iconst 4, 1, 0, 0, 0), some (.iadd, 1, 0, 0, 0), some (.iaload, 1, 0, 0, 0), some (.invokevirtual 127, 3, 107, 0, 966), none, none, some (.aload_n 2, 1, 0, 0, 0), some (.aload_n 0, 1, 0, 0, 0)]
def jm_ML_r65 : List (Option jm_I) := [some (.iload_n 3, 1, 0, 0, 0), some (.iconst 1, 1, 0, 0, 0), some (.iadd, 1, 0, 0, 0), some (.iaload, 1, 0, 0, 0), some (.aload_n 0, 1, 0, 0, 0), some (.iload_n 3, 1, 0, 0, 0), some (.iconst 2, 1, 0, 0, 0), some (.iadd, 1, 0, 0, 0), some (.iaload, 1, 0, 0, 0), some (.aload_n 0, 1, 0, 0, 0), some (.iload_n 3, 1, 0, 0, 0), some (.iconst 3, 1, 0, 0, 0), some (.iadd, 1, 0, 0, 0), some (.iaload, 1, 0, 0, 0), some (.aload_n 0, 1, 0, 0, 0), some (.iload_n 3, 1, 0, 0, 0)]
def jm_ML_r66 : List (Option jm_I) := [some (.iconst 4, 1, 0, 0, 0), some (.iadd, 1, 0, 0, 0), some (.iaload, 1, 0, 0, 0), some (.invokevirtual 131, 3, 227, 0, 1631), none, none, some (.if_icmp .eq 199, 3, 0, 0, 0), none, none, some (.iconst 0, 1, 0, 0, 0), some (.ireturn, 1, 0, 0, 0), some (.aload_n 1, 1, 0, 0, 0), some (.aload_n 0, 1, 0, 0, 0), some (.iload_n 3, 1, 0, 0, 0), some (.iconst 1, 1, 0, 0, 0), some (.iadd, 1, 0, 0, 0)]
def jm_ML_r67 : List (Option jm_I) := [some (.iaload, 1, 0, 0, 0), some (.aload_n 0, 1, 0, 0, 0), some (.iload_n 3, 1, 0, 0, 0), some (.iconst 2, 1, 0, 0, 0), some (.iadd, 1, 0, 0, 0), some (.iaload, 1, 0, 0, 0), some (.invokevirtual 132, 3, 108, 0, 970), none, none, some (.aload_n 2, 1, 0, 0, 0), some (.aload_n 0, 1, 0, 0, 0), some (.iload_n 3, 1, 0, 0, 0), some (.iconst 1, 1, 0, 0, 0), some (.iadd, 1, 0, 0, 0), some (.iaload, 1, 0, 0, 0), some (.aload_n 0, 1, 0, 0, 0)]
def jm_ML_r68 : List (Option jm_I) := [some (.iload_n 3, 1, 0, 0, 0), some (.iconst 2, 1, 0, 0, 0), some (.iadd, 1, 0, 0, 0), some (.iaload, 1, 0, 0, 0), some (.invokevirtual 135, 3, 228, 0, 1635), none, none, some (.if_icmp .eq 166, 3, 0, 0, 0), none, none, some (.iconst 0, 1, 0, 0, 0), some (.ireturn, 1, 0, 0, 0), some (.aload_n 1, 1, 0, 0, 0), some (.invokevirtual 136, 3, 109, 0, 978)]
def jm_ML_r69 : List (Option jm_I) := [some (.aload_n 2, 1, 0, 0, 0), some (.invokevirtual 139, 3, 229, 0, 1639), none, none, some (.if_icmp .eq 153, 3, 0, 0, 0), none, none, some (.iconst 0, 1, 0, 0, 0), some (.ireturn, 1, 0, 0, 0), some (.aload_n 1, 1, 0, 0, 0), some (.aload_n 0, 1, 0, 0, 0), some (.iload_n 3, 1, 0, 0, 0), some (.iconst 1, 1, 0, 0, 0), some (.iadd, 1, 0, 0, 0), some (.iaload, 1, 0, 0, 0), some (.invokevirtual 140, 3, 110, 0, 982)]
def jm_ML_r70 : List (Option jm_I) := [none, none, some (.aload_n 2, 1, 0, 0, 0), some (.aload_n 0, 1, 0, 0, 0), some (.iload_n 3, 1, 0, 0, 0), some (.iconst 1, 1, 0, 0, 0), some (.iadd, 1, 0, 0, 0), some (.iaload, 1, 0, 0, 0), some (.invokevirtual 143, 3, 233, 0, 1643), none, none, some (.if_icmp .eq 130, 3, 0, 0, 0), none, none, some (.iconst 0, 1, 0, 0, 0), some (.ireturn, 1, 0, 0, 0)]
def jm_ML_r71 : List (Option jm_I) := [some (.aload_n 1, 1, 0, 0, 0), some (.aload_n 0, 1, 0, 0, 0), some (.iload_n 3, 1, 0, 0, 0), some (.iconst 1, 1, 0, 0, 0), some (.iadd, 1, 0, 0, 0), some (.iaload, 1, 0, 0, 0), some (.aload_n 0, 1, 0, 0, 0), some (.iload_n 3, 1, 0, 0, 0), some (.iconst 2, 1, 0, 0, 0), some (.iadd, 1, 0, 0, 0), some (.iaload, 1, 0, 0, 0), some (.invokevirtual 144, 3, 111, 0, 1002), none, none, some (.aload_n 2, 1, 0, 0, 0), some (.aload_n 0, 1, 0, 0, 0)]
def jm_ML_r72 : List (Option jm_I) := [some (.iload_n 3, 1, 0, 0, 0), some (.iconst 1, 1, 0, 0, 0), some (.iadd, 1, 0, 0, 0), some (.iaload, 1, 0, 0, 0), some (.aload_n 0, 1, 0, 0, 0), some (.iload_n 3, 1, 0, 0, 0), some (.iconst 2, 1, 0, 0, 0), some (.iadd, 1, 0, 0, 0), some (.iaload, 1, 0, 0, 0), some (.invokevirtual 147, 3, 234, 0, 1658), none, none, some (.if_icmp .eq 97, 3, 0, 0, 0), none, none, some (.iconst 0, 1, 0, 0, 0)]
def jm_ML_r73 : List (Option jm_I) := [some (.ireturn, 1, 0, 0, 0), some (.aload_n 1, 1, 0, 0, 0), some (.aload_n 0, 1, 0, 0, 0), some (.iload_n 3, 1, 0, 0, 0), some (.iconst 1, 1, 0, 0, 0), some (.iadd, 1, 0, 0, 0), some (.iaload, 1, 0, 0, 0), some (.invokevirtual 148, 3, 112, 0, 1011), none, none, some (.aload_n 2, 1, 0, 0, 0), some (.aload_n 0, 1, 0, 0, 0), some (.iload_n 3, 1, 0, 0, 0), some (.iconst 1, 1, 0, 0, 0), some (.iadd, 1, 0, 0, 0), some (.iaload, 1, 0, 0, 0)]
def jm_ML_r74 : List (Option jm_I) := [some (.invokevirtual 151, 3, 235, 0, 1662), none, none, some (.if_icmp .eq 74, 3, 0, 0, 0), none, none, some (.iconst 0, 1, 0, 0, 0), some (.ireturn, 1, 0, 0, 0), some (.aload_n 1, 1, 0, 0, 0), some (.aload_n 0, 1, 0, 0, 0), some (.iload_n 3, 1, 0, 0, 0), some (.iconst 1, 1, 0, 0, 0), some (.iadd, 1, 0, 0, 0), some (.iaload, 1, 0, 0, 0), some (.invokevirtual 152, 3, 113, 0, 1019)]
def jm_ML_r75 : List (Option jm_I) := [none, some (.aload_n 2, 1, 0, 0, 0), some (.aload_n 0, 1, 0, 0, 0), some (.iload_n 3, 1, 0, 0, 0), some (.iconst 1, 1, 0, 0, 0), some (.iadd, 1, 0, 0, 0), some (.iaload, 1, 0, 0, 0), some (.invokevirtual 156, 3, 236, 0, 1666), none, none, some (.if_icmp .eq 51, 3, 0, 0, 0), none, none, some (.iconst 0, 1, 0, 0, 0), some (.ireturn, 1, 0, 0, 0), some (.aload_n 1, 1, 0, 0, 0)]
def jm_ML_r76 : List (Option jm_I) := [some (.aload_n 0, 1, 0, 0, 0), some (.iload_n 3, 1, 0, 0, 0), some (.iconst 1, 1, 0, 0, 0), some (.iadd, 1, 0, 0, 0), some (.iaload, 1, 0, 0, 0), some (.invokevirtual 157, 3, 114, 0, 1024), none, none, some (.aload_n 2, 1, 0, 0, 0), some (.aload_n 0, 1, 0, 0, 0), some (.iload_n 3, 1, 0, 0, 0), some (.iconst 1, 1, 0, 0, 0), some (.iadd, 1, 0, 0, 0), some (.iaload, 1, 0, 0, 0), some (.invokevirtual 160, 3, 237, 0, 1670)]
def jm_ML_r77 : List (Option jm_I) := [none, some (.if_icmp .eq 28, 3, 0, 0, 0), none, none, some (.iconst 0, 1, 0, 0, 0), some (.ireturn, 1, 0, 0, 0), some (.aload_n 1, 1, 0, 0, 0), some (.aload_n 0, 1, 0, 0, 0), some (.iload_n 3, 1, 0, 0, 0), some (.iconst 1, 1, 0, 0, 0), some (.iadd, 1, 0, 0, 0), some (.iaload, 1, 0, 0, 0), some (.invokevirtual 161, 3, 115, 0, 1029), none, none, some (.aload_n 2, 1, 0, 0, 0)]
def jm_ML_r78 : List (Option jm_I) := [some (.aload_n 0, 1, 0, 0, 0), some (.iload_n 3, 1, 0, 0, 0), some (.iconst 1, 1, 0, 0, 0), some (.iadd, 1, 0, 0, 0), some (.iaload, 1, 0, 0, 0), some (.invokevirtual 164, 3, 238, 0, 1674), none, none, some (.if_icmp .eq 5, 3, 0, 0, 0), none, none, some (.iconst 0, 1, 0, 0, 0), some (.ireturn, 1, 0, 0, 0), some (.iinc 3 6, 3, 0, 0, 0)]
def jm_ML_r79 : List (Option jm_I) := [some (.goto (-1246), 3, 0, 0, 0), none, none, some (.iconst 1, 1, 0, 0, 0), some (.ireturn, 1, 0, 0, 0)]
/-- FallMarketLaw.law([I)Z -/
def jm_ML : jm_M := (⟨"FallMarketLaw", "law", "([I)Z"⟩, code, 4, ret, [jm_ML_r0, jm_ML_r1, jm_ML_r2, jm_ML_r3, jm_ML_r4, jm_ML_r5, jm_ML_r6, jm_ML_r7, jm_ML_r8, jm_ML_r9, jm_ML_r10, jm_ML_r11, jm_ML_r12, jm_ML_r13, jm_ML_r14, jm_ML_r15, jm_ML_r16, jm_ML_r17, jm_ML_r18, jm_ML_r19, jm_ML_r20, jm_ML_r21, jm_ML_r22, jm_ML_r23, jm_ML_r24, jm_ML_r25, jm_ML_r26, jm_ML_r27, jm_ML_r28, jm_ML_r29, jm_ML_r30, jm_ML_r31, jm_ML_r32, jm_ML_r33, jm_ML_r34, jm_ML_r35, jm_ML_r36, jm_ML_r37, jm_ML_r38, jm_ML_r39, jm_ML_r40, jm_ML_r41, jm_ML_r42, jm_ML_r43, jm_ML_r44, jm_ML_r45, jm_ML_r46, jm_ML_r47, jm_ML_r48, jm_ML_r49, jm_ML_r50, jm_ML_r51, jm_ML_r52, jm_ML_r53, jm_ML_r54, jm_ML_r55, jm_ML_r56, jm_ML_r57, jm_ML_r58, jm_ML_r59, jm_ML_r60, jm_ML_r61, jm_ML_r62, jm_ML_r63, jm_ML_r64, jm_ML_r65, jm_ML_r66, jm_ML_r67, jm_ML_r68, jm_ML_r69, jm_ML_r70, jm_ML_r71, jm_ML_r72, jm_ML_r73, jm_ML_r74, jm_ML_r75, jm_ML_r76, jm_ML_r77, jm_ML_r78, jm_ML_r79], 1, 1, 0, 0)
end
section
/-! ===== all methods, a list ===== -/
def jm_TB : List jm_M := [jm_M0, jm_M1, jm_M2, jm_M3, jm_M4, jm_M5, jm_M6, jm_M7, jm_M8, jm_M9, jm_M10, jm_M11, jm_M12, jm_M13, jm_M14, jm_M15, jm_M16, jm_M17, jm_M18, jm_M19, jm_M20, jm_M21, jm_M22, jm_M23, jm_M24, jm_M25, jm_M26, jm_M27, jm_M28, jm_M29, jm_M30, jm_M31, jm_M32, jm_M33, jm_M34, jm_M35, jm_M36, jm_M37, jm_M38, jm_M39, jm_M40, jm_M41, jm_M42, jm_M43, jm_M44, jm_M45, jm_M46, jm_M47, jm_M48, jm_M49, jm_M50, jm_M51, jm_M52, jm_M53, jm_M54, jm_M55, jm_M56, jm_M57, jm_M58, jm_M59, jm_M60, jm_M61, jm_M62, jm_M63, jm_M64, jm_M65, jm_M66, jm_M67, jm_M68, jm_M69, jm_M70, jm_M71, jm_M72, jm_M73, jm_M74, jm_M75, jm_M76, jm_M77, jm_M78, jm_M79, jm_M80, jm_M81, jm_M82, jm_M83, jm_M84, jm_M85, jm_M86, jm_M87, jm_M88, jm_M89, jm_M90, jm_M91, jm_M92, jm_M93, jm_M94, jm_M95, jm_M96, jm_M97, jm_M98, jm_M99, jm_M100, jm_M101, jm_M102, jm_M103, jm_M104, jm_M105, jm_M106, jm_M107, jm_M108, jm_M109, jm_M110, jm_M111, jm_M112, jm_M113, jm_M114, jm_M115, jm_M116, jm_M117, jm_M118, jm_M119, jm_M120, jm_M121, jm_M122, jm_M123, jm_M124, jm_M125, jm_M126, jm_M127, jm_M128, jm_M129, jm_M130, jm_M131, jm_M132, jm_M133, jm_M134, jm_M135, jm_M136, jm_M137, jm_M138, jm_M139, jm_M140, jm_M141, jm_M142, jm_M143, jm_M144, jm_M145, jm_M146, jm_M147, jm_M148, jm_M149, jm_M150, jm_M151, jm_M152, jm_M153, jm_M154, jm_M155, jm_M156, jm_M157, jm_M158, jm_M159, jm_M160, jm_M161, jm_M162, jm_M163, jm_M164, jm_M165, jm_M166, jm_M167, jm_M168, jm_M169, jm_M170, jm_M171, jm_M172, jm_M173, jm_M174, jm_M175, jm_M176, jm_M177, jm_M178, jm_M179, jm_M180, jm_M181, jm_M182, jm_M183, jm_M184, jm_M185, jm_M186, jm_M187, jm_M188, jm_M189, jm_M190, jm_M191, jm_M192, jm_M193, jm_M194, jm_M195, jm_M196, jm_M197, jm_M198, jm_M199, jm_M200, jm_M201, jm_M202, jm_M203, jm_M204, jm_M205, jm_M206, jm_M207, jm_M208, jm_M209, jm_M210, jm_M211, jm_M212, jm_M213, jm_M214, jm_M215, jm_M216, jm_M217, jm_M218, jm_M219, jm_M220, jm_M221, jm_M222, jm_M223, jm_M224, jm_M225, jm_M226, jm_M227, jm_M228, jm_M229, jm_M230, jm_M231, jm_M232, jm_M233, jm_M234, jm_M235, jm_M236, jm_M237, jm_M238, jm_M239, jm_M240, jm_M241, jm_M242, jm_M243, jm_M244, jm_M245, jm_M246, jm_M247, jm_M248, jm_M249, jm_M250, jm_M251, jm_M252, jm_M253, jm_M254, jm_M255]
set_option maxRecDepth 100000 in
theorem jm_hYN : jm_YN = jm_TB.map jm_y := rfl
end
section
/-! ===== the cells behind the two constructors ===== -/
def jm_H1 : List jm_c := [.inr (9, [.ref 9, .int 0, .int (-1), .ref 10, .ref 20, .ref 30, .ref 38, .ref 41, .ref 42, .ref 46, .ref 56, .ref 66, .ref 68, .ref 69, .ref 70]),
  .inl (1, 2000, .inl []),
  .inr (5, [.int 0, .ref 11, .ref 12, .ref 13, .ref 14, .int 0, .ref 15, .ref 16, .ref 17, .int 10, .int 6, .int 0, .ref 18, .ref 19, .int 12]),
  .inl (0, 7, .inl []),
  .inl (0, 7, .inl []),
  .inl (0, 7, .inl []),
  .inl (0, 7, .inl []),
  .inl (0, 4, .inl []),
  .inl (0, 4, .inl []),
  .inl (0, 4, .inl []),
  .inl (0, 6, .inl [0, 2, 4, 6, 8, 10]),
  .inl (0, 512, .inl [0, -14, 1, -14, -1, -14, -1, -14, 0, -14, 0, -14]),
  .inr (5, [.int 0, .ref 21, .ref 22, .ref 23, .ref 24, .int 0, .ref 25, .ref 26, .ref 27, .int 10, .int 6, .int 0, .ref 28, .ref 29, .int 12]),
  .inl (0, 7, .inl []),
  .inl (0, 7, .inl []),
  .inl (0, 7, .inl []),
  .inl (0, 7, .inl []),
  .inl (0, 4, .inl []),
  .inl (0, 4, .inl []),
  .inl (0, 4, .inl []),
  .inl (0, 6, .inl [0, 2, 4, 6, 8, 10]),
  .inl (0, 512, .inl [0, -14, 1, -14, -1, -14, -1, -14, 0, -14, 0, -14]),
  .inr (4, [.ref 31, .ref 20, .int 0, .int 0, .int (-1), .int 0, .int (-1), .ref 36, .int 0, .ref 37]),
  .inr (6, [.ref 32, .ref 33, .ref 34, .ref 35]),
  .inl (0, 401, .inl []),
  .inl (0, 401, .inl []),
  .inl (3, 401, .inr []),
  .inl (3, 23, .inr [3558512, 1494603, 459652, 263382265, 3217420, 12532058, 1001512747, 3499582, 125042, 5948362, 377761, 249, 399641, 107681, 361292, 164222, 168984, 1310653, 16308991, 276908612, 6465306496, 8800, 240023]),
  .inl (3, 11, .inr []),
  .inl (0, 3, .inl []),
  .inr (2, [.ref 39, .ref 40]),
  .inl (0, 9, .inl [0, 0, 0, 0, 0, 0, 0, 0, 0]),
  .inl (0, 32, .inl [0]),
  .inr (0, [.ref 38]),
  .inr (3, [.ref 43, .ref 44, .ref 45, .ref 38]),
  .inl (0, 4, .inl []),
  .inl (0, 4, .inl []),
  .inl (3, 7, .inr []),
  .inr (1, [.int 0, .int 0, .int 0, .ref 47, .ref 48, .ref 49, .ref 50, .ref 51, .ref 52, .ref 53, .ref 54, .ref 55]),
  .inl (0, 7, .inl [0, 0, 0, 0, 0, 0, 0]),
  .inl (0, 7, .inl [0, 0, 0, 0, 0, 0, 0]),
  .inl (0, 7, .inl [-2, -2, -2, -2, -2, -2, -2]),
  .inl (0, 7, .inl [0, 0, 0, 0, 0, 0, 0]),
  .inl (0, 7, .inl [0, 0, 0, 0, 0, 0, 0]),
  .inl (0, 7, .inl [0, 0, 0, 0, 0, 0, 0]),
  .inl (0, 7, .inl [0, 0, 0, 0, 0, 0, 0]),
  .inl (0, 4, .inl [0, 0, 0, 0]),
  .inl (0, 4, .inl [0, 0, 0, 0]),
  .inr (1, [.int 0, .int 0, .int 0, .ref 57, .ref 58, .ref 59, .ref 60, .ref 61, .ref 62, .ref 63, .ref 64, .ref 65]),
  .inl (0, 7, .inl []),
  .inl (0, 7, .inl []),
  .inl (0, 7, .inl []),
  .inl (0, 7, .inl []),
  .inl (0, 7, .inl []),
  .inl (0, 7, .inl []),
  .inl (0, 7, .inl []),
  .inl (0, 4, .inl []),
  .inl (0, 4, .inl []),
  .inr (8, [.ref 67, .int 0, .int 0]),
  .inl (0, 2400, .inl []),
  .inl (0, 180, .inl [0, 0, 0, 0, 0, 0, 0, 0, 0, 0, 0, 0, 0, 0, 0, 0, 0, 0, 0, 0, 0, 0, 0, 0, 0, 0, 0, 0, 0, 0, 0, 0, 0, 0, 0, 0, 0, 0, 0, 0, 0, 0, 0, 0, 0, 0, 0, 0, 0, 0, 0, 0, 0, 0, 0, 0, 0, 0, 0, 0, 0, 0, 0, 0, 0, 0, 0, 0, 0, 0, 0, 0, 0, 0, 0, 0, 0, 0, 0, 0, 0, 0, 0, 0, 0, 0, 0, 0, 0, 0, 0, 0, 0, 0, 0, 0, 0, 0, 0, 0, 0, 0, 0, 0, 0, 0, 0, 0, 0, 0, 0, 0, 0, 0, 0, 0, 0, 0, 0, 0, 0, 0, 0, 0, 0, 0, 0, 0, 0, 0, 0, 0, 0, 0, 0, 0, 0, 0, 0, 0, 0, 0, 0, 0, 0, 0, 0, 0, 0, 0, 0, 0, 0, 0, 0, 0, 0, 0, 0, 0, 0, 0, 0, 0, 0, 0, 0, 0, 0, 0, 0, 0, 0, 0, 0, 0, 0, 0, 0, 0]),
  .inl (2, 3, .inl [0, 0, 0]),
  .inr (7, [.ref 71, .ref 72, .int 0]),
  .inl (0, 7, .inl []),
  .inl (0, 7, .inl [])]
def jm_H2 : List jm_c := [.inr (10, [.int 0, .ref 1001, .int 0, .ref 1002, .int 0, .ref 1003, .ref 1004, .ref 1005, .ref 1006, .ref 1007, .int 0, .int 0, .int 0, .int 0, .int 0, .int 0, .int 0, .int (-1), .int 0, .int 0, .int 0, .ref 1008, .ref 1009, .ref 1010, .ref 1011, .ref 1012, .ref 1013, .ref 1014, .ref 1015, .ref 1016, .ref 1017, .ref 1018, .ref 1019, .ref 1020, .ref 1021, .int 0, .ref 1022, .ref 1023, .ref 1024, .ref 1025, .ref 1026, .int 0, .ref 1027, .ref 1028, .ref 1029, .int 0, .ref 1030, .ref 1031, .int 0, .ref 1032, .ref 1033, .int 0, .ref 1034, .ref 1035, .ref 1036, .ref 1037, .int 0, .int 0, .ref 1038, .ref 1039, .ref 1040, .int 0, .ref 1041, .ref 1042, .ref 1043, .ref 1044, .int 0, .ref 1045, .ref 1046]),
  .inl (1, 2000, .inl []),
  .inl (1, 2000, .inl []),
  .inl (0, 403, .inl []),
  .inl (0, 403, .inl []),
  .inl (0, 403, .inl []),
  .inl (3, 403, .inr []),
  .inl (3, 23, .inr [3558512, 1494603, 459652, 263382265, 3217420, 12532058, 1001512747, 3499582, 125042, 5948362, 377761, 249, 399641, 107681, 361292, 164222, 168984, 1310653, 16308991, 276908612, 6465306496, 8800, 240023]),
  .inl (3, 11, .inr []),
  .inl (0, 2, .inl [0]),
  .inl (0, 14, .inl []),
  .inl (0, 14, .inl []),
  .inl (0, 14, .inl []),
  .inl (0, 2, .inl [0]),
  .inl (0, 8, .inl []),
  .inl (0, 8, .inl []),
  .inl (0, 8, .inl []),
  .inl (0, 2, .inl [10]),
  .inl (0, 2, .inl [6]),
  .inl (0, 2, .inl [0]),
  .inl (0, 12, .inl [0, 0, 0, 0, 0, 0]),
  .inl (0, 12, .inl [0, 0, 0, 0, 0, 0]),
  .inl (2, 260, .inl []),
  .inl (0, 260, .inl []),
  .inl (0, 260, .inl []),
  .inl (0, 260, .inl []),
  .inl (0, 260, .inl []),
  .inl (0, 840, .inl []),
  .inl (0, 840, .inl []),
  .inl (0, 64, .inl []),
  .inl (0, 9, .inl []),
  .inl (0, 400, .inl []),
  .inl (0, 61, .inl [0, 0, 0, 0, 0, 0, 0, 0, 0, 0, 0, 0, 0, 0, 0, 0, 0, 0, 0, 0, 0, -2, -2, -2, -2, -2, -2, -2, 0, 0, 0, 0, 0, 0, 0, 0, 0, 0, 0, 0, 0, 0, 0, 0, 0, 0, 0, 0, 0, 0, 0, 0, 0, 0, 0, 0, 0, 0, 0, 0, 0]),
  .inl (0, 61, .inl [0, 0, 0, 0, 0, 0, 0, 0, 0, 0, 0, 0, 0, 0, 0, 0, 0, 0, 0, 0, 0, -2, -2, -2, -2, -2, -2, -2, 0, 0, 0, 0, 0, 0, 0, 0, 0, 0, 0, 0, 0, 0, 0, 0, 0, 0, 0, 0, 0, 0, 0, 0, 0, 0, 0, 0, 0, 0, 0, 0, 0]),
  .inl (2, 7, .inl []),
  .inl (0, 7, .inl []),
  .inl (0, 7, .inl []),
  .inl (0, 7, .inl []),
  .inl (0, 2440, .inl []),
  .inl (0, 4, .inl []),
  .inl (0, 4, .inl []),
  .inl (0, 7, .inl []),
  .inl (0, 7, .inl []),
  .inl (0, 7, .inl []),
  .inl (0, 49, .inl []),
  .inl (2, 3, .inl []),
  .inl (0, 183, .inl [])]
end
section
/-! ===== all methods, and that their rows hold ===== -/
theorem jm_tck_cons {YN : List MethodName} {M : jm_M} {b : Nat} {r : List (Option jm_I)} {t : List (List (Option jm_I))} (h : jm_rck YN M b r = true) (ht : jm_tck YN M (b + 16) t = true) : jm_tck YN M b (r :: t) = true := by rw [jm_tck, h, ht]; rfl
theorem jm_p1 {w : Cond} (h : w ∈ tables_1_1) : w ∈ lw_tbl := List.mem_append_right _ (List.mem_append_left _ h)
theorem jm_p2 {w : Cond} (h : w ∈ tables_1_2) : w ∈ lw_tbl := List.mem_append_right _ (List.mem_append_right _ (List.mem_append_left _ h))
theorem jm_p3 {w : Cond} (h : w ∈ tables_1_3) : w ∈ lw_tbl := List.mem_append_right _ (List.mem_append_right _ (List.mem_append_right _ (List.mem_append_left _ h)))
theorem jm_p4 {w : Cond} (h : w ∈ tables_1_4) : w ∈ lw_tbl := List.mem_append_right _ (List.mem_append_right _ (List.mem_append_right _ (List.mem_append_right _ (List.mem_append_left _ h))))
theorem jm_p5 {w : Cond} (h : w ∈ tables_1_5) : w ∈ lw_tbl := List.mem_append_right _ (List.mem_append_right _ (List.mem_append_right _ (List.mem_append_right _ (List.mem_append_right _ (List.mem_append_left _ h)))))
theorem jm_p6 {w : Cond} (h : w ∈ tables_1_6) : w ∈ lw_tbl := List.mem_append_right _ (List.mem_append_right _ (List.mem_append_right _ (List.mem_append_right _ (List.mem_append_right _ (List.mem_append_right _ (List.mem_append_left _ h))))))
theorem jm_p7 {w : Cond} (h : w ∈ tables_1_7) : w ∈ lw_tbl := List.mem_append_right _ (List.mem_append_right _ (List.mem_append_right _ (List.mem_append_right _ (List.mem_append_right _ (List.mem_append_right _ (List.mem_append_right _ h))))))
theorem jm_ok0 : jm_ok jm_YN jm_M0 := ⟨jm_tbl_mem (jm_p2 (List.mem_of_getElem? (i := 20) rfl)) rfl, jm_tbl_mem (jm_p1 (List.mem_of_getElem? (i := 10) (by decide +kernel))) (by decide +kernel), by decide +kernel, ⟨by decide +kernel, by decide +kernel⟩, by decide +kernel, by decide, fun h => absurd h (by decide), fun h => absurd h (by decide), fun _ => ⟨jm_tbl_mem (jm_p2 (List.mem_of_getElem? (i := 19) (by decide +kernel))) (by decide +kernel), rfl, rfl⟩, by decide +kernel⟩
theorem jm_ok1 : jm_ok jm_YN jm_M1 := ⟨jm_tbl_mem (jm_p3 (List.mem_of_getElem? (i := 231) rfl)) rfl, jm_tbl_mem (jm_p1 (List.mem_of_getElem? (i := 10) (by decide +kernel))) (by decide +kernel), by decide +kernel, ⟨by decide +kernel, by decide +kernel⟩, by decide +kernel, by decide, fun _ => jm_tbl_mem (jm_p3 (List.mem_of_getElem? (i := 230) (by decide +kernel))) (by decide +kernel), fun h => absurd h (by decide), fun h => absurd h (by decide), by decide +kernel⟩
theorem jm_ok2 : jm_ok jm_YN jm_M2 := ⟨jm_tbl_mem (jm_p3 (List.mem_of_getElem? (i := 234) rfl)) rfl, jm_tbl_mem (jm_p1 (List.mem_of_getElem? (i := 10) (by decide +kernel))) (by decide +kernel), by decide +kernel, ⟨by decide +kernel, by decide +kernel⟩, by decide +kernel, by decide, fun _ => jm_tbl_mem (jm_p3 (List.mem_of_getElem? (i := 233) (by decide +kernel))) (by decide +kernel), fun h => absurd h (by decide), fun h => absurd h (by decide), by decide +kernel⟩
theorem jm_M3_k0 : jm_rck jm_YN jm_M3 0 jm_M3_r0 = true := by decide +kernel
theorem jm_M3_k1 : jm_rck jm_YN jm_M3 16 jm_M3_r1 = true := by decide +kernel
theorem jm_M3_k2 : jm_rck jm_YN jm_M3 32 jm_M3_r2 = true := by decide +kernel
theorem jm_M3_k3 : jm_rck jm_YN jm_M3 48 jm_M3_r3 = true := by decide +kernel
theorem jm_M3_k4 : jm_rck jm_YN jm_M3 64 jm_M3_r4 = true := by decide +kernel
theorem jm_M3_k5 : jm_rck jm_YN jm_M3 80 jm_M3_r5 = true := by decide +kernel
theorem jm_M3_k6 : jm_rck jm_YN jm_M3 96 jm_M3_r6 = true := by decide +kernel
theorem jm_M3_k7 : jm_rck jm_YN jm_M3 112 jm_M3_r7 = true := by decide +kernel
theorem jm_M3_k8 : jm_rck jm_YN jm_M3 128 jm_M3_r8 = true := by decide +kernel
theorem jm_M3_k9 : jm_rck jm_YN jm_M3 144 jm_M3_r9 = true := by decide +kernel
theorem jm_M3_k10 : jm_rck jm_YN jm_M3 160 jm_M3_r10 = true := by decide +kernel
theorem jm_M3_k11 : jm_rck jm_YN jm_M3 176 jm_M3_r11 = true := by decide +kernel
theorem jm_M3_k : jm_tck jm_YN jm_M3 0 (jm_tb jm_M3) = true := jm_tck_cons jm_M3_k0 (jm_tck_cons jm_M3_k1 (jm_tck_cons jm_M3_k2 (jm_tck_cons jm_M3_k3 (jm_tck_cons jm_M3_k4 (jm_tck_cons jm_M3_k5 (jm_tck_cons jm_M3_k6 (jm_tck_cons jm_M3_k7 (jm_tck_cons jm_M3_k8 (jm_tck_cons jm_M3_k9 (jm_tck_cons jm_M3_k10 (jm_tck_cons jm_M3_k11 (rfl))))))))))))
theorem jm_ok3 : jm_ok jm_YN jm_M3 := ⟨jm_tbl_mem (jm_p4 (List.mem_of_getElem? (i := 3) rfl)) rfl, jm_tbl_mem (jm_p1 (List.mem_of_getElem? (i := 10) (by decide +kernel))) (by decide +kernel), by decide +kernel, ⟨by decide +kernel, by decide +kernel⟩, by decide +kernel, by decide, fun h => absurd h (by decide), fun _ => ⟨jm_tbl_mem (jm_p4 (List.mem_of_getElem? (i := 1) (by decide +kernel))) (by decide +kernel), jm_tbl_mem (jm_p4 (List.mem_of_getElem? (i := 2) (by decide +kernel))) (by decide +kernel), Or.inr rfl⟩, fun h => absurd h (by decide), jm_M3_k⟩
theorem jm_ok4 : jm_ok jm_YN jm_M4 := ⟨jm_tbl_mem (jm_p4 (List.mem_of_getElem? (i := 9) rfl)) rfl, jm_tbl_mem (jm_p1 (List.mem_of_getElem? (i := 10) (by decide +kernel))) (by decide +kernel), by decide +kernel, ⟨by decide +kernel, by decide +kernel⟩, by decide +kernel, by decide, fun h => absurd h (by decide), fun _ => ⟨jm_tbl_mem (jm_p4 (List.mem_of_getElem? (i := 8) (by decide +kernel))) (by decide +kernel), jm_tbl_mem (List.mem_append_left _ (List.mem_map.mpr ⟨(⟨"FallMarket$Clock", "sellOrKeep", "(LFallMarket$Text;LFallMarket$Ground;I)V"⟩, 1), by decide +kernel, rfl⟩)) (by decide +kernel), Or.inr rfl⟩, fun h => absurd h (by decide), by decide +kernel⟩
theorem jm_ok5 : jm_ok jm_YN jm_M5 := ⟨jm_tbl_mem (jm_p4 (List.mem_of_getElem? (i := 24) rfl)) rfl, jm_tbl_mem (jm_p1 (List.mem_of_getElem? (i := 10) (by decide +kernel))) (by decide +kernel), by decide +kernel, ⟨by decide +kernel, by decide +kernel⟩, by decide +kernel, by decide, fun h => absurd h (by decide), fun _ => ⟨jm_tbl_mem (jm_p4 (List.mem_of_getElem? (i := 23) (by decide +kernel))) (by decide +kernel), jm_tbl_mem (List.mem_append_left _ (List.mem_map.mpr ⟨(⟨"FallMarket$Clock", "letFall", "(LFallMarket$Text;LFallMarket$Ground;I)V"⟩, 1), by decide +kernel, rfl⟩)) (by decide +kernel), Or.inr rfl⟩, fun h => absurd h (by decide), by decide +kernel⟩
theorem jm_ok6 : jm_ok jm_YN jm_M6 := ⟨jm_tbl_mem (jm_p2 (List.mem_of_getElem? (i := 51) rfl)) rfl, jm_tbl_mem (jm_p1 (List.mem_of_getElem? (i := 12) (by decide +kernel))) (by decide +kernel), by decide +kernel, ⟨by decide +kernel, by decide +kernel⟩, by decide +kernel, by decide, fun h => absurd h (by decide), fun h => absurd h (by decide), fun _ => ⟨jm_tbl_mem (jm_p2 (List.mem_of_getElem? (i := 50) (by decide +kernel))) (by decide +kernel), rfl, rfl⟩, by decide +kernel⟩
theorem jm_ok7 : jm_ok jm_YN jm_M7 := ⟨jm_tbl_mem (jm_p2 (List.mem_of_getElem? (i := 159) rfl)) rfl, jm_tbl_mem (jm_p1 (List.mem_of_getElem? (i := 12) (by decide +kernel))) (by decide +kernel), by decide +kernel, ⟨by decide +kernel, by decide +kernel⟩, by decide +kernel, by decide, fun h => absurd h (by decide), fun _ => ⟨jm_tbl_mem (jm_p2 (List.mem_of_getElem? (i := 157) (by decide +kernel))) (by decide +kernel), jm_tbl_mem (jm_p2 (List.mem_of_getElem? (i := 158) (by decide +kernel))) (by decide +kernel), Or.inr rfl⟩, fun h => absurd h (by decide), by decide +kernel⟩
theorem jm_ok8 : jm_ok jm_YN jm_M8 := ⟨jm_tbl_mem (jm_p4 (List.mem_of_getElem? (i := 84) rfl)) rfl, jm_tbl_mem (jm_p1 (List.mem_of_getElem? (i := 12) (by decide +kernel))) (by decide +kernel), by decide +kernel, ⟨by decide +kernel, by decide +kernel⟩, by decide +kernel, by decide, fun h => absurd h (by decide), fun _ => ⟨jm_tbl_mem (jm_p4 (List.mem_of_getElem? (i := 82) (by decide +kernel))) (by decide +kernel), jm_tbl_mem (jm_p4 (List.mem_of_getElem? (i := 83) (by decide +kernel))) (by decide +kernel), Or.inr rfl⟩, fun h => absurd h (by decide), by decide +kernel⟩
theorem jm_M9_k0 : jm_rck jm_YN jm_M9 0 jm_M9_r0 = true := by decide +kernel
theorem jm_M9_k1 : jm_rck jm_YN jm_M9 16 jm_M9_r1 = true := by decide +kernel
theorem jm_M9_k2 : jm_rck jm_YN jm_M9 32 jm_M9_r2 = true := by decide +kernel
theorem jm_M9_k3 : jm_rck jm_YN jm_M9 48 jm_M9_r3 = true := by decide +kernel
theorem jm_M9_k4 : jm_rck jm_YN jm_M9 64 jm_M9_r4 = true := by decide +kernel
theorem jm_M9_k5 : jm_rck jm_YN jm_M9 80 jm_M9_r5 = true := by decide +kernel
theorem jm_M9_k6 : jm_rck jm_YN jm_M9 96 jm_M9_r6 = true := by decide +kernel
theorem jm_M9_k7 : jm_rck jm_YN jm_M9 112 jm_M9_r7 = true := by decide +kernel
theorem jm_M9_k8 : jm_rck jm_YN jm_M9 128 jm_M9_r8 = true := by decide +kernel
theorem jm_M9_k9 : jm_rck jm_YN jm_M9 144 jm_M9_r9 = true := by decide +kernel
theorem jm_M9_k10 : jm_rck jm_YN jm_M9 160 jm_M9_r10 = true := by decide +kernel
theorem jm_M9_k : jm_tck jm_YN jm_M9 0 (jm_tb jm_M9) = true := jm_tck_cons jm_M9_k0 (jm_tck_cons jm_M9_k1 (jm_tck_cons jm_M9_k2 (jm_tck_cons jm_M9_k3 (jm_tck_cons jm_M9_k4 (jm_tck_cons jm_M9_k5 (jm_tck_cons jm_M9_k6 (jm_tck_cons jm_M9_k7 (jm_tck_cons jm_M9_k8 (jm_tck_cons jm_M9_k9 (jm_tck_cons jm_M9_k10 (rfl)))))))))))
theorem jm_ok9 : jm_ok jm_YN jm_M9 := ⟨jm_tbl_mem (jm_p3 (List.mem_of_getElem? (i := 219) rfl)) rfl, jm_tbl_mem (jm_p1 (List.mem_of_getElem? (i := 12) (by decide +kernel))) (by decide +kernel), by decide +kernel, ⟨by decide +kernel, by decide +kernel⟩, by decide +kernel, by decide, fun h => absurd h (by decide), fun _ => ⟨jm_tbl_mem (jm_p3 (List.mem_of_getElem? (i := 217) (by decide +kernel))) (by decide +kernel), jm_tbl_mem (jm_p3 (List.mem_of_getElem? (i := 218) (by decide +kernel))) (by decide +kernel), Or.inr rfl⟩, fun h => absurd h (by decide), jm_M9_k⟩
theorem jm_M10_k0 : jm_rck jm_YN jm_M10 0 jm_M10_r0 = true := by decide +kernel
theorem jm_M10_k1 : jm_rck jm_YN jm_M10 16 jm_M10_r1 = true := by decide +kernel
theorem jm_M10_k2 : jm_rck jm_YN jm_M10 32 jm_M10_r2 = true := by decide +kernel
theorem jm_M10_k3 : jm_rck jm_YN jm_M10 48 jm_M10_r3 = true := by decide +kernel
theorem jm_M10_k4 : jm_rck jm_YN jm_M10 64 jm_M10_r4 = true := by decide +kernel
theorem jm_M10_k5 : jm_rck jm_YN jm_M10 80 jm_M10_r5 = true := by decide +kernel
theorem jm_M10_k6 : jm_rck jm_YN jm_M10 96 jm_M10_r6 = true := by decide +kernel
theorem jm_M10_k7 : jm_rck jm_YN jm_M10 112 jm_M10_r7 = true := by decide +kernel
theorem jm_M10_k8 : jm_rck jm_YN jm_M10 128 jm_M10_r8 = true := by decide +kernel
theorem jm_M10_k9 : jm_rck jm_YN jm_M10 144 jm_M10_r9 = true := by decide +kernel
theorem jm_M10_k10 : jm_rck jm_YN jm_M10 160 jm_M10_r10 = true := by decide +kernel
theorem jm_M10_k : jm_tck jm_YN jm_M10 0 (jm_tb jm_M10) = true := jm_tck_cons jm_M10_k0 (jm_tck_cons jm_M10_k1 (jm_tck_cons jm_M10_k2 (jm_tck_cons jm_M10_k3 (jm_tck_cons jm_M10_k4 (jm_tck_cons jm_M10_k5 (jm_tck_cons jm_M10_k6 (jm_tck_cons jm_M10_k7 (jm_tck_cons jm_M10_k8 (jm_tck_cons jm_M10_k9 (jm_tck_cons jm_M10_k10 (rfl)))))))))))
theorem jm_ok10 : jm_ok jm_YN jm_M10 := ⟨jm_tbl_mem (jm_p4 (List.mem_of_getElem? (i := 46) rfl)) rfl, jm_tbl_mem (jm_p1 (List.mem_of_getElem? (i := 12) (by decide +kernel))) (by decide +kernel), by decide +kernel, ⟨by decide +kernel, by decide +kernel⟩, by decide +kernel, by decide, fun h => absurd h (by decide), fun _ => ⟨jm_tbl_mem (jm_p4 (List.mem_of_getElem? (i := 44) (by decide +kernel))) (by decide +kernel), jm_tbl_mem (jm_p4 (List.mem_of_getElem? (i := 45) (by decide +kernel))) (by decide +kernel), Or.inr rfl⟩, fun h => absurd h (by decide), jm_M10_k⟩
theorem jm_ok11 : jm_ok jm_YN jm_M11 := ⟨jm_tbl_mem (jm_p3 (List.mem_of_getElem? (i := 194) rfl)) rfl, jm_tbl_mem (jm_p1 (List.mem_of_getElem? (i := 12) (by decide +kernel))) (by decide +kernel), by decide +kernel, ⟨by decide +kernel, by decide +kernel⟩, by decide +kernel, by decide, fun h => absurd h (by decide), fun _ => ⟨jm_tbl_mem (jm_p3 (List.mem_of_getElem? (i := 192) (by decide +kernel))) (by decide +kernel), jm_tbl_mem (jm_p3 (List.mem_of_getElem? (i := 193) (by decide +kernel))) (by decide +kernel), Or.inr rfl⟩, fun h => absurd h (by decide), by decide +kernel⟩
theorem jm_ok12 : jm_ok jm_YN jm_M12 := ⟨jm_tbl_mem (jm_p3 (List.mem_of_getElem? (i := 190) rfl)) rfl, jm_tbl_mem (jm_p1 (List.mem_of_getElem? (i := 12) (by decide +kernel))) (by decide +kernel), by decide +kernel, ⟨by decide +kernel, by decide +kernel⟩, by decide +kernel, by decide, fun h => absurd h (by decide), fun _ => ⟨jm_tbl_mem (jm_p3 (List.mem_of_getElem? (i := 188) (by decide +kernel))) (by decide +kernel), jm_tbl_mem (jm_p3 (List.mem_of_getElem? (i := 189) (by decide +kernel))) (by decide +kernel), Or.inr rfl⟩, fun h => absurd h (by decide), by decide +kernel⟩
theorem jm_ok13 : jm_ok jm_YN jm_M13 := ⟨jm_tbl_mem (jm_p4 (List.mem_of_getElem? (i := 28) rfl)) rfl, jm_tbl_mem (jm_p1 (List.mem_of_getElem? (i := 12) (by decide +kernel))) (by decide +kernel), by decide +kernel, ⟨by decide +kernel, by decide +kernel⟩, by decide +kernel, by decide, fun h => absurd h (by decide), fun _ => ⟨jm_tbl_mem (jm_p4 (List.mem_of_getElem? (i := 26) (by decide +kernel))) (by decide +kernel), jm_tbl_mem (jm_p4 (List.mem_of_getElem? (i := 27) (by decide +kernel))) (by decide +kernel), Or.inr rfl⟩, fun h => absurd h (by decide), by decide +kernel⟩
theorem jm_ok14 : jm_ok jm_YN jm_M14 := ⟨jm_tbl_mem (jm_p4 (List.mem_of_getElem? (i := 15) rfl)) rfl, jm_tbl_mem (jm_p1 (List.mem_of_getElem? (i := 12) (by decide +kernel))) (by decide +kernel), by decide +kernel, ⟨by decide +kernel, by decide +kernel⟩, by decide +kernel, by decide, fun h => absurd h (by decide), fun _ => ⟨jm_tbl_mem (jm_p4 (List.mem_of_getElem? (i := 13) (by decide +kernel))) (by decide +kernel), jm_tbl_mem (jm_p4 (List.mem_of_getElem? (i := 14) (by decide +kernel))) (by decide +kernel), Or.inr rfl⟩, fun h => absurd h (by decide), by decide +kernel⟩
theorem jm_ok15 : jm_ok jm_YN jm_M15 := ⟨jm_tbl_mem (jm_p4 (List.mem_of_getElem? (i := 19) rfl)) rfl, jm_tbl_mem (jm_p1 (List.mem_of_getElem? (i := 12) (by decide +kernel))) (by decide +kernel), by decide +kernel, ⟨by decide +kernel, by decide +kernel⟩, by decide +kernel, by decide, fun h => absurd h (by decide), fun _ => ⟨jm_tbl_mem (jm_p4 (List.mem_of_getElem? (i := 17) (by decide +kernel))) (by decide +kernel), jm_tbl_mem (jm_p4 (List.mem_of_getElem? (i := 18) (by decide +kernel))) (by decide +kernel), Or.inr rfl⟩, fun h => absurd h (by decide), by decide +kernel⟩
theorem jm_ok16 : jm_ok jm_YN jm_M16 := ⟨jm_tbl_mem (jm_p2 (List.mem_of_getElem? (i := 5) rfl)) rfl, jm_tbl_mem (jm_p1 (List.mem_of_getElem? (i := 9) (by decide +kernel))) (by decide +kernel), by decide +kernel, ⟨by decide +kernel, by decide +kernel⟩, by decide +kernel, by decide, fun h => absurd h (by decide), fun h => absurd h (by decide), fun _ => ⟨jm_tbl_mem (jm_p2 (List.mem_of_getElem? (i := 4) (by decide +kernel))) (by decide +kernel), rfl, rfl⟩, by decide +kernel⟩
theorem jm_ok17 : jm_ok jm_YN jm_M17 := ⟨jm_tbl_mem (jm_p2 (List.mem_of_getElem? (i := 173) rfl)) rfl, jm_tbl_mem (jm_p1 (List.mem_of_getElem? (i := 9) (by decide +kernel))) (by decide +kernel), by decide +kernel, ⟨by decide +kernel, by decide +kernel⟩, by decide +kernel, by decide, fun h => absurd h (by decide), fun _ => ⟨jm_tbl_mem (jm_p2 (List.mem_of_getElem? (i := 171) (by decide +kernel))) (by decide +kernel), jm_tbl_mem (jm_p2 (List.mem_of_getElem? (i := 172) (by decide +kernel))) (by decide +kernel), Or.inr rfl⟩, fun h => absurd h (by decide), by decide +kernel⟩
theorem jm_ok18 : jm_ok jm_YN jm_M18 := ⟨jm_tbl_mem (jm_p3 (List.mem_of_getElem? (i := 205) rfl)) rfl, jm_tbl_mem (jm_p1 (List.mem_of_getElem? (i := 9) (by decide +kernel))) (by decide +kernel), by decide +kernel, ⟨by decide +kernel, by decide +kernel⟩, by decide +kernel, by decide, fun h => absurd h (by decide), fun _ => ⟨jm_tbl_mem (jm_p3 (List.mem_of_getElem? (i := 203) (by decide +kernel))) (by decide +kernel), jm_tbl_mem (jm_p3 (List.mem_of_getElem? (i := 204) (by decide +kernel))) (by decide +kernel), Or.inr rfl⟩, fun h => absurd h (by decide), by decide +kernel⟩
theorem jm_ok19 : jm_ok jm_YN jm_M19 := ⟨jm_tbl_mem (jm_p2 (List.mem_of_getElem? (i := 169) rfl)) rfl, jm_tbl_mem (jm_p1 (List.mem_of_getElem? (i := 9) (by decide +kernel))) (by decide +kernel), by decide +kernel, ⟨by decide +kernel, by decide +kernel⟩, by decide +kernel, by decide, fun h => absurd h (by decide), fun _ => ⟨jm_tbl_mem (jm_p2 (List.mem_of_getElem? (i := 167) (by decide +kernel))) (by decide +kernel), jm_tbl_mem (jm_p2 (List.mem_of_getElem? (i := 168) (by decide +kernel))) (by decide +kernel), Or.inr rfl⟩, fun h => absurd h (by decide), by decide +kernel⟩
theorem jm_ok20 : jm_ok jm_YN jm_M20 := ⟨jm_tbl_mem (jm_p2 (List.mem_of_getElem? (i := 201) rfl)) rfl, jm_tbl_mem (jm_p1 (List.mem_of_getElem? (i := 9) (by decide +kernel))) (by decide +kernel), by decide +kernel, ⟨by decide +kernel, by decide +kernel⟩, by decide +kernel, by decide, fun h => absurd h (by decide), fun _ => ⟨jm_tbl_mem (jm_p2 (List.mem_of_getElem? (i := 199) (by decide +kernel))) (by decide +kernel), jm_tbl_mem (jm_p2 (List.mem_of_getElem? (i := 200) (by decide +kernel))) (by decide +kernel), Or.inr rfl⟩, fun h => absurd h (by decide), by decide +kernel⟩
theorem jm_ok21 : jm_ok jm_YN jm_M21 := ⟨jm_tbl_mem (jm_p2 (List.mem_of_getElem? (i := 177) rfl)) rfl, jm_tbl_mem (jm_p1 (List.mem_of_getElem? (i := 9) (by decide +kernel))) (by decide +kernel), by decide +kernel, ⟨by decide +kernel, by decide +kernel⟩, by decide +kernel, by decide, fun h => absurd h (by decide), fun _ => ⟨jm_tbl_mem (jm_p2 (List.mem_of_getElem? (i := 175) (by decide +kernel))) (by decide +kernel), jm_tbl_mem (jm_p2 (List.mem_of_getElem? (i := 176) (by decide +kernel))) (by decide +kernel), Or.inr rfl⟩, fun h => absurd h (by decide), by decide +kernel⟩
theorem jm_M22_k0 : jm_rck jm_YN jm_M22 0 jm_M22_r0 = true := by decide +kernel
theorem jm_M22_k1 : jm_rck jm_YN jm_M22 16 jm_M22_r1 = true := by decide +kernel
theorem jm_M22_k2 : jm_rck jm_YN jm_M22 32 jm_M22_r2 = true := by decide +kernel
theorem jm_M22_k3 : jm_rck jm_YN jm_M22 48 jm_M22_r3 = true := by decide +kernel
theorem jm_M22_k4 : jm_rck jm_YN jm_M22 64 jm_M22_r4 = true := by decide +kernel
theorem jm_M22_k5 : jm_rck jm_YN jm_M22 80 jm_M22_r5 = true := by decide +kernel
theorem jm_M22_k6 : jm_rck jm_YN jm_M22 96 jm_M22_r6 = true := by decide +kernel
theorem jm_M22_k7 : jm_rck jm_YN jm_M22 112 jm_M22_r7 = true := by decide +kernel
theorem jm_M22_k8 : jm_rck jm_YN jm_M22 128 jm_M22_r8 = true := by decide +kernel
theorem jm_M22_k9 : jm_rck jm_YN jm_M22 144 jm_M22_r9 = true := by decide +kernel
theorem jm_M22_k10 : jm_rck jm_YN jm_M22 160 jm_M22_r10 = true := by decide +kernel
theorem jm_M22_k11 : jm_rck jm_YN jm_M22 176 jm_M22_r11 = true := by decide +kernel
theorem jm_M22_k12 : jm_rck jm_YN jm_M22 192 jm_M22_r12 = true := by decide +kernel
theorem jm_M22_k13 : jm_rck jm_YN jm_M22 208 jm_M22_r13 = true := by decide +kernel
theorem jm_M22_k14 : jm_rck jm_YN jm_M22 224 jm_M22_r14 = true := by decide +kernel
theorem jm_M22_k : jm_tck jm_YN jm_M22 0 (jm_tb jm_M22) = true := jm_tck_cons jm_M22_k0 (jm_tck_cons jm_M22_k1 (jm_tck_cons jm_M22_k2 (jm_tck_cons jm_M22_k3 (jm_tck_cons jm_M22_k4 (jm_tck_cons jm_M22_k5 (jm_tck_cons jm_M22_k6 (jm_tck_cons jm_M22_k7 (jm_tck_cons jm_M22_k8 (jm_tck_cons jm_M22_k9 (jm_tck_cons jm_M22_k10 (jm_tck_cons jm_M22_k11 (jm_tck_cons jm_M22_k12 (jm_tck_cons jm_M22_k13 (jm_tck_cons jm_M22_k14 (rfl)))))))))))))))
theorem jm_ok22 : jm_ok jm_YN jm_M22 := ⟨jm_tbl_mem (jm_p2 (List.mem_of_getElem? (i := 181) rfl)) rfl, jm_tbl_mem (jm_p1 (List.mem_of_getElem? (i := 9) (by decide +kernel))) (by decide +kernel), by decide +kernel, ⟨by decide +kernel, by decide +kernel⟩, by decide +kernel, by decide, fun h => absurd h (by decide), fun _ => ⟨jm_tbl_mem (jm_p2 (List.mem_of_getElem? (i := 180) (by decide +kernel))) (by decide +kernel), jm_tbl_mem (List.mem_append_left _ (List.mem_map.mpr ⟨(⟨"FallMarket$Laws", "worked", "(LFallMarket$Text;I)I"⟩, 2), by decide +kernel, rfl⟩)) (by decide +kernel), Or.inr rfl⟩, fun h => absurd h (by decide), jm_M22_k⟩
theorem jm_ok23 : jm_ok jm_YN jm_M23 := ⟨jm_tbl_mem (jm_p2 (List.mem_of_getElem? (i := 184) rfl)) rfl, jm_tbl_mem (jm_p1 (List.mem_of_getElem? (i := 9) (by decide +kernel))) (by decide +kernel), by decide +kernel, ⟨by decide +kernel, by decide +kernel⟩, by decide +kernel, by decide, fun _ => jm_tbl_mem (jm_p2 (List.mem_of_getElem? (i := 183) (by decide +kernel))) (by decide +kernel), fun h => absurd h (by decide), fun h => absurd h (by decide), by decide +kernel⟩
theorem jm_ok24 : jm_ok jm_YN jm_M24 := ⟨jm_tbl_mem (jm_p2 (List.mem_of_getElem? (i := 30) rfl)) rfl, jm_tbl_mem (jm_p1 (List.mem_of_getElem? (i := 11) (by decide +kernel))) (by decide +kernel), by decide +kernel, ⟨by decide +kernel, by decide +kernel⟩, by decide +kernel, by decide, fun h => absurd h (by decide), fun h => absurd h (by decide), fun _ => ⟨jm_tbl_mem (jm_p2 (List.mem_of_getElem? (i := 29) (by decide +kernel))) (by decide +kernel), rfl, rfl⟩, by decide +kernel⟩
theorem jm_M25_k0 : jm_rck jm_YN jm_M25 0 jm_M25_r0 = true := by decide +kernel
theorem jm_M25_k1 : jm_rck jm_YN jm_M25 16 jm_M25_r1 = true := by decide +kernel
theorem jm_M25_k2 : jm_rck jm_YN jm_M25 32 jm_M25_r2 = true := by decide +kernel
theorem jm_M25_k3 : jm_rck jm_YN jm_M25 48 jm_M25_r3 = true := by decide +kernel
theorem jm_M25_k4 : jm_rck jm_YN jm_M25 64 jm_M25_r4 = true := by decide +kernel
theorem jm_M25_k5 : jm_rck jm_YN jm_M25 80 jm_M25_r5 = true := by decide +kernel
theorem jm_M25_k6 : jm_rck jm_YN jm_M25 96 jm_M25_r6 = true := by decide +kernel
theorem jm_M25_k7 : jm_rck jm_YN jm_M25 112 jm_M25_r7 = true := by decide +kernel
theorem jm_M25_k8 : jm_rck jm_YN jm_M25 128 jm_M25_r8 = true := by decide +kernel
theorem jm_M25_k9 : jm_rck jm_YN jm_M25 144 jm_M25_r9 = true := by decide +kernel
theorem jm_M25_k10 : jm_rck jm_YN jm_M25 160 jm_M25_r10 = true := by decide +kernel
theorem jm_M25_k : jm_tck jm_YN jm_M25 0 (jm_tb jm_M25) = true := jm_tck_cons jm_M25_k0 (jm_tck_cons jm_M25_k1 (jm_tck_cons jm_M25_k2 (jm_tck_cons jm_M25_k3 (jm_tck_cons jm_M25_k4 (jm_tck_cons jm_M25_k5 (jm_tck_cons jm_M25_k6 (jm_tck_cons jm_M25_k7 (jm_tck_cons jm_M25_k8 (jm_tck_cons jm_M25_k9 (jm_tck_cons jm_M25_k10 (rfl)))))))))))
theorem jm_ok25 : jm_ok jm_YN jm_M25 := ⟨jm_tbl_mem (jm_p4 (List.mem_of_getElem? (i := 54) rfl)) rfl, jm_tbl_mem (jm_p1 (List.mem_of_getElem? (i := 11) (by decide +kernel))) (by decide +kernel), by decide +kernel, ⟨by decide +kernel, by decide +kernel⟩, by decide +kernel, by decide, fun h => absurd h (by decide), fun _ => ⟨jm_tbl_mem (jm_p4 (List.mem_of_getElem? (i := 52) (by decide +kernel))) (by decide +kernel), jm_tbl_mem (jm_p4 (List.mem_of_getElem? (i := 53) (by decide +kernel))) (by decide +kernel), Or.inr rfl⟩, fun h => absurd h (by decide), jm_M25_k⟩
theorem jm_ok26 : jm_ok jm_YN jm_M26 := ⟨jm_tbl_mem (jm_p4 (List.mem_of_getElem? (i := 70) rfl)) rfl, jm_tbl_mem (jm_p1 (List.mem_of_getElem? (i := 11) (by decide +kernel))) (by decide +kernel), by decide +kernel, ⟨by decide +kernel, by decide +kernel⟩, by decide +kernel, by decide, fun h => absurd h (by decide), fun _ => ⟨jm_tbl_mem (jm_p4 (List.mem_of_getElem? (i := 68) (by decide +kernel))) (by decide +kernel), jm_tbl_mem (jm_p4 (List.mem_of_getElem? (i := 69) (by decide +kernel))) (by decide +kernel), Or.inr rfl⟩, fun h => absurd h (by decide), by decide +kernel⟩
theorem jm_ok27 : jm_ok jm_YN jm_M27 := ⟨jm_tbl_mem (jm_p4 (List.mem_of_getElem? (i := 75) rfl)) rfl, jm_tbl_mem (jm_p1 (List.mem_of_getElem? (i := 11) (by decide +kernel))) (by decide +kernel), by decide +kernel, ⟨by decide +kernel, by decide +kernel⟩, by decide +kernel, by decide, fun h => absurd h (by decide), fun _ => ⟨jm_tbl_mem (jm_p4 (List.mem_of_getElem? (i := 74) (by decide +kernel))) (by decide +kernel), jm_tbl_mem (List.mem_append_left _ (List.mem_map.mpr ⟨(⟨"FallMarket$Outlook", "meanWorth", "(I)J"⟩, 4), by decide +kernel, rfl⟩)) (by decide +kernel), Or.inr rfl⟩, fun h => absurd h (by decide), by decide +kernel⟩
theorem jm_ok28 : jm_ok jm_YN jm_M28 := ⟨jm_tbl_mem (jm_p4 (List.mem_of_getElem? (i := 101) rfl)) rfl, jm_tbl_mem (jm_p1 (List.mem_of_getElem? (i := 11) (by decide +kernel))) (by decide +kernel), by decide +kernel, ⟨by decide +kernel, by decide +kernel⟩, by decide +kernel, by decide, fun h => absurd h (by decide), fun _ => ⟨jm_tbl_mem (jm_p4 (List.mem_of_getElem? (i := 99) (by decide +kernel))) (by decide +kernel), jm_tbl_mem (jm_p4 (List.mem_of_getElem? (i := 100) (by decide +kernel))) (by decide +kernel), Or.inr rfl⟩, fun h => absurd h (by decide), by decide +kernel⟩
theorem jm_ok29 : jm_ok jm_YN jm_M29 := ⟨jm_tbl_mem (jm_p4 (List.mem_of_getElem? (i := 88) rfl)) rfl, jm_tbl_mem (jm_p1 (List.mem_of_getElem? (i := 11) (by decide +kernel))) (by decide +kernel), by decide +kernel, ⟨by decide +kernel, by decide +kernel⟩, by decide +kernel, by decide, fun _ => jm_tbl_mem (jm_p4 (List.mem_of_getElem? (i := 87) (by decide +kernel))) (by decide +kernel), fun h => absurd h (by decide), fun h => absurd h (by decide), by decide +kernel⟩
theorem jm_ok30 : jm_ok jm_YN jm_M30 := ⟨jm_tbl_mem (jm_p1 (List.mem_of_getElem? (i := 135) rfl)) rfl, jm_tbl_mem (jm_p1 (List.mem_of_getElem? (i := 3) (by decide +kernel))) (by decide +kernel), by decide +kernel, ⟨by decide +kernel, by decide +kernel⟩, by decide +kernel, by decide, fun h => absurd h (by decide), fun h => absurd h (by decide), fun _ => ⟨jm_tbl_mem (jm_p1 (List.mem_of_getElem? (i := 134) (by decide +kernel))) (by decide +kernel), rfl, rfl⟩, by decide +kernel⟩
theorem jm_M31_k0 : jm_rck jm_YN jm_M31 0 jm_M31_r0 = true := by decide +kernel
theorem jm_M31_k1 : jm_rck jm_YN jm_M31 16 jm_M31_r1 = true := by decide +kernel
theorem jm_M31_k2 : jm_rck jm_YN jm_M31 32 jm_M31_r2 = true := by decide +kernel
theorem jm_M31_k3 : jm_rck jm_YN jm_M31 48 jm_M31_r3 = true := by decide +kernel
theorem jm_M31_k4 : jm_rck jm_YN jm_M31 64 jm_M31_r4 = true := by decide +kernel
theorem jm_M31_k5 : jm_rck jm_YN jm_M31 80 jm_M31_r5 = true := by decide +kernel
theorem jm_M31_k6 : jm_rck jm_YN jm_M31 96 jm_M31_r6 = true := by decide +kernel
theorem jm_M31_k7 : jm_rck jm_YN jm_M31 112 jm_M31_r7 = true := by decide +kernel
theorem jm_M31_k8 : jm_rck jm_YN jm_M31 128 jm_M31_r8 = true := by decide +kernel
theorem jm_M31_k9 : jm_rck jm_YN jm_M31 144 jm_M31_r9 = true := by decide +kernel
theorem jm_M31_k10 : jm_rck jm_YN jm_M31 160 jm_M31_r10 = true := by decide +kernel
theorem jm_M31_k11 : jm_rck jm_YN jm_M31 176 jm_M31_r11 = true := by decide +kernel
theorem jm_M31_k12 : jm_rck jm_YN jm_M31 192 jm_M31_r12 = true := by decide +kernel
theorem jm_M31_k13 : jm_rck jm_YN jm_M31 208 jm_M31_r13 = true := by decide +kernel
theorem jm_M31_k14 : jm_rck jm_YN jm_M31 224 jm_M31_r14 = true := by decide +kernel
theorem jm_M31_k : jm_tck jm_YN jm_M31 0 (jm_tb jm_M31) = true := jm_tck_cons jm_M31_k0 (jm_tck_cons jm_M31_k1 (jm_tck_cons jm_M31_k2 (jm_tck_cons jm_M31_k3 (jm_tck_cons jm_M31_k4 (jm_tck_cons jm_M31_k5 (jm_tck_cons jm_M31_k6 (jm_tck_cons jm_M31_k7 (jm_tck_cons jm_M31_k8 (jm_tck_cons jm_M31_k9 (jm_tck_cons jm_M31_k10 (jm_tck_cons jm_M31_k11 (jm_tck_cons jm_M31_k12 (jm_tck_cons jm_M31_k13 (jm_tck_cons jm_M31_k14 (rfl)))))))))))))))
theorem jm_ok31 : jm_ok jm_YN jm_M31 := ⟨jm_tbl_mem (jm_p3 (List.mem_of_getElem? (i := 32) rfl)) rfl, jm_tbl_mem (jm_p1 (List.mem_of_getElem? (i := 3) (by decide +kernel))) (by decide +kernel), by decide +kernel, ⟨by decide +kernel, by decide +kernel⟩, by decide +kernel, by decide, fun h => absurd h (by decide), fun _ => ⟨jm_tbl_mem (jm_p3 (List.mem_of_getElem? (i := 30) (by decide +kernel))) (by decide +kernel), jm_tbl_mem (jm_p3 (List.mem_of_getElem? (i := 31) (by decide +kernel))) (by decide +kernel), Or.inr rfl⟩, fun h => absurd h (by decide), jm_M31_k⟩
end
section
/-! ===== rows that hold ===== -/
theorem jm_ok32 : jm_ok jm_YN jm_M32 := ⟨jm_tbl_mem (jm_p3 (List.mem_of_getElem? (i := 154) rfl)) rfl, jm_tbl_mem (jm_p1 (List.mem_of_getElem? (i := 3) (by decide +kernel))) (by decide +kernel), by decide +kernel, ⟨by decide +kernel, by decide +kernel⟩, by decide +kernel, by decide, fun h => absurd h (by decide), fun _ => ⟨jm_tbl_mem (jm_p3 (List.mem_of_getElem? (i := 152) (by decide +kernel))) (by decide +kernel), jm_tbl_mem (jm_p3 (List.mem_of_getElem? (i := 153) (by decide +kernel))) (by decide +kernel), Or.inr rfl⟩, fun h => absurd h (by decide), by decide +kernel⟩
theorem jm_ok33 : jm_ok jm_YN jm_M33 := ⟨jm_tbl_mem (jm_p3 (List.mem_of_getElem? (i := 75) rfl)) rfl, jm_tbl_mem (jm_p1 (List.mem_of_getElem? (i := 3) (by decide +kernel))) (by decide +kernel), by decide +kernel, ⟨by decide +kernel, by decide +kernel⟩, by decide +kernel, by decide, fun h => absurd h (by decide), fun _ => ⟨jm_tbl_mem (jm_p3 (List.mem_of_getElem? (i := 74) (by decide +kernel))) (by decide +kernel), jm_tbl_mem (List.mem_append_left _ (List.mem_map.mpr ⟨(⟨"FallMarket$Parser", "parseFruit", "()Z"⟩, 10), by decide +kernel, rfl⟩)) (by decide +kernel), Or.inr rfl⟩, fun h => absurd h (by decide), by decide +kernel⟩
theorem jm_ok34 : jm_ok jm_YN jm_M34 := ⟨jm_tbl_mem (jm_p3 (List.mem_of_getElem? (i := 114) rfl)) rfl, jm_tbl_mem (jm_p1 (List.mem_of_getElem? (i := 3) (by decide +kernel))) (by decide +kernel), by decide +kernel, ⟨by decide +kernel, by decide +kernel⟩, by decide +kernel, by decide, fun h => absurd h (by decide), fun _ => ⟨jm_tbl_mem (jm_p3 (List.mem_of_getElem? (i := 113) (by decide +kernel))) (by decide +kernel), jm_tbl_mem (List.mem_append_left _ (List.mem_map.mpr ⟨(⟨"FallMarket$Parser", "parseBuyer", "()Z"⟩, 10), by decide +kernel, rfl⟩)) (by decide +kernel), Or.inr rfl⟩, fun h => absurd h (by decide), by decide +kernel⟩
theorem jm_ok35 : jm_ok jm_YN jm_M35 := ⟨jm_tbl_mem (jm_p3 (List.mem_of_getElem? (i := 150) rfl)) rfl, jm_tbl_mem (jm_p1 (List.mem_of_getElem? (i := 3) (by decide +kernel))) (by decide +kernel), by decide +kernel, ⟨by decide +kernel, by decide +kernel⟩, by decide +kernel, by decide, fun h => absurd h (by decide), fun _ => ⟨jm_tbl_mem (jm_p3 (List.mem_of_getElem? (i := 149) (by decide +kernel))) (by decide +kernel), jm_tbl_mem (List.mem_append_left _ (List.mem_map.mpr ⟨(⟨"FallMarket$Parser", "parseSetting", "(I)Z"⟩, 10), by decide +kernel, rfl⟩)) (by decide +kernel), Or.inr rfl⟩, fun h => absurd h (by decide), by decide +kernel⟩
theorem jm_ok36 : jm_ok jm_YN jm_M36 := ⟨jm_tbl_mem (jm_p3 (List.mem_of_getElem? (i := 122) rfl)) rfl, jm_tbl_mem (jm_p1 (List.mem_of_getElem? (i := 3) (by decide +kernel))) (by decide +kernel), by decide +kernel, ⟨by decide +kernel, by decide +kernel⟩, by decide +kernel, by decide, fun h => absurd h (by decide), fun _ => ⟨jm_tbl_mem (jm_p3 (List.mem_of_getElem? (i := 121) (by decide +kernel))) (by decide +kernel), jm_tbl_mem (List.mem_append_left _ (List.mem_map.mpr ⟨(⟨"FallMarket$Parser", "parseLaw", "(II)Z"⟩, 10), by decide +kernel, rfl⟩)) (by decide +kernel), Or.inr rfl⟩, fun h => absurd h (by decide), by decide +kernel⟩
theorem jm_ok37 : jm_ok jm_YN jm_M37 := ⟨jm_tbl_mem (jm_p3 (List.mem_of_getElem? (i := 126) rfl)) rfl, jm_tbl_mem (jm_p1 (List.mem_of_getElem? (i := 3) (by decide +kernel))) (by decide +kernel), by decide +kernel, ⟨by decide +kernel, by decide +kernel⟩, by decide +kernel, by decide, fun h => absurd h (by decide), fun _ => ⟨jm_tbl_mem (jm_p3 (List.mem_of_getElem? (i := 125) (by decide +kernel))) (by decide +kernel), jm_tbl_mem (List.mem_append_left _ (List.mem_map.mpr ⟨(⟨"FallMarket$Parser", "parseIf", "(I)Z"⟩, 10), by decide +kernel, rfl⟩)) (by decide +kernel), Or.inr rfl⟩, fun h => absurd h (by decide), by decide +kernel⟩
theorem jm_ok38 : jm_ok jm_YN jm_M38 := ⟨jm_tbl_mem (jm_p3 (List.mem_of_getElem? (i := 130) rfl)) rfl, jm_tbl_mem (jm_p1 (List.mem_of_getElem? (i := 3) (by decide +kernel))) (by decide +kernel), by decide +kernel, ⟨by decide +kernel, by decide +kernel⟩, by decide +kernel, by decide, fun h => absurd h (by decide), fun _ => ⟨jm_tbl_mem (jm_p3 (List.mem_of_getElem? (i := 129) (by decide +kernel))) (by decide +kernel), jm_tbl_mem (List.mem_append_left _ (List.mem_map.mpr ⟨(⟨"FallMarket$Parser", "parseSum", "(II)Z"⟩, 10), by decide +kernel, rfl⟩)) (by decide +kernel), Or.inr rfl⟩, fun h => absurd h (by decide), by decide +kernel⟩
theorem jm_ok39 : jm_ok jm_YN jm_M39 := ⟨jm_tbl_mem (jm_p3 (List.mem_of_getElem? (i := 134) rfl)) rfl, jm_tbl_mem (jm_p1 (List.mem_of_getElem? (i := 3) (by decide +kernel))) (by decide +kernel), by decide +kernel, ⟨by decide +kernel, by decide +kernel⟩, by decide +kernel, by decide, fun h => absurd h (by decide), fun _ => ⟨jm_tbl_mem (jm_p3 (List.mem_of_getElem? (i := 133) (by decide +kernel))) (by decide +kernel), jm_tbl_mem (List.mem_append_left _ (List.mem_map.mpr ⟨(⟨"FallMarket$Parser", "parseProduct", "(II)Z"⟩, 10), by decide +kernel, rfl⟩)) (by decide +kernel), Or.inr rfl⟩, fun h => absurd h (by decide), by decide +kernel⟩
theorem jm_ok40 : jm_ok jm_YN jm_M40 := ⟨jm_tbl_mem (jm_p3 (List.mem_of_getElem? (i := 138) rfl)) rfl, jm_tbl_mem (jm_p1 (List.mem_of_getElem? (i := 3) (by decide +kernel))) (by decide +kernel), by decide +kernel, ⟨by decide +kernel, by decide +kernel⟩, by decide +kernel, by decide, fun h => absurd h (by decide), fun _ => ⟨jm_tbl_mem (jm_p3 (List.mem_of_getElem? (i := 137) (by decide +kernel))) (by decide +kernel), jm_tbl_mem (List.mem_append_left _ (List.mem_map.mpr ⟨(⟨"FallMarket$Parser", "parseUnit", "(II)Z"⟩, 10), by decide +kernel, rfl⟩)) (by decide +kernel), Or.inr rfl⟩, fun h => absurd h (by decide), by decide +kernel⟩
theorem jm_ok41 : jm_ok jm_YN jm_M41 := ⟨jm_tbl_mem (jm_p3 (List.mem_of_getElem? (i := 87) rfl)) rfl, jm_tbl_mem (jm_p1 (List.mem_of_getElem? (i := 3) (by decide +kernel))) (by decide +kernel), by decide +kernel, ⟨by decide +kernel, by decide +kernel⟩, by decide +kernel, by decide, fun h => absurd h (by decide), fun _ => ⟨jm_tbl_mem (jm_p3 (List.mem_of_getElem? (i := 86) (by decide +kernel))) (by decide +kernel), jm_tbl_mem (List.mem_append_left _ (List.mem_map.mpr ⟨(⟨"FallMarket$Parser", "takeName", "()Z"⟩, 10), by decide +kernel, rfl⟩)) (by decide +kernel), Or.inr rfl⟩, fun h => absurd h (by decide), by decide +kernel⟩
theorem jm_ok42 : jm_ok jm_YN jm_M42 := ⟨jm_tbl_mem (jm_p3 (List.mem_of_getElem? (i := 103) rfl)) rfl, jm_tbl_mem (jm_p1 (List.mem_of_getElem? (i := 3) (by decide +kernel))) (by decide +kernel), by decide +kernel, ⟨by decide +kernel, by decide +kernel⟩, by decide +kernel, by decide, fun h => absurd h (by decide), fun _ => ⟨jm_tbl_mem (jm_p3 (List.mem_of_getElem? (i := 102) (by decide +kernel))) (by decide +kernel), jm_tbl_mem (List.mem_append_left _ (List.mem_map.mpr ⟨(⟨"FallMarket$Parser", "takeNumber", "(III)Z"⟩, 10), by decide +kernel, rfl⟩)) (by decide +kernel), Or.inr rfl⟩, fun h => absurd h (by decide), by decide +kernel⟩
theorem jm_ok43 : jm_ok jm_YN jm_M43 := ⟨jm_tbl_mem (jm_p3 (List.mem_of_getElem? (i := 83) rfl)) rfl, jm_tbl_mem (jm_p1 (List.mem_of_getElem? (i := 3) (by decide +kernel))) (by decide +kernel), by decide +kernel, ⟨by decide +kernel, by decide +kernel⟩, by decide +kernel, by decide, fun h => absurd h (by decide), fun _ => ⟨jm_tbl_mem (jm_p3 (List.mem_of_getElem? (i := 82) (by decide +kernel))) (by decide +kernel), jm_tbl_mem (List.mem_append_left _ (List.mem_map.mpr ⟨(⟨"FallMarket$Parser", "take", "(I)Z"⟩, 10), by decide +kernel, rfl⟩)) (by decide +kernel), Or.inr rfl⟩, fun h => absurd h (by decide), by decide +kernel⟩
theorem jm_ok44 : jm_ok jm_YN jm_M44 := ⟨jm_tbl_mem (jm_p3 (List.mem_of_getElem? (i := 79) rfl)) rfl, jm_tbl_mem (jm_p1 (List.mem_of_getElem? (i := 3) (by decide +kernel))) (by decide +kernel), by decide +kernel, ⟨by decide +kernel, by decide +kernel⟩, by decide +kernel, by decide, fun h => absurd h (by decide), fun _ => ⟨jm_tbl_mem (jm_p3 (List.mem_of_getElem? (i := 78) (by decide +kernel))) (by decide +kernel), jm_tbl_mem (List.mem_append_left _ (List.mem_map.mpr ⟨(⟨"FallMarket$Parser", "refuse", "(I)Z"⟩, 10), by decide +kernel, rfl⟩)) (by decide +kernel), Or.inr rfl⟩, fun h => absurd h (by decide), by decide +kernel⟩
theorem jm_ok45 : jm_ok jm_YN jm_M45 := ⟨jm_tbl_mem (jm_p3 (List.mem_of_getElem? (i := 95) rfl)) rfl, jm_tbl_mem (jm_p1 (List.mem_of_getElem? (i := 3) (by decide +kernel))) (by decide +kernel), by decide +kernel, ⟨by decide +kernel, by decide +kernel⟩, by decide +kernel, by decide, fun h => absurd h (by decide), fun _ => ⟨jm_tbl_mem (jm_p3 (List.mem_of_getElem? (i := 94) (by decide +kernel))) (by decide +kernel), jm_tbl_mem (List.mem_append_left _ (List.mem_map.mpr ⟨(⟨"FallMarket$Parser", "markLater", "(I)V"⟩, 10), by decide +kernel, rfl⟩)) (by decide +kernel), Or.inr rfl⟩, fun h => absurd h (by decide), by decide +kernel⟩
theorem jm_ok46 : jm_ok jm_YN jm_M46 := ⟨jm_tbl_mem (jm_p1 (List.mem_of_getElem? (i := 32) rfl)) rfl, jm_tbl_mem (jm_p1 (List.mem_of_getElem? (i := 2) (by decide +kernel))) (by decide +kernel), by decide +kernel, ⟨by decide +kernel, by decide +kernel⟩, by decide +kernel, by decide, fun h => absurd h (by decide), fun h => absurd h (by decide), fun _ => ⟨jm_tbl_mem (jm_p1 (List.mem_of_getElem? (i := 31) (by decide +kernel))) (by decide +kernel), rfl, rfl⟩, by decide +kernel⟩
theorem jm_ok47 : jm_ok jm_YN jm_M47 := ⟨jm_tbl_mem (jm_p1 (List.mem_of_getElem? (i := 37) rfl)) rfl, jm_tbl_mem (jm_p1 (List.mem_of_getElem? (i := 2) (by decide +kernel))) (by decide +kernel), by decide +kernel, ⟨by decide +kernel, by decide +kernel⟩, by decide +kernel, by decide, fun h => absurd h (by decide), fun _ => ⟨jm_tbl_mem (jm_p1 (List.mem_of_getElem? (i := 35) (by decide +kernel))) (by decide +kernel), jm_tbl_mem (jm_p1 (List.mem_of_getElem? (i := 36) (by decide +kernel))) (by decide +kernel), Or.inr rfl⟩, fun h => absurd h (by decide), by decide +kernel⟩
theorem jm_ok48 : jm_ok jm_YN jm_M48 := ⟨jm_tbl_mem (jm_p1 (List.mem_of_getElem? (i := 41) rfl)) rfl, jm_tbl_mem (jm_p1 (List.mem_of_getElem? (i := 2) (by decide +kernel))) (by decide +kernel), by decide +kernel, ⟨by decide +kernel, by decide +kernel⟩, by decide +kernel, by decide, fun h => absurd h (by decide), fun _ => ⟨jm_tbl_mem (jm_p1 (List.mem_of_getElem? (i := 40) (by decide +kernel))) (by decide +kernel), jm_tbl_mem (List.mem_append_left _ (List.mem_map.mpr ⟨(⟨"FallMarket$Text", "addPlainLaw", "(II)V"⟩, 15), by decide +kernel, rfl⟩)) (by decide +kernel), Or.inr rfl⟩, fun h => absurd h (by decide), by decide +kernel⟩
theorem jm_ok49 : jm_ok jm_YN jm_M49 := ⟨jm_tbl_mem (jm_p1 (List.mem_of_getElem? (i := 48) rfl)) rfl, jm_tbl_mem (jm_p1 (List.mem_of_getElem? (i := 2) (by decide +kernel))) (by decide +kernel), by decide +kernel, ⟨by decide +kernel, by decide +kernel⟩, by decide +kernel, by decide, fun _ => jm_tbl_mem (jm_p1 (List.mem_of_getElem? (i := 47) (by decide +kernel))) (by decide +kernel), fun h => absurd h (by decide), fun h => absurd h (by decide), by decide +kernel⟩
theorem jm_ok50 : jm_ok jm_YN jm_M50 := ⟨jm_tbl_mem (jm_p1 (List.mem_of_getElem? (i := 45) rfl)) rfl, jm_tbl_mem (jm_p1 (List.mem_of_getElem? (i := 2) (by decide +kernel))) (by decide +kernel), by decide +kernel, ⟨by decide +kernel, by decide +kernel⟩, by decide +kernel, by decide, fun h => absurd h (by decide), fun _ => ⟨jm_tbl_mem (jm_p1 (List.mem_of_getElem? (i := 43) (by decide +kernel))) (by decide +kernel), jm_tbl_mem (jm_p1 (List.mem_of_getElem? (i := 44) (by decide +kernel))) (by decide +kernel), Or.inr rfl⟩, fun h => absurd h (by decide), by decide +kernel⟩
theorem jm_ok51 : jm_ok jm_YN jm_M51 := ⟨jm_tbl_mem (jm_p3 (List.mem_of_getElem? (i := 146) rfl)) rfl, jm_tbl_mem (jm_p1 (List.mem_of_getElem? (i := 2) (by decide +kernel))) (by decide +kernel), by decide +kernel, ⟨by decide +kernel, by decide +kernel⟩, by decide +kernel, by decide, fun h => absurd h (by decide), fun _ => ⟨jm_tbl_mem (jm_p3 (List.mem_of_getElem? (i := 144) (by decide +kernel))) (by decide +kernel), jm_tbl_mem (jm_p3 (List.mem_of_getElem? (i := 145) (by decide +kernel))) (by decide +kernel), Or.inr rfl⟩, fun h => absurd h (by decide), by decide +kernel⟩
theorem jm_ok52 : jm_ok jm_YN jm_M52 := ⟨jm_tbl_mem (jm_p3 (List.mem_of_getElem? (i := 110) rfl)) rfl, jm_tbl_mem (jm_p1 (List.mem_of_getElem? (i := 2) (by decide +kernel))) (by decide +kernel), by decide +kernel, ⟨by decide +kernel, by decide +kernel⟩, by decide +kernel, by decide, fun h => absurd h (by decide), fun _ => ⟨jm_tbl_mem (jm_p3 (List.mem_of_getElem? (i := 108) (by decide +kernel))) (by decide +kernel), jm_tbl_mem (jm_p3 (List.mem_of_getElem? (i := 109) (by decide +kernel))) (by decide +kernel), Or.inr rfl⟩, fun h => absurd h (by decide), by decide +kernel⟩
theorem jm_ok53 : jm_ok jm_YN jm_M53 := ⟨jm_tbl_mem (jm_p3 (List.mem_of_getElem? (i := 118) rfl)) rfl, jm_tbl_mem (jm_p1 (List.mem_of_getElem? (i := 2) (by decide +kernel))) (by decide +kernel), by decide +kernel, ⟨by decide +kernel, by decide +kernel⟩, by decide +kernel, by decide, fun h => absurd h (by decide), fun _ => ⟨jm_tbl_mem (jm_p3 (List.mem_of_getElem? (i := 116) (by decide +kernel))) (by decide +kernel), jm_tbl_mem (jm_p3 (List.mem_of_getElem? (i := 117) (by decide +kernel))) (by decide +kernel), Or.inr rfl⟩, fun h => absurd h (by decide), by decide +kernel⟩
theorem jm_ok54 : jm_ok jm_YN jm_M54 := ⟨jm_tbl_mem (jm_p1 (List.mem_of_getElem? (i := 141) rfl)) rfl, jm_tbl_mem (jm_p1 (List.mem_of_getElem? (i := 4) (by decide +kernel))) (by decide +kernel), by decide +kernel, ⟨by decide +kernel, by decide +kernel⟩, by decide +kernel, by decide, fun h => absurd h (by decide), fun h => absurd h (by decide), fun _ => ⟨jm_tbl_mem (jm_p1 (List.mem_of_getElem? (i := 140) (by decide +kernel))) (by decide +kernel), rfl, rfl⟩, by decide +kernel⟩
theorem jm_ok55 : jm_ok jm_YN jm_M55 := ⟨jm_tbl_mem (jm_p3 (List.mem_of_getElem? (i := 71) rfl)) rfl, jm_tbl_mem (jm_p1 (List.mem_of_getElem? (i := 4) (by decide +kernel))) (by decide +kernel), by decide +kernel, ⟨by decide +kernel, by decide +kernel⟩, by decide +kernel, by decide, fun h => absurd h (by decide), fun _ => ⟨jm_tbl_mem (jm_p3 (List.mem_of_getElem? (i := 69) (by decide +kernel))) (by decide +kernel), jm_tbl_mem (jm_p3 (List.mem_of_getElem? (i := 70) (by decide +kernel))) (by decide +kernel), Or.inr rfl⟩, fun h => absurd h (by decide), by decide +kernel⟩
theorem jm_ok56 : jm_ok jm_YN jm_M56 := ⟨jm_tbl_mem (jm_p3 (List.mem_of_getElem? (i := 99) rfl)) rfl, jm_tbl_mem (jm_p1 (List.mem_of_getElem? (i := 4) (by decide +kernel))) (by decide +kernel), by decide +kernel, ⟨by decide +kernel, by decide +kernel⟩, by decide +kernel, by decide, fun h => absurd h (by decide), fun _ => ⟨jm_tbl_mem (jm_p3 (List.mem_of_getElem? (i := 97) (by decide +kernel))) (by decide +kernel), jm_tbl_mem (jm_p3 (List.mem_of_getElem? (i := 98) (by decide +kernel))) (by decide +kernel), Or.inr rfl⟩, fun h => absurd h (by decide), by decide +kernel⟩
theorem jm_ok57 : jm_ok jm_YN jm_M57 := ⟨jm_tbl_mem (jm_p3 (List.mem_of_getElem? (i := 91) rfl)) rfl, jm_tbl_mem (jm_p1 (List.mem_of_getElem? (i := 4) (by decide +kernel))) (by decide +kernel), by decide +kernel, ⟨by decide +kernel, by decide +kernel⟩, by decide +kernel, by decide, fun h => absurd h (by decide), fun _ => ⟨jm_tbl_mem (jm_p3 (List.mem_of_getElem? (i := 89) (by decide +kernel))) (by decide +kernel), jm_tbl_mem (jm_p3 (List.mem_of_getElem? (i := 90) (by decide +kernel))) (by decide +kernel), Or.inr rfl⟩, fun h => absurd h (by decide), by decide +kernel⟩
theorem jm_ok58 : jm_ok jm_YN jm_M58 := ⟨jm_tbl_mem (jm_p3 (List.mem_of_getElem? (i := 36) rfl)) rfl, jm_tbl_mem (jm_p1 (List.mem_of_getElem? (i := 4) (by decide +kernel))) (by decide +kernel), by decide +kernel, ⟨by decide +kernel, by decide +kernel⟩, by decide +kernel, by decide, fun h => absurd h (by decide), fun _ => ⟨jm_tbl_mem (jm_p3 (List.mem_of_getElem? (i := 34) (by decide +kernel))) (by decide +kernel), jm_tbl_mem (jm_p3 (List.mem_of_getElem? (i := 35) (by decide +kernel))) (by decide +kernel), Or.inr rfl⟩, fun h => absurd h (by decide), by decide +kernel⟩
theorem jm_ok59 : jm_ok jm_YN jm_M59 := ⟨jm_tbl_mem (jm_p3 (List.mem_of_getElem? (i := 44) rfl)) rfl, jm_tbl_mem (jm_p1 (List.mem_of_getElem? (i := 4) (by decide +kernel))) (by decide +kernel), by decide +kernel, ⟨by decide +kernel, by decide +kernel⟩, by decide +kernel, by decide, fun h => absurd h (by decide), fun _ => ⟨jm_tbl_mem (jm_p3 (List.mem_of_getElem? (i := 43) (by decide +kernel))) (by decide +kernel), jm_tbl_mem (List.mem_append_left _ (List.mem_map.mpr ⟨(⟨"FallMarket$Tokens", "cutOne", "(I[BII)I"⟩, 4), by decide +kernel, rfl⟩)) (by decide +kernel), Or.inr rfl⟩, fun h => absurd h (by decide), by decide +kernel⟩
theorem jm_ok60 : jm_ok jm_YN jm_M60 := ⟨jm_tbl_mem (jm_p3 (List.mem_of_getElem? (i := 51) rfl)) rfl, jm_tbl_mem (jm_p1 (List.mem_of_getElem? (i := 4) (by decide +kernel))) (by decide +kernel), by decide +kernel, ⟨by decide +kernel, by decide +kernel⟩, by decide +kernel, by decide, fun h => absurd h (by decide), fun _ => ⟨jm_tbl_mem (jm_p3 (List.mem_of_getElem? (i := 50) (by decide +kernel))) (by decide +kernel), jm_tbl_mem (List.mem_append_left _ (List.mem_map.mpr ⟨(⟨"FallMarket$Tokens", "cutWord", "(I[BII)I"⟩, 4), by decide +kernel, rfl⟩)) (by decide +kernel), Or.inr rfl⟩, fun h => absurd h (by decide), by decide +kernel⟩
theorem jm_ok61 : jm_ok jm_YN jm_M61 := ⟨jm_tbl_mem (jm_p3 (List.mem_of_getElem? (i := 62) rfl)) rfl, jm_tbl_mem (jm_p1 (List.mem_of_getElem? (i := 4) (by decide +kernel))) (by decide +kernel), by decide +kernel, ⟨by decide +kernel, by decide +kernel⟩, by decide +kernel, by decide, fun h => absurd h (by decide), fun _ => ⟨jm_tbl_mem (jm_p3 (List.mem_of_getElem? (i := 61) (by decide +kernel))) (by decide +kernel), jm_tbl_mem (List.mem_append_left _ (List.mem_map.mpr ⟨(⟨"FallMarket$Tokens", "cutNumber", "(I[BII)I"⟩, 4), by decide +kernel, rfl⟩)) (by decide +kernel), Or.inr rfl⟩, fun h => absurd h (by decide), by decide +kernel⟩
theorem jm_ok62 : jm_ok jm_YN jm_M62 := ⟨jm_tbl_mem (jm_p3 (List.mem_of_getElem? (i := 55) rfl)) rfl, jm_tbl_mem (jm_p1 (List.mem_of_getElem? (i := 4) (by decide +kernel))) (by decide +kernel), by decide +kernel, ⟨by decide +kernel, by decide +kernel⟩, by decide +kernel, by decide, fun h => absurd h (by decide), fun _ => ⟨jm_tbl_mem (jm_p3 (List.mem_of_getElem? (i := 54) (by decide +kernel))) (by decide +kernel), jm_tbl_mem (List.mem_append_left _ (List.mem_map.mpr ⟨(⟨"FallMarket$Tokens", "wordKind", "(J)I"⟩, 4), by decide +kernel, rfl⟩)) (by decide +kernel), Or.inr rfl⟩, fun h => absurd h (by decide), by decide +kernel⟩
theorem jm_ok63 : jm_ok jm_YN jm_M63 := ⟨jm_tbl_mem (jm_p1 (List.mem_of_getElem? (i := 194) rfl)) rfl, jm_tbl_mem (jm_p1 (List.mem_of_getElem? (i := 4) (by decide +kernel))) (by decide +kernel), by decide +kernel, ⟨by decide +kernel, by decide +kernel⟩, by decide +kernel, by decide, fun _ => jm_tbl_mem (jm_p1 (List.mem_of_getElem? (i := 193) (by decide +kernel))) (by decide +kernel), fun h => absurd h (by decide), fun h => absurd h (by decide), by decide +kernel⟩
end
section
/-! ===== rows that hold ===== -/
theorem jm_ok64 : jm_ok jm_YN jm_M64 := ⟨jm_tbl_mem (jm_p3 (List.mem_of_getElem? (i := 40) rfl)) rfl, jm_tbl_mem (jm_p1 (List.mem_of_getElem? (i := 4) (by decide +kernel))) (by decide +kernel), by decide +kernel, ⟨by decide +kernel, by decide +kernel⟩, by decide +kernel, by decide, fun _ => jm_tbl_mem (jm_p3 (List.mem_of_getElem? (i := 39) (by decide +kernel))) (by decide +kernel), fun h => absurd h (by decide), fun h => absurd h (by decide), by decide +kernel⟩
theorem jm_ok65 : jm_ok jm_YN jm_M65 := ⟨jm_tbl_mem (jm_p3 (List.mem_of_getElem? (i := 47) rfl)) rfl, jm_tbl_mem (jm_p1 (List.mem_of_getElem? (i := 4) (by decide +kernel))) (by decide +kernel), by decide +kernel, ⟨by decide +kernel, by decide +kernel⟩, by decide +kernel, by decide, fun _ => jm_tbl_mem (jm_p3 (List.mem_of_getElem? (i := 46) (by decide +kernel))) (by decide +kernel), fun h => absurd h (by decide), fun h => absurd h (by decide), by decide +kernel⟩
theorem jm_ok66 : jm_ok jm_YN jm_M66 := ⟨jm_tbl_mem (jm_p3 (List.mem_of_getElem? (i := 58) rfl)) rfl, jm_tbl_mem (jm_p1 (List.mem_of_getElem? (i := 4) (by decide +kernel))) (by decide +kernel), by decide +kernel, ⟨by decide +kernel, by decide +kernel⟩, by decide +kernel, by decide, fun _ => jm_tbl_mem (jm_p3 (List.mem_of_getElem? (i := 57) (by decide +kernel))) (by decide +kernel), fun h => absurd h (by decide), fun h => absurd h (by decide), by decide +kernel⟩
theorem jm_ok67 : jm_ok jm_YN jm_M67 := ⟨jm_tbl_mem (jm_p3 (List.mem_of_getElem? (i := 66) rfl)) rfl, jm_tbl_mem (jm_p1 (List.mem_of_getElem? (i := 4) (by decide +kernel))) (by decide +kernel), by decide +kernel, ⟨by decide +kernel, by decide +kernel⟩, by decide +kernel, by decide, fun _ => jm_tbl_mem (jm_p3 (List.mem_of_getElem? (i := 65) (by decide +kernel))) (by decide +kernel), fun h => absurd h (by decide), fun h => absurd h (by decide), by decide +kernel⟩
theorem jm_ok68 : jm_ok jm_YN jm_M68 := ⟨jm_tbl_mem (jm_p2 (List.mem_of_getElem? (i := 138) rfl)) rfl, jm_tbl_mem (jm_p1 (List.mem_of_getElem? (i := 14) (by decide +kernel))) (by decide +kernel), by decide +kernel, ⟨by decide +kernel, by decide +kernel⟩, by decide +kernel, by decide, fun h => absurd h (by decide), fun h => absurd h (by decide), fun _ => ⟨jm_tbl_mem (jm_p2 (List.mem_of_getElem? (i := 137) (by decide +kernel))) (by decide +kernel), rfl, rfl⟩, by decide +kernel⟩
theorem jm_ok69 : jm_ok jm_YN jm_M69 := ⟨jm_tbl_mem (jm_p4 (List.mem_of_getElem? (i := 164) rfl)) rfl, jm_tbl_mem (jm_p1 (List.mem_of_getElem? (i := 14) (by decide +kernel))) (by decide +kernel), by decide +kernel, ⟨by decide +kernel, by decide +kernel⟩, by decide +kernel, by decide, fun h => absurd h (by decide), fun _ => ⟨jm_tbl_mem (jm_p4 (List.mem_of_getElem? (i := 162) (by decide +kernel))) (by decide +kernel), jm_tbl_mem (jm_p4 (List.mem_of_getElem? (i := 163) (by decide +kernel))) (by decide +kernel), Or.inr rfl⟩, fun h => absurd h (by decide), by decide +kernel⟩
theorem jm_ok70 : jm_ok jm_YN jm_M70 := ⟨jm_tbl_mem (jm_p4 (List.mem_of_getElem? (i := 176) rfl)) rfl, jm_tbl_mem (jm_p1 (List.mem_of_getElem? (i := 14) (by decide +kernel))) (by decide +kernel), by decide +kernel, ⟨by decide +kernel, by decide +kernel⟩, by decide +kernel, by decide, fun h => absurd h (by decide), fun _ => ⟨jm_tbl_mem (jm_p4 (List.mem_of_getElem? (i := 174) (by decide +kernel))) (by decide +kernel), jm_tbl_mem (jm_p4 (List.mem_of_getElem? (i := 175) (by decide +kernel))) (by decide +kernel), Or.inr rfl⟩, fun h => absurd h (by decide), by decide +kernel⟩
theorem jm_ok71 : jm_ok jm_YN jm_M71 := ⟨jm_tbl_mem (jm_p4 (List.mem_of_getElem? (i := 180) rfl)) rfl, jm_tbl_mem (jm_p1 (List.mem_of_getElem? (i := 14) (by decide +kernel))) (by decide +kernel), by decide +kernel, ⟨by decide +kernel, by decide +kernel⟩, by decide +kernel, by decide, fun h => absurd h (by decide), fun _ => ⟨jm_tbl_mem (jm_p4 (List.mem_of_getElem? (i := 178) (by decide +kernel))) (by decide +kernel), jm_tbl_mem (jm_p4 (List.mem_of_getElem? (i := 179) (by decide +kernel))) (by decide +kernel), Or.inr rfl⟩, fun h => absurd h (by decide), by decide +kernel⟩
theorem jm_ok72 : jm_ok jm_YN jm_M72 := ⟨jm_tbl_mem (jm_p4 (List.mem_of_getElem? (i := 197) rfl)) rfl, jm_tbl_mem (jm_p1 (List.mem_of_getElem? (i := 14) (by decide +kernel))) (by decide +kernel), by decide +kernel, ⟨by decide +kernel, by decide +kernel⟩, by decide +kernel, by decide, fun h => absurd h (by decide), fun _ => ⟨jm_tbl_mem (jm_p4 (List.mem_of_getElem? (i := 195) (by decide +kernel))) (by decide +kernel), jm_tbl_mem (jm_p4 (List.mem_of_getElem? (i := 196) (by decide +kernel))) (by decide +kernel), Or.inr rfl⟩, fun h => absurd h (by decide), by decide +kernel⟩
theorem jm_ok73 : jm_ok jm_YN jm_M73 := ⟨jm_tbl_mem (jm_p4 (List.mem_of_getElem? (i := 205) rfl)) rfl, jm_tbl_mem (jm_p1 (List.mem_of_getElem? (i := 14) (by decide +kernel))) (by decide +kernel), by decide +kernel, ⟨by decide +kernel, by decide +kernel⟩, by decide +kernel, by decide, fun h => absurd h (by decide), fun _ => ⟨jm_tbl_mem (jm_p4 (List.mem_of_getElem? (i := 203) (by decide +kernel))) (by decide +kernel), jm_tbl_mem (jm_p4 (List.mem_of_getElem? (i := 204) (by decide +kernel))) (by decide +kernel), Or.inr rfl⟩, fun h => absurd h (by decide), by decide +kernel⟩
theorem jm_ok74 : jm_ok jm_YN jm_M74 := ⟨jm_tbl_mem (jm_p4 (List.mem_of_getElem? (i := 184) rfl)) rfl, jm_tbl_mem (jm_p1 (List.mem_of_getElem? (i := 14) (by decide +kernel))) (by decide +kernel), by decide +kernel, ⟨by decide +kernel, by decide +kernel⟩, by decide +kernel, by decide, fun h => absurd h (by decide), fun _ => ⟨jm_tbl_mem (jm_p4 (List.mem_of_getElem? (i := 183) (by decide +kernel))) (by decide +kernel), jm_tbl_mem (List.mem_append_left _ (List.mem_map.mpr ⟨(⟨"FallMarket$Told", "isFit", "(LFallMarket$Text;II)Z"⟩, 3), by decide +kernel, rfl⟩)) (by decide +kernel), Or.inr rfl⟩, fun h => absurd h (by decide), by decide +kernel⟩
theorem jm_ok75 : jm_ok jm_YN jm_M75 := ⟨jm_tbl_mem (jm_p4 (List.mem_of_getElem? (i := 188) rfl)) rfl, jm_tbl_mem (jm_p1 (List.mem_of_getElem? (i := 14) (by decide +kernel))) (by decide +kernel), by decide +kernel, ⟨by decide +kernel, by decide +kernel⟩, by decide +kernel, by decide, fun h => absurd h (by decide), fun _ => ⟨jm_tbl_mem (jm_p4 (List.mem_of_getElem? (i := 187) (by decide +kernel))) (by decide +kernel), jm_tbl_mem (List.mem_append_left _ (List.mem_map.mpr ⟨(⟨"FallMarket$Told", "alikeAhead", "(I)I"⟩, 3), by decide +kernel, rfl⟩)) (by decide +kernel), Or.inr rfl⟩, fun h => absurd h (by decide), by decide +kernel⟩
theorem jm_ok76 : jm_ok jm_YN jm_M76 := ⟨jm_tbl_mem (jm_p2 (List.mem_of_getElem? (i := 121) rfl)) rfl, jm_tbl_mem (jm_p1 (List.mem_of_getElem? (i := 13) (by decide +kernel))) (by decide +kernel), by decide +kernel, ⟨by decide +kernel, by decide +kernel⟩, by decide +kernel, by decide, fun h => absurd h (by decide), fun h => absurd h (by decide), fun _ => ⟨jm_tbl_mem (jm_p2 (List.mem_of_getElem? (i := 120) (by decide +kernel))) (by decide +kernel), rfl, rfl⟩, by decide +kernel⟩
theorem jm_ok77 : jm_ok jm_YN jm_M77 := ⟨jm_tbl_mem (jm_p2 (List.mem_of_getElem? (i := 205) rfl)) rfl, jm_tbl_mem (jm_p1 (List.mem_of_getElem? (i := 13) (by decide +kernel))) (by decide +kernel), by decide +kernel, ⟨by decide +kernel, by decide +kernel⟩, by decide +kernel, by decide, fun h => absurd h (by decide), fun _ => ⟨jm_tbl_mem (jm_p2 (List.mem_of_getElem? (i := 203) (by decide +kernel))) (by decide +kernel), jm_tbl_mem (jm_p2 (List.mem_of_getElem? (i := 204) (by decide +kernel))) (by decide +kernel), Or.inr rfl⟩, fun h => absurd h (by decide), by decide +kernel⟩
theorem jm_ok78 : jm_ok jm_YN jm_M78 := ⟨jm_tbl_mem (jm_p3 (List.mem_of_getElem? (i := 215) rfl)) rfl, jm_tbl_mem (jm_p1 (List.mem_of_getElem? (i := 13) (by decide +kernel))) (by decide +kernel), by decide +kernel, ⟨by decide +kernel, by decide +kernel⟩, by decide +kernel, by decide, fun h => absurd h (by decide), fun _ => ⟨jm_tbl_mem (jm_p3 (List.mem_of_getElem? (i := 213) (by decide +kernel))) (by decide +kernel), jm_tbl_mem (jm_p3 (List.mem_of_getElem? (i := 214) (by decide +kernel))) (by decide +kernel), Or.inr rfl⟩, fun h => absurd h (by decide), by decide +kernel⟩
theorem jm_ok79 : jm_ok jm_YN jm_M79 := ⟨jm_tbl_mem (jm_p4 (List.mem_of_getElem? (i := 42) rfl)) rfl, jm_tbl_mem (jm_p1 (List.mem_of_getElem? (i := 13) (by decide +kernel))) (by decide +kernel), by decide +kernel, ⟨by decide +kernel, by decide +kernel⟩, by decide +kernel, by decide, fun h => absurd h (by decide), fun _ => ⟨jm_tbl_mem (jm_p4 (List.mem_of_getElem? (i := 40) (by decide +kernel))) (by decide +kernel), jm_tbl_mem (jm_p4 (List.mem_of_getElem? (i := 41) (by decide +kernel))) (by decide +kernel), Or.inr rfl⟩, fun h => absurd h (by decide), by decide +kernel⟩
theorem jm_M80_k0 : jm_rck jm_YN jm_M80 0 jm_M80_r0 = true := by decide +kernel
theorem jm_M80_k1 : jm_rck jm_YN jm_M80 16 jm_M80_r1 = true := by decide +kernel
theorem jm_M80_k2 : jm_rck jm_YN jm_M80 32 jm_M80_r2 = true := by decide +kernel
theorem jm_M80_k3 : jm_rck jm_YN jm_M80 48 jm_M80_r3 = true := by decide +kernel
theorem jm_M80_k4 : jm_rck jm_YN jm_M80 64 jm_M80_r4 = true := by decide +kernel
theorem jm_M80_k5 : jm_rck jm_YN jm_M80 80 jm_M80_r5 = true := by decide +kernel
theorem jm_M80_k6 : jm_rck jm_YN jm_M80 96 jm_M80_r6 = true := by decide +kernel
theorem jm_M80_k7 : jm_rck jm_YN jm_M80 112 jm_M80_r7 = true := by decide +kernel
theorem jm_M80_k8 : jm_rck jm_YN jm_M80 128 jm_M80_r8 = true := by decide +kernel
theorem jm_M80_k9 : jm_rck jm_YN jm_M80 144 jm_M80_r9 = true := by decide +kernel
theorem jm_M80_k10 : jm_rck jm_YN jm_M80 160 jm_M80_r10 = true := by decide +kernel
theorem jm_M80_k : jm_tck jm_YN jm_M80 0 (jm_tb jm_M80) = true := jm_tck_cons jm_M80_k0 (jm_tck_cons jm_M80_k1 (jm_tck_cons jm_M80_k2 (jm_tck_cons jm_M80_k3 (jm_tck_cons jm_M80_k4 (jm_tck_cons jm_M80_k5 (jm_tck_cons jm_M80_k6 (jm_tck_cons jm_M80_k7 (jm_tck_cons jm_M80_k8 (jm_tck_cons jm_M80_k9 (jm_tck_cons jm_M80_k10 (rfl)))))))))))
theorem jm_ok80 : jm_ok jm_YN jm_M80 := ⟨jm_tbl_mem (jm_p1 (List.mem_of_getElem? (i := 24) rfl)) rfl, jm_tbl_mem (jm_p1 (List.mem_of_getElem? (i := 1) (by decide +kernel))) (by decide +kernel), by decide +kernel, ⟨by decide +kernel, by decide +kernel⟩, by decide +kernel, by decide, fun h => absurd h (by decide), fun h => absurd h (by decide), fun _ => ⟨jm_tbl_mem (jm_p1 (List.mem_of_getElem? (i := 23) (by decide +kernel))) (by decide +kernel), rfl, rfl⟩, jm_M80_k⟩
theorem jm_ok81 : jm_ok jm_YN jm_M81 := ⟨jm_tbl_mem (jm_p3 (List.mem_of_getElem? (i := 16) rfl)) rfl, jm_tbl_mem (jm_p1 (List.mem_of_getElem? (i := 1) (by decide +kernel))) (by decide +kernel), by decide +kernel, ⟨by decide +kernel, by decide +kernel⟩, by decide +kernel, by decide, fun h => absurd h (by decide), fun _ => ⟨jm_tbl_mem (jm_p3 (List.mem_of_getElem? (i := 14) (by decide +kernel))) (by decide +kernel), jm_tbl_mem (jm_p3 (List.mem_of_getElem? (i := 15) (by decide +kernel))) (by decide +kernel), Or.inr rfl⟩, fun h => absurd h (by decide), by decide +kernel⟩
theorem jm_ok82 : jm_ok jm_YN jm_M82 := ⟨jm_tbl_mem (jm_p3 (List.mem_of_getElem? (i := 24) rfl)) rfl, jm_tbl_mem (jm_p1 (List.mem_of_getElem? (i := 1) (by decide +kernel))) (by decide +kernel), by decide +kernel, ⟨by decide +kernel, by decide +kernel⟩, by decide +kernel, by decide, fun h => absurd h (by decide), fun _ => ⟨jm_tbl_mem (jm_p3 (List.mem_of_getElem? (i := 22) (by decide +kernel))) (by decide +kernel), jm_tbl_mem (jm_p3 (List.mem_of_getElem? (i := 23) (by decide +kernel))) (by decide +kernel), Or.inr rfl⟩, fun h => absurd h (by decide), by decide +kernel⟩
theorem jm_ok83 : jm_ok jm_YN jm_M83 := ⟨jm_tbl_mem (jm_p3 (List.mem_of_getElem? (i := 28) rfl)) rfl, jm_tbl_mem (jm_p1 (List.mem_of_getElem? (i := 1) (by decide +kernel))) (by decide +kernel), by decide +kernel, ⟨by decide +kernel, by decide +kernel⟩, by decide +kernel, by decide, fun h => absurd h (by decide), fun _ => ⟨jm_tbl_mem (jm_p3 (List.mem_of_getElem? (i := 26) (by decide +kernel))) (by decide +kernel), jm_tbl_mem (jm_p3 (List.mem_of_getElem? (i := 27) (by decide +kernel))) (by decide +kernel), Or.inr rfl⟩, fun h => absurd h (by decide), by decide +kernel⟩
theorem jm_ok84 : jm_ok jm_YN jm_M84 := ⟨jm_tbl_mem (jm_p3 (List.mem_of_getElem? (i := 158) rfl)) rfl, jm_tbl_mem (jm_p1 (List.mem_of_getElem? (i := 1) (by decide +kernel))) (by decide +kernel), by decide +kernel, ⟨by decide +kernel, by decide +kernel⟩, by decide +kernel, by decide, fun h => absurd h (by decide), fun _ => ⟨jm_tbl_mem (jm_p3 (List.mem_of_getElem? (i := 156) (by decide +kernel))) (by decide +kernel), jm_tbl_mem (jm_p3 (List.mem_of_getElem? (i := 157) (by decide +kernel))) (by decide +kernel), Or.inr rfl⟩, fun h => absurd h (by decide), by decide +kernel⟩
theorem jm_M85_k0 : jm_rck jm_YN jm_M85 0 jm_M85_r0 = true := by decide +kernel
theorem jm_M85_k1 : jm_rck jm_YN jm_M85 16 jm_M85_r1 = true := by decide +kernel
theorem jm_M85_k2 : jm_rck jm_YN jm_M85 32 jm_M85_r2 = true := by decide +kernel
theorem jm_M85_k3 : jm_rck jm_YN jm_M85 48 jm_M85_r3 = true := by decide +kernel
theorem jm_M85_k4 : jm_rck jm_YN jm_M85 64 jm_M85_r4 = true := by decide +kernel
theorem jm_M85_k5 : jm_rck jm_YN jm_M85 80 jm_M85_r5 = true := by decide +kernel
theorem jm_M85_k6 : jm_rck jm_YN jm_M85 96 jm_M85_r6 = true := by decide +kernel
theorem jm_M85_k7 : jm_rck jm_YN jm_M85 112 jm_M85_r7 = true := by decide +kernel
theorem jm_M85_k8 : jm_rck jm_YN jm_M85 128 jm_M85_r8 = true := by decide +kernel
theorem jm_M85_k9 : jm_rck jm_YN jm_M85 144 jm_M85_r9 = true := by decide +kernel
theorem jm_M85_k10 : jm_rck jm_YN jm_M85 160 jm_M85_r10 = true := by decide +kernel
theorem jm_M85_k : jm_tck jm_YN jm_M85 0 (jm_tb jm_M85) = true := jm_tck_cons jm_M85_k0 (jm_tck_cons jm_M85_k1 (jm_tck_cons jm_M85_k2 (jm_tck_cons jm_M85_k3 (jm_tck_cons jm_M85_k4 (jm_tck_cons jm_M85_k5 (jm_tck_cons jm_M85_k6 (jm_tck_cons jm_M85_k7 (jm_tck_cons jm_M85_k8 (jm_tck_cons jm_M85_k9 (jm_tck_cons jm_M85_k10 (rfl)))))))))))
theorem jm_ok85 : jm_ok jm_YN jm_M85 := ⟨jm_tbl_mem (jm_p3 (List.mem_of_getElem? (i := 162) rfl)) rfl, jm_tbl_mem (jm_p1 (List.mem_of_getElem? (i := 1) (by decide +kernel))) (by decide +kernel), by decide +kernel, ⟨by decide +kernel, by decide +kernel⟩, by decide +kernel, by decide, fun h => absurd h (by decide), fun _ => ⟨jm_tbl_mem (jm_p3 (List.mem_of_getElem? (i := 160) (by decide +kernel))) (by decide +kernel), jm_tbl_mem (jm_p3 (List.mem_of_getElem? (i := 161) (by decide +kernel))) (by decide +kernel), Or.inr rfl⟩, fun h => absurd h (by decide), jm_M85_k⟩
theorem jm_ok86 : jm_ok jm_YN jm_M86 := ⟨jm_tbl_mem (jm_p3 (List.mem_of_getElem? (i := 170) rfl)) rfl, jm_tbl_mem (jm_p1 (List.mem_of_getElem? (i := 1) (by decide +kernel))) (by decide +kernel), by decide +kernel, ⟨by decide +kernel, by decide +kernel⟩, by decide +kernel, by decide, fun h => absurd h (by decide), fun _ => ⟨jm_tbl_mem (jm_p3 (List.mem_of_getElem? (i := 168) (by decide +kernel))) (by decide +kernel), jm_tbl_mem (jm_p3 (List.mem_of_getElem? (i := 169) (by decide +kernel))) (by decide +kernel), Or.inr rfl⟩, fun h => absurd h (by decide), by decide +kernel⟩
theorem jm_ok87 : jm_ok jm_YN jm_M87 := ⟨jm_tbl_mem (jm_p3 (List.mem_of_getElem? (i := 182) rfl)) rfl, jm_tbl_mem (jm_p1 (List.mem_of_getElem? (i := 1) (by decide +kernel))) (by decide +kernel), by decide +kernel, ⟨by decide +kernel, by decide +kernel⟩, by decide +kernel, by decide, fun h => absurd h (by decide), fun _ => ⟨jm_tbl_mem (jm_p3 (List.mem_of_getElem? (i := 180) (by decide +kernel))) (by decide +kernel), jm_tbl_mem (jm_p3 (List.mem_of_getElem? (i := 181) (by decide +kernel))) (by decide +kernel), Or.inr rfl⟩, fun h => absurd h (by decide), by decide +kernel⟩
theorem jm_ok88 : jm_ok jm_YN jm_M88 := ⟨jm_tbl_mem (jm_p3 (List.mem_of_getElem? (i := 210) rfl)) rfl, jm_tbl_mem (jm_p1 (List.mem_of_getElem? (i := 1) (by decide +kernel))) (by decide +kernel), by decide +kernel, ⟨by decide +kernel, by decide +kernel⟩, by decide +kernel, by decide, fun h => absurd h (by decide), fun _ => ⟨jm_tbl_mem (jm_p3 (List.mem_of_getElem? (i := 208) (by decide +kernel))) (by decide +kernel), jm_tbl_mem (jm_p3 (List.mem_of_getElem? (i := 209) (by decide +kernel))) (by decide +kernel), Or.inr rfl⟩, fun h => absurd h (by decide), by decide +kernel⟩
theorem jm_ok89 : jm_ok jm_YN jm_M89 := ⟨jm_tbl_mem (jm_p3 (List.mem_of_getElem? (i := 223) rfl)) rfl, jm_tbl_mem (jm_p1 (List.mem_of_getElem? (i := 1) (by decide +kernel))) (by decide +kernel), by decide +kernel, ⟨by decide +kernel, by decide +kernel⟩, by decide +kernel, by decide, fun h => absurd h (by decide), fun _ => ⟨jm_tbl_mem (jm_p3 (List.mem_of_getElem? (i := 221) (by decide +kernel))) (by decide +kernel), jm_tbl_mem (jm_p3 (List.mem_of_getElem? (i := 222) (by decide +kernel))) (by decide +kernel), Or.inr rfl⟩, fun h => absurd h (by decide), by decide +kernel⟩
theorem jm_M90_k0 : jm_rck jm_YN jm_M90 0 jm_M90_r0 = true := by decide +kernel
theorem jm_M90_k1 : jm_rck jm_YN jm_M90 16 jm_M90_r1 = true := by decide +kernel
theorem jm_M90_k2 : jm_rck jm_YN jm_M90 32 jm_M90_r2 = true := by decide +kernel
theorem jm_M90_k3 : jm_rck jm_YN jm_M90 48 jm_M90_r3 = true := by decide +kernel
theorem jm_M90_k4 : jm_rck jm_YN jm_M90 64 jm_M90_r4 = true := by decide +kernel
theorem jm_M90_k5 : jm_rck jm_YN jm_M90 80 jm_M90_r5 = true := by decide +kernel
theorem jm_M90_k6 : jm_rck jm_YN jm_M90 96 jm_M90_r6 = true := by decide +kernel
theorem jm_M90_k7 : jm_rck jm_YN jm_M90 112 jm_M90_r7 = true := by decide +kernel
theorem jm_M90_k8 : jm_rck jm_YN jm_M90 128 jm_M90_r8 = true := by decide +kernel
theorem jm_M90_k9 : jm_rck jm_YN jm_M90 144 jm_M90_r9 = true := by decide +kernel
theorem jm_M90_k10 : jm_rck jm_YN jm_M90 160 jm_M90_r10 = true := by decide +kernel
theorem jm_M90_k11 : jm_rck jm_YN jm_M90 176 jm_M90_r11 = true := by decide +kernel
theorem jm_M90_k : jm_tck jm_YN jm_M90 0 (jm_tb jm_M90) = true := jm_tck_cons jm_M90_k0 (jm_tck_cons jm_M90_k1 (jm_tck_cons jm_M90_k2 (jm_tck_cons jm_M90_k3 (jm_tck_cons jm_M90_k4 (jm_tck_cons jm_M90_k5 (jm_tck_cons jm_M90_k6 (jm_tck_cons jm_M90_k7 (jm_tck_cons jm_M90_k8 (jm_tck_cons jm_M90_k9 (jm_tck_cons jm_M90_k10 (jm_tck_cons jm_M90_k11 (rfl))))))))))))
theorem jm_ok90 : jm_ok jm_YN jm_M90 := ⟨jm_tbl_mem (jm_p3 (List.mem_of_getElem? (i := 227) rfl)) rfl, jm_tbl_mem (jm_p1 (List.mem_of_getElem? (i := 1) (by decide +kernel))) (by decide +kernel), by decide +kernel, ⟨by decide +kernel, by decide +kernel⟩, by decide +kernel, by decide, fun h => absurd h (by decide), fun _ => ⟨jm_tbl_mem (jm_p3 (List.mem_of_getElem? (i := 225) (by decide +kernel))) (by decide +kernel), jm_tbl_mem (jm_p3 (List.mem_of_getElem? (i := 226) (by decide +kernel))) (by decide +kernel), Or.inr rfl⟩, fun h => absurd h (by decide), jm_M90_k⟩
theorem jm_ok91 : jm_ok jm_YN jm_M91 := ⟨jm_tbl_mem (jm_p3 (List.mem_of_getElem? (i := 239) rfl)) rfl, jm_tbl_mem (jm_p1 (List.mem_of_getElem? (i := 1) (by decide +kernel))) (by decide +kernel), by decide +kernel, ⟨by decide +kernel, by decide +kernel⟩, by decide +kernel, by decide, fun h => absurd h (by decide), fun _ => ⟨jm_tbl_mem (jm_p3 (List.mem_of_getElem? (i := 237) (by decide +kernel))) (by decide +kernel), jm_tbl_mem (jm_p3 (List.mem_of_getElem? (i := 238) (by decide +kernel))) (by decide +kernel), Or.inr rfl⟩, fun h => absurd h (by decide), by decide +kernel⟩
theorem jm_ok92 : jm_ok jm_YN jm_M92 := ⟨jm_tbl_mem (jm_p4 (List.mem_of_getElem? (i := 38) rfl)) rfl, jm_tbl_mem (jm_p1 (List.mem_of_getElem? (i := 1) (by decide +kernel))) (by decide +kernel), by decide +kernel, ⟨by decide +kernel, by decide +kernel⟩, by decide +kernel, by decide, fun h => absurd h (by decide), fun _ => ⟨jm_tbl_mem (jm_p4 (List.mem_of_getElem? (i := 36) (by decide +kernel))) (by decide +kernel), jm_tbl_mem (jm_p4 (List.mem_of_getElem? (i := 37) (by decide +kernel))) (by decide +kernel), Or.inr rfl⟩, fun h => absurd h (by decide), by decide +kernel⟩
theorem jm_ok93 : jm_ok jm_YN jm_M93 := ⟨jm_tbl_mem (jm_p4 (List.mem_of_getElem? (i := 50) rfl)) rfl, jm_tbl_mem (jm_p1 (List.mem_of_getElem? (i := 1) (by decide +kernel))) (by decide +kernel), by decide +kernel, ⟨by decide +kernel, by decide +kernel⟩, by decide +kernel, by decide, fun h => absurd h (by decide), fun _ => ⟨jm_tbl_mem (jm_p4 (List.mem_of_getElem? (i := 48) (by decide +kernel))) (by decide +kernel), jm_tbl_mem (jm_p4 (List.mem_of_getElem? (i := 49) (by decide +kernel))) (by decide +kernel), Or.inr rfl⟩, fun h => absurd h (by decide), by decide +kernel⟩
theorem jm_ok94 : jm_ok jm_YN jm_M94 := ⟨jm_tbl_mem (jm_p4 (List.mem_of_getElem? (i := 66) rfl)) rfl, jm_tbl_mem (jm_p1 (List.mem_of_getElem? (i := 1) (by decide +kernel))) (by decide +kernel), by decide +kernel, ⟨by decide +kernel, by decide +kernel⟩, by decide +kernel, by decide, fun h => absurd h (by decide), fun _ => ⟨jm_tbl_mem (jm_p4 (List.mem_of_getElem? (i := 64) (by decide +kernel))) (by decide +kernel), jm_tbl_mem (jm_p4 (List.mem_of_getElem? (i := 65) (by decide +kernel))) (by decide +kernel), Or.inr rfl⟩, fun h => absurd h (by decide), by decide +kernel⟩
theorem jm_ok95 : jm_ok jm_YN jm_M95 := ⟨jm_tbl_mem (jm_p4 (List.mem_of_getElem? (i := 92) rfl)) rfl, jm_tbl_mem (jm_p1 (List.mem_of_getElem? (i := 1) (by decide +kernel))) (by decide +kernel), by decide +kernel, ⟨by decide +kernel, by decide +kernel⟩, by decide +kernel, by decide, fun h => absurd h (by decide), fun _ => ⟨jm_tbl_mem (jm_p4 (List.mem_of_getElem? (i := 90) (by decide +kernel))) (by decide +kernel), jm_tbl_mem (jm_p4 (List.mem_of_getElem? (i := 91) (by decide +kernel))) (by decide +kernel), Or.inr rfl⟩, fun h => absurd h (by decide), by decide +kernel⟩
end
section
/-! ===== rows that hold ===== -/
theorem jm_ok96 : jm_ok jm_YN jm_M96 := ⟨jm_tbl_mem (jm_p4 (List.mem_of_getElem? (i := 97) rfl)) rfl, jm_tbl_mem (jm_p1 (List.mem_of_getElem? (i := 1) (by decide +kernel))) (by decide +kernel), by decide +kernel, ⟨by decide +kernel, by decide +kernel⟩, by decide +kernel, by decide, fun h => absurd h (by decide), fun _ => ⟨jm_tbl_mem (jm_p4 (List.mem_of_getElem? (i := 95) (by decide +kernel))) (by decide +kernel), jm_tbl_mem (jm_p4 (List.mem_of_getElem? (i := 96) (by decide +kernel))) (by decide +kernel), Or.inr rfl⟩, fun h => absurd h (by decide), by decide +kernel⟩
theorem jm_ok97 : jm_ok jm_YN jm_M97 := ⟨jm_tbl_mem (jm_p4 (List.mem_of_getElem? (i := 108) rfl)) rfl, jm_tbl_mem (jm_p1 (List.mem_of_getElem? (i := 1) (by decide +kernel))) (by decide +kernel), by decide +kernel, ⟨by decide +kernel, by decide +kernel⟩, by decide +kernel, by decide, fun h => absurd h (by decide), fun _ => ⟨jm_tbl_mem (jm_p4 (List.mem_of_getElem? (i := 106) (by decide +kernel))) (by decide +kernel), jm_tbl_mem (jm_p4 (List.mem_of_getElem? (i := 107) (by decide +kernel))) (by decide +kernel), Or.inr rfl⟩, fun h => absurd h (by decide), by decide +kernel⟩
theorem jm_ok98 : jm_ok jm_YN jm_M98 := ⟨jm_tbl_mem (jm_p4 (List.mem_of_getElem? (i := 112) rfl)) rfl, jm_tbl_mem (jm_p1 (List.mem_of_getElem? (i := 1) (by decide +kernel))) (by decide +kernel), by decide +kernel, ⟨by decide +kernel, by decide +kernel⟩, by decide +kernel, by decide, fun h => absurd h (by decide), fun _ => ⟨jm_tbl_mem (jm_p4 (List.mem_of_getElem? (i := 110) (by decide +kernel))) (by decide +kernel), jm_tbl_mem (jm_p4 (List.mem_of_getElem? (i := 111) (by decide +kernel))) (by decide +kernel), Or.inr rfl⟩, fun h => absurd h (by decide), by decide +kernel⟩
theorem jm_ok99 : jm_ok jm_YN jm_M99 := ⟨jm_tbl_mem (jm_p4 (List.mem_of_getElem? (i := 116) rfl)) rfl, jm_tbl_mem (jm_p1 (List.mem_of_getElem? (i := 1) (by decide +kernel))) (by decide +kernel), by decide +kernel, ⟨by decide +kernel, by decide +kernel⟩, by decide +kernel, by decide, fun h => absurd h (by decide), fun _ => ⟨jm_tbl_mem (jm_p4 (List.mem_of_getElem? (i := 114) (by decide +kernel))) (by decide +kernel), jm_tbl_mem (jm_p4 (List.mem_of_getElem? (i := 115) (by decide +kernel))) (by decide +kernel), Or.inr rfl⟩, fun h => absurd h (by decide), by decide +kernel⟩
theorem jm_ok100 : jm_ok jm_YN jm_M100 := ⟨jm_tbl_mem (jm_p4 (List.mem_of_getElem? (i := 120) rfl)) rfl, jm_tbl_mem (jm_p1 (List.mem_of_getElem? (i := 1) (by decide +kernel))) (by decide +kernel), by decide +kernel, ⟨by decide +kernel, by decide +kernel⟩, by decide +kernel, by decide, fun h => absurd h (by decide), fun _ => ⟨jm_tbl_mem (jm_p4 (List.mem_of_getElem? (i := 118) (by decide +kernel))) (by decide +kernel), jm_tbl_mem (jm_p4 (List.mem_of_getElem? (i := 119) (by decide +kernel))) (by decide +kernel), Or.inr rfl⟩, fun h => absurd h (by decide), by decide +kernel⟩
theorem jm_ok101 : jm_ok jm_YN jm_M101 := ⟨jm_tbl_mem (jm_p4 (List.mem_of_getElem? (i := 124) rfl)) rfl, jm_tbl_mem (jm_p1 (List.mem_of_getElem? (i := 1) (by decide +kernel))) (by decide +kernel), by decide +kernel, ⟨by decide +kernel, by decide +kernel⟩, by decide +kernel, by decide, fun h => absurd h (by decide), fun _ => ⟨jm_tbl_mem (jm_p4 (List.mem_of_getElem? (i := 122) (by decide +kernel))) (by decide +kernel), jm_tbl_mem (jm_p4 (List.mem_of_getElem? (i := 123) (by decide +kernel))) (by decide +kernel), Or.inr rfl⟩, fun h => absurd h (by decide), by decide +kernel⟩
theorem jm_ok102 : jm_ok jm_YN jm_M102 := ⟨jm_tbl_mem (jm_p4 (List.mem_of_getElem? (i := 128) rfl)) rfl, jm_tbl_mem (jm_p1 (List.mem_of_getElem? (i := 1) (by decide +kernel))) (by decide +kernel), by decide +kernel, ⟨by decide +kernel, by decide +kernel⟩, by decide +kernel, by decide, fun h => absurd h (by decide), fun _ => ⟨jm_tbl_mem (jm_p4 (List.mem_of_getElem? (i := 126) (by decide +kernel))) (by decide +kernel), jm_tbl_mem (jm_p4 (List.mem_of_getElem? (i := 127) (by decide +kernel))) (by decide +kernel), Or.inr rfl⟩, fun h => absurd h (by decide), by decide +kernel⟩
theorem jm_ok103 : jm_ok jm_YN jm_M103 := ⟨jm_tbl_mem (jm_p4 (List.mem_of_getElem? (i := 136) rfl)) rfl, jm_tbl_mem (jm_p1 (List.mem_of_getElem? (i := 1) (by decide +kernel))) (by decide +kernel), by decide +kernel, ⟨by decide +kernel, by decide +kernel⟩, by decide +kernel, by decide, fun h => absurd h (by decide), fun _ => ⟨jm_tbl_mem (jm_p4 (List.mem_of_getElem? (i := 134) (by decide +kernel))) (by decide +kernel), jm_tbl_mem (jm_p4 (List.mem_of_getElem? (i := 135) (by decide +kernel))) (by decide +kernel), Or.inr rfl⟩, fun h => absurd h (by decide), by decide +kernel⟩
theorem jm_ok104 : jm_ok jm_YN jm_M104 := ⟨jm_tbl_mem (jm_p4 (List.mem_of_getElem? (i := 140) rfl)) rfl, jm_tbl_mem (jm_p1 (List.mem_of_getElem? (i := 1) (by decide +kernel))) (by decide +kernel), by decide +kernel, ⟨by decide +kernel, by decide +kernel⟩, by decide +kernel, by decide, fun h => absurd h (by decide), fun _ => ⟨jm_tbl_mem (jm_p4 (List.mem_of_getElem? (i := 138) (by decide +kernel))) (by decide +kernel), jm_tbl_mem (jm_p4 (List.mem_of_getElem? (i := 139) (by decide +kernel))) (by decide +kernel), Or.inr rfl⟩, fun h => absurd h (by decide), by decide +kernel⟩
theorem jm_ok105 : jm_ok jm_YN jm_M105 := ⟨jm_tbl_mem (jm_p4 (List.mem_of_getElem? (i := 144) rfl)) rfl, jm_tbl_mem (jm_p1 (List.mem_of_getElem? (i := 1) (by decide +kernel))) (by decide +kernel), by decide +kernel, ⟨by decide +kernel, by decide +kernel⟩, by decide +kernel, by decide, fun h => absurd h (by decide), fun _ => ⟨jm_tbl_mem (jm_p4 (List.mem_of_getElem? (i := 142) (by decide +kernel))) (by decide +kernel), jm_tbl_mem (jm_p4 (List.mem_of_getElem? (i := 143) (by decide +kernel))) (by decide +kernel), Or.inr rfl⟩, fun h => absurd h (by decide), by decide +kernel⟩
theorem jm_ok106 : jm_ok jm_YN jm_M106 := ⟨jm_tbl_mem (jm_p4 (List.mem_of_getElem? (i := 152) rfl)) rfl, jm_tbl_mem (jm_p1 (List.mem_of_getElem? (i := 1) (by decide +kernel))) (by decide +kernel), by decide +kernel, ⟨by decide +kernel, by decide +kernel⟩, by decide +kernel, by decide, fun h => absurd h (by decide), fun _ => ⟨jm_tbl_mem (jm_p4 (List.mem_of_getElem? (i := 150) (by decide +kernel))) (by decide +kernel), jm_tbl_mem (jm_p4 (List.mem_of_getElem? (i := 151) (by decide +kernel))) (by decide +kernel), Or.inr rfl⟩, fun h => absurd h (by decide), by decide +kernel⟩
theorem jm_ok107 : jm_ok jm_YN jm_M107 := ⟨jm_tbl_mem (jm_p4 (List.mem_of_getElem? (i := 156) rfl)) rfl, jm_tbl_mem (jm_p1 (List.mem_of_getElem? (i := 1) (by decide +kernel))) (by decide +kernel), by decide +kernel, ⟨by decide +kernel, by decide +kernel⟩, by decide +kernel, by decide, fun h => absurd h (by decide), fun _ => ⟨jm_tbl_mem (jm_p4 (List.mem_of_getElem? (i := 154) (by decide +kernel))) (by decide +kernel), jm_tbl_mem (jm_p4 (List.mem_of_getElem? (i := 155) (by decide +kernel))) (by decide +kernel), Or.inr rfl⟩, fun h => absurd h (by decide), by decide +kernel⟩
theorem jm_ok108 : jm_ok jm_YN jm_M108 := ⟨jm_tbl_mem (jm_p4 (List.mem_of_getElem? (i := 160) rfl)) rfl, jm_tbl_mem (jm_p1 (List.mem_of_getElem? (i := 1) (by decide +kernel))) (by decide +kernel), by decide +kernel, ⟨by decide +kernel, by decide +kernel⟩, by decide +kernel, by decide, fun h => absurd h (by decide), fun _ => ⟨jm_tbl_mem (jm_p4 (List.mem_of_getElem? (i := 158) (by decide +kernel))) (by decide +kernel), jm_tbl_mem (jm_p4 (List.mem_of_getElem? (i := 159) (by decide +kernel))) (by decide +kernel), Or.inr rfl⟩, fun h => absurd h (by decide), by decide +kernel⟩
theorem jm_ok109 : jm_ok jm_YN jm_M109 := ⟨jm_tbl_mem (jm_p4 (List.mem_of_getElem? (i := 168) rfl)) rfl, jm_tbl_mem (jm_p1 (List.mem_of_getElem? (i := 1) (by decide +kernel))) (by decide +kernel), by decide +kernel, ⟨by decide +kernel, by decide +kernel⟩, by decide +kernel, by decide, fun h => absurd h (by decide), fun _ => ⟨jm_tbl_mem (jm_p4 (List.mem_of_getElem? (i := 166) (by decide +kernel))) (by decide +kernel), jm_tbl_mem (jm_p4 (List.mem_of_getElem? (i := 167) (by decide +kernel))) (by decide +kernel), Or.inr rfl⟩, fun h => absurd h (by decide), by decide +kernel⟩
theorem jm_ok110 : jm_ok jm_YN jm_M110 := ⟨jm_tbl_mem (jm_p4 (List.mem_of_getElem? (i := 172) rfl)) rfl, jm_tbl_mem (jm_p1 (List.mem_of_getElem? (i := 1) (by decide +kernel))) (by decide +kernel), by decide +kernel, ⟨by decide +kernel, by decide +kernel⟩, by decide +kernel, by decide, fun h => absurd h (by decide), fun _ => ⟨jm_tbl_mem (jm_p4 (List.mem_of_getElem? (i := 170) (by decide +kernel))) (by decide +kernel), jm_tbl_mem (jm_p4 (List.mem_of_getElem? (i := 171) (by decide +kernel))) (by decide +kernel), Or.inr rfl⟩, fun h => absurd h (by decide), by decide +kernel⟩
theorem jm_ok111 : jm_ok jm_YN jm_M111 := ⟨jm_tbl_mem (jm_p4 (List.mem_of_getElem? (i := 192) rfl)) rfl, jm_tbl_mem (jm_p1 (List.mem_of_getElem? (i := 1) (by decide +kernel))) (by decide +kernel), by decide +kernel, ⟨by decide +kernel, by decide +kernel⟩, by decide +kernel, by decide, fun h => absurd h (by decide), fun _ => ⟨jm_tbl_mem (jm_p4 (List.mem_of_getElem? (i := 190) (by decide +kernel))) (by decide +kernel), jm_tbl_mem (jm_p4 (List.mem_of_getElem? (i := 191) (by decide +kernel))) (by decide +kernel), Or.inr rfl⟩, fun h => absurd h (by decide), by decide +kernel⟩
theorem jm_ok112 : jm_ok jm_YN jm_M112 := ⟨jm_tbl_mem (jm_p4 (List.mem_of_getElem? (i := 201) rfl)) rfl, jm_tbl_mem (jm_p1 (List.mem_of_getElem? (i := 1) (by decide +kernel))) (by decide +kernel), by decide +kernel, ⟨by decide +kernel, by decide +kernel⟩, by decide +kernel, by decide, fun h => absurd h (by decide), fun _ => ⟨jm_tbl_mem (jm_p4 (List.mem_of_getElem? (i := 199) (by decide +kernel))) (by decide +kernel), jm_tbl_mem (jm_p4 (List.mem_of_getElem? (i := 200) (by decide +kernel))) (by decide +kernel), Or.inr rfl⟩, fun h => absurd h (by decide), by decide +kernel⟩
theorem jm_ok113 : jm_ok jm_YN jm_M113 := ⟨jm_tbl_mem (jm_p4 (List.mem_of_getElem? (i := 209) rfl)) rfl, jm_tbl_mem (jm_p1 (List.mem_of_getElem? (i := 1) (by decide +kernel))) (by decide +kernel), by decide +kernel, ⟨by decide +kernel, by decide +kernel⟩, by decide +kernel, by decide, fun h => absurd h (by decide), fun _ => ⟨jm_tbl_mem (jm_p4 (List.mem_of_getElem? (i := 207) (by decide +kernel))) (by decide +kernel), jm_tbl_mem (jm_p4 (List.mem_of_getElem? (i := 208) (by decide +kernel))) (by decide +kernel), Or.inr rfl⟩, fun h => absurd h (by decide), by decide +kernel⟩
theorem jm_ok114 : jm_ok jm_YN jm_M114 := ⟨jm_tbl_mem (jm_p4 (List.mem_of_getElem? (i := 214) rfl)) rfl, jm_tbl_mem (jm_p1 (List.mem_of_getElem? (i := 1) (by decide +kernel))) (by decide +kernel), by decide +kernel, ⟨by decide +kernel, by decide +kernel⟩, by decide +kernel, by decide, fun h => absurd h (by decide), fun _ => ⟨jm_tbl_mem (jm_p4 (List.mem_of_getElem? (i := 212) (by decide +kernel))) (by decide +kernel), jm_tbl_mem (jm_p4 (List.mem_of_getElem? (i := 213) (by decide +kernel))) (by decide +kernel), Or.inr rfl⟩, fun h => absurd h (by decide), by decide +kernel⟩
theorem jm_M115_k0 : jm_rck jm_YN jm_M115 0 jm_M115_r0 = true := by decide +kernel
theorem jm_M115_k1 : jm_rck jm_YN jm_M115 16 jm_M115_r1 = true := by decide +kernel
theorem jm_M115_k2 : jm_rck jm_YN jm_M115 32 jm_M115_r2 = true := by decide +kernel
theorem jm_M115_k3 : jm_rck jm_YN jm_M115 48 jm_M115_r3 = true := by decide +kernel
theorem jm_M115_k4 : jm_rck jm_YN jm_M115 64 jm_M115_r4 = true := by decide +kernel
theorem jm_M115_k5 : jm_rck jm_YN jm_M115 80 jm_M115_r5 = true := by decide +kernel
theorem jm_M115_k6 : jm_rck jm_YN jm_M115 96 jm_M115_r6 = true := by decide +kernel
theorem jm_M115_k7 : jm_rck jm_YN jm_M115 112 jm_M115_r7 = true := by decide +kernel
theorem jm_M115_k8 : jm_rck jm_YN jm_M115 128 jm_M115_r8 = true := by decide +kernel
theorem jm_M115_k9 : jm_rck jm_YN jm_M115 144 jm_M115_r9 = true := by decide +kernel
theorem jm_M115_k10 : jm_rck jm_YN jm_M115 160 jm_M115_r10 = true := by decide +kernel
theorem jm_M115_k11 : jm_rck jm_YN jm_M115 176 jm_M115_r11 = true := by decide +kernel
theorem jm_M115_k12 : jm_rck jm_YN jm_M115 192 jm_M115_r12 = true := by decide +kernel
theorem jm_M115_k13 : jm_rck jm_YN jm_M115 208 jm_M115_r13 = true := by decide +kernel
theorem jm_M115_k14 : jm_rck jm_YN jm_M115 224 jm_M115_r14 = true := by decide +kernel
theorem jm_M115_k15 : jm_rck jm_YN jm_M115 240 jm_M115_r15 = true := by decide +kernel
theorem jm_M115_k16 : jm_rck jm_YN jm_M115 256 jm_M115_r16 = true := by decide +kernel
theorem jm_M115_k17 : jm_rck jm_YN jm_M115 272 jm_M115_r17 = true := by decide +kernel
theorem jm_M115_k : jm_tck jm_YN jm_M115 0 (jm_tb jm_M115) = true := jm_tck_cons jm_M115_k0 (jm_tck_cons jm_M115_k1 (jm_tck_cons jm_M115_k2 (jm_tck_cons jm_M115_k3 (jm_tck_cons jm_M115_k4 (jm_tck_cons jm_M115_k5 (jm_tck_cons jm_M115_k6 (jm_tck_cons jm_M115_k7 (jm_tck_cons jm_M115_k8 (jm_tck_cons jm_M115_k9 (jm_tck_cons jm_M115_k10 (jm_tck_cons jm_M115_k11 (jm_tck_cons jm_M115_k12 (jm_tck_cons jm_M115_k13 (jm_tck_cons jm_M115_k14 (jm_tck_cons jm_M115_k15 (jm_tck_cons jm_M115_k16 (jm_tck_cons jm_M115_k17 (rfl))))))))))))))))))
theorem jm_ok115 : jm_ok jm_YN jm_M115 := ⟨jm_tbl_mem (jm_p4 (List.mem_of_getElem? (i := 219) rfl)) rfl, jm_tbl_mem (jm_p1 (List.mem_of_getElem? (i := 1) (by decide +kernel))) (by decide +kernel), by decide +kernel, ⟨by decide +kernel, by decide +kernel⟩, by decide +kernel, by decide, fun h => absurd h (by decide), fun _ => ⟨jm_tbl_mem (jm_p4 (List.mem_of_getElem? (i := 217) (by decide +kernel))) (by decide +kernel), jm_tbl_mem (jm_p4 (List.mem_of_getElem? (i := 218) (by decide +kernel))) (by decide +kernel), Or.inr rfl⟩, fun h => absurd h (by decide), jm_M115_k⟩
theorem jm_ok116 : jm_ok jm_YN jm_M116 := ⟨jm_tbl_mem (jm_p3 (List.mem_of_getElem? (i := 20) rfl)) rfl, jm_tbl_mem (jm_p1 (List.mem_of_getElem? (i := 1) (by decide +kernel))) (by decide +kernel), by decide +kernel, ⟨by decide +kernel, by decide +kernel⟩, by decide +kernel, by decide, fun h => absurd h (by decide), fun _ => ⟨jm_tbl_mem (jm_p3 (List.mem_of_getElem? (i := 19) (by decide +kernel))) (by decide +kernel), jm_tbl_mem (List.mem_append_left _ (List.mem_map.mpr ⟨(⟨"FallMarket", "append", "(I)V"⟩, 15), by decide +kernel, rfl⟩)) (by decide +kernel), Or.inr rfl⟩, fun h => absurd h (by decide), by decide +kernel⟩
theorem jm_ok117 : jm_ok jm_YN jm_M117 := ⟨jm_tbl_mem (jm_p2 (List.mem_of_getElem? (i := 155) rfl)) rfl, jm_tbl_mem (jm_p1 (List.mem_of_getElem? (i := 1) (by decide +kernel))) (by decide +kernel), by decide +kernel, ⟨by decide +kernel, by decide +kernel⟩, by decide +kernel, by decide, fun h => absurd h (by decide), fun _ => ⟨jm_tbl_mem (jm_p2 (List.mem_of_getElem? (i := 154) (by decide +kernel))) (by decide +kernel), jm_tbl_mem (List.mem_append_left _ (List.mem_map.mpr ⟨(⟨"FallMarket", "begin", "()V"⟩, 15), by decide +kernel, rfl⟩)) (by decide +kernel), Or.inr rfl⟩, fun h => absurd h (by decide), by decide +kernel⟩
theorem jm_ok118 : jm_ok jm_YN jm_M118 := ⟨jm_tbl_mem (jm_p3 (List.mem_of_getElem? (i := 166) rfl)) rfl, jm_tbl_mem (jm_p1 (List.mem_of_getElem? (i := 1) (by decide +kernel))) (by decide +kernel), by decide +kernel, ⟨by decide +kernel, by decide +kernel⟩, by decide +kernel, by decide, fun h => absurd h (by decide), fun _ => ⟨jm_tbl_mem (jm_p3 (List.mem_of_getElem? (i := 165) (by decide +kernel))) (by decide +kernel), jm_tbl_mem (List.mem_append_left _ (List.mem_map.mpr ⟨(⟨"FallMarket", "isFruit", "(I)Z"⟩, 15), by decide +kernel, rfl⟩)) (by decide +kernel), Or.inr rfl⟩, fun h => absurd h (by decide), by decide +kernel⟩
theorem jm_ok119 : jm_ok jm_YN jm_M119 := ⟨jm_tbl_mem (jm_p3 (List.mem_of_getElem? (i := 174) rfl)) rfl, jm_tbl_mem (jm_p1 (List.mem_of_getElem? (i := 1) (by decide +kernel))) (by decide +kernel), by decide +kernel, ⟨by decide +kernel, by decide +kernel⟩, by decide +kernel, by decide, fun h => absurd h (by decide), fun _ => ⟨jm_tbl_mem (jm_p3 (List.mem_of_getElem? (i := 173) (by decide +kernel))) (by decide +kernel), jm_tbl_mem (List.mem_append_left _ (List.mem_map.mpr ⟨(⟨"FallMarket", "isBuyer", "(I)Z"⟩, 15), by decide +kernel, rfl⟩)) (by decide +kernel), Or.inr rfl⟩, fun h => absurd h (by decide), by decide +kernel⟩
theorem jm_ok120 : jm_ok jm_YN jm_M120 := ⟨jm_tbl_mem (jm_p3 (List.mem_of_getElem? (i := 186) rfl)) rfl, jm_tbl_mem (jm_p1 (List.mem_of_getElem? (i := 1) (by decide +kernel))) (by decide +kernel), by decide +kernel, ⟨by decide +kernel, by decide +kernel⟩, by decide +kernel, by decide, fun h => absurd h (by decide), fun _ => ⟨jm_tbl_mem (jm_p3 (List.mem_of_getElem? (i := 185) (by decide +kernel))) (by decide +kernel), jm_tbl_mem (List.mem_append_left _ (List.mem_map.mpr ⟨(⟨"FallMarket", "lookAtNow", "(I)V"⟩, 15), by decide +kernel, rfl⟩)) (by decide +kernel), Or.inr rfl⟩, fun h => absurd h (by decide), by decide +kernel⟩
theorem jm_ok121 : jm_ok jm_YN jm_M121 := ⟨jm_tbl_mem (jm_p4 (List.mem_of_getElem? (i := 132) rfl)) rfl, jm_tbl_mem (jm_p1 (List.mem_of_getElem? (i := 1) (by decide +kernel))) (by decide +kernel), by decide +kernel, ⟨by decide +kernel, by decide +kernel⟩, by decide +kernel, by decide, fun h => absurd h (by decide), fun _ => ⟨jm_tbl_mem (jm_p4 (List.mem_of_getElem? (i := 131) (by decide +kernel))) (by decide +kernel), jm_tbl_mem (List.mem_append_left _ (List.mem_map.mpr ⟨(⟨"FallMarket", "goAhead", "(I)V"⟩, 15), by decide +kernel, rfl⟩)) (by decide +kernel), Or.inr rfl⟩, fun h => absurd h (by decide), by decide +kernel⟩
theorem jm_ok122 : jm_ok jm_YN jm_M122 := ⟨jm_tbl_mem (jm_p4 (List.mem_of_getElem? (i := 80) rfl)) rfl, jm_tbl_mem (jm_p1 (List.mem_of_getElem? (i := 1) (by decide +kernel))) (by decide +kernel), by decide +kernel, ⟨by decide +kernel, by decide +kernel⟩, by decide +kernel, by decide, fun h => absurd h (by decide), fun _ => ⟨jm_tbl_mem (jm_p4 (List.mem_of_getElem? (i := 79) (by decide +kernel))) (by decide +kernel), jm_tbl_mem (List.mem_append_left _ (List.mem_map.mpr ⟨(⟨"FallMarket", "catchesAt", "(II)J"⟩, 15), by decide +kernel, rfl⟩)) (by decide +kernel), Or.inr rfl⟩, fun h => absurd h (by decide), by decide +kernel⟩
theorem jm_ok123 : jm_ok jm_YN jm_M123 := ⟨jm_tbl_mem (jm_p3 (List.mem_of_getElem? (i := 178) rfl)) rfl, jm_tbl_mem (jm_p1 (List.mem_of_getElem? (i := 1) (by decide +kernel))) (by decide +kernel), by decide +kernel, ⟨by decide +kernel, by decide +kernel⟩, by decide +kernel, by decide, fun h => absurd h (by decide), fun _ => ⟨jm_tbl_mem (jm_p3 (List.mem_of_getElem? (i := 177) (by decide +kernel))) (by decide +kernel), jm_tbl_mem (List.mem_append_left _ (List.mem_map.mpr ⟨(⟨"FallMarket", "boughtBits", "(I)I"⟩, 15), by decide +kernel, rfl⟩)) (by decide +kernel), Or.inr rfl⟩, fun h => absurd h (by decide), by decide +kernel⟩
theorem jm_ok124 : jm_ok jm_YN jm_M124 := ⟨jm_tbl_mem (jm_p4 (List.mem_of_getElem? (i := 224) rfl)) rfl, jm_tbl_mem (jm_p1 (List.mem_of_getElem? (i := 1) (by decide +kernel))) (by decide +kernel), by decide +kernel, ⟨by decide +kernel, by decide +kernel⟩, by decide +kernel, by decide, fun h => absurd h (by decide), fun _ => ⟨jm_tbl_mem (jm_p4 (List.mem_of_getElem? (i := 223) (by decide +kernel))) (by decide +kernel), jm_tbl_mem (List.mem_append_left _ (List.mem_map.mpr ⟨(⟨"FallMarket", "heldSlots", "()I"⟩, 15), by decide +kernel, rfl⟩)) (by decide +kernel), Or.inr rfl⟩, fun h => absurd h (by decide), by decide +kernel⟩
theorem jm_ok125 : jm_ok jm_YN jm_M125 := ⟨jm_tbl_mem (jm_p4 (List.mem_of_getElem? (i := 228) rfl)) rfl, jm_tbl_mem (jm_p1 (List.mem_of_getElem? (i := 1) (by decide +kernel))) (by decide +kernel), by decide +kernel, ⟨by decide +kernel, by decide +kernel⟩, by decide +kernel, by decide, fun h => absurd h (by decide), fun _ => ⟨jm_tbl_mem (jm_p4 (List.mem_of_getElem? (i := 227) (by decide +kernel))) (by decide +kernel), jm_tbl_mem (List.mem_append_left _ (List.mem_map.mpr ⟨(⟨"FallMarket", "allCoins", "()I"⟩, 15), by decide +kernel, rfl⟩)) (by decide +kernel), Or.inr rfl⟩, fun h => absurd h (by decide), by decide +kernel⟩
theorem jm_ok126 : jm_ok jm_YN jm_M126 := ⟨jm_tbl_mem (jm_p4 (List.mem_of_getElem? (i := 232) rfl)) rfl, jm_tbl_mem (jm_p1 (List.mem_of_getElem? (i := 1) (by decide +kernel))) (by decide +kernel), by decide +kernel, ⟨by decide +kernel, by decide +kernel⟩, by decide +kernel, by decide, fun h => absurd h (by decide), fun _ => ⟨jm_tbl_mem (jm_p4 (List.mem_of_getElem? (i := 231) (by decide +kernel))) (by decide +kernel), jm_tbl_mem (List.mem_append_left _ (List.mem_map.mpr ⟨(⟨"FallMarket", "proppedBits", "()I"⟩, 15), by decide +kernel, rfl⟩)) (by decide +kernel), Or.inr rfl⟩, fun h => absurd h (by decide), by decide +kernel⟩
theorem jm_ok127 : jm_ok jm_YN jm_M127 := ⟨jm_tbl_mem (jm_p4 (List.mem_of_getElem? (i := 236) rfl)) rfl, jm_tbl_mem (jm_p1 (List.mem_of_getElem? (i := 1) (by decide +kernel))) (by decide +kernel), by decide +kernel, ⟨by decide +kernel, by decide +kernel⟩, by decide +kernel, by decide, fun h => absurd h (by decide), fun _ => ⟨jm_tbl_mem (jm_p4 (List.mem_of_getElem? (i := 235) (by decide +kernel))) (by decide +kernel), jm_tbl_mem (List.mem_append_left _ (List.mem_map.mpr ⟨(⟨"FallMarket", "hangingRipeness", "()I"⟩, 15), by decide +kernel, rfl⟩)) (by decide +kernel), Or.inr rfl⟩, fun h => absurd h (by decide), by decide +kernel⟩
end
section
/-! ===== rows that hold ===== -/
theorem jm_ok128 : jm_ok jm_YN jm_M128 := ⟨jm_tbl_mem (jm_p3 (List.mem_of_getElem? (i := 106) rfl)) rfl, jm_tbl_mem (jm_p1 (List.mem_of_getElem? (i := 1) (by decide +kernel))) (by decide +kernel), by decide +kernel, ⟨by decide +kernel, by decide +kernel⟩, by decide +kernel, by decide, fun _ => jm_tbl_mem (jm_p3 (List.mem_of_getElem? (i := 105) (by decide +kernel))) (by decide +kernel), fun h => absurd h (by decide), fun h => absurd h (by decide), by decide +kernel⟩
theorem jm_ok129 : jm_ok jm_YN jm_M129 := ⟨jm_tbl_mem (jm_p2 (List.mem_of_getElem? (i := 191) rfl)) rfl, jm_tbl_mem (jm_p1 (List.mem_of_getElem? (i := 1) (by decide +kernel))) (by decide +kernel), by decide +kernel, ⟨by decide +kernel, by decide +kernel⟩, by decide +kernel, by decide, fun _ => jm_tbl_mem (jm_p2 (List.mem_of_getElem? (i := 190) (by decide +kernel))) (by decide +kernel), fun h => absurd h (by decide), fun h => absurd h (by decide), by decide +kernel⟩
theorem jm_ok130 : jm_ok jm_YN jm_M130 := ⟨jm_tbl_mem (jm_p4 (List.mem_of_getElem? (i := 148) rfl)) rfl, jm_tbl_mem (jm_p1 (List.mem_of_getElem? (i := 1) (by decide +kernel))) (by decide +kernel), by decide +kernel, ⟨by decide +kernel, by decide +kernel⟩, by decide +kernel, by decide, fun _ => jm_tbl_mem (jm_p4 (List.mem_of_getElem? (i := 147) (by decide +kernel))) (by decide +kernel), fun h => absurd h (by decide), fun h => absurd h (by decide), by decide +kernel⟩
theorem jm_ok131 : jm_ok jm_YN jm_M131 := ⟨jm_tbl_mem (jm_p4 (List.mem_of_getElem? (i := 62) rfl)) rfl, jm_tbl_mem (jm_p1 (List.mem_of_getElem? (i := 1) (by decide +kernel))) (by decide +kernel), by decide +kernel, ⟨by decide +kernel, by decide +kernel⟩, by decide +kernel, by decide, fun _ => jm_tbl_mem (jm_p4 (List.mem_of_getElem? (i := 61) (by decide +kernel))) (by decide +kernel), fun h => absurd h (by decide), fun h => absurd h (by decide), by decide +kernel⟩
theorem jm_M132_k0 : jm_rck jm_YN jm_M132 0 jm_M132_r0 = true := by decide +kernel
theorem jm_M132_k1 : jm_rck jm_YN jm_M132 16 jm_M132_r1 = true := by decide +kernel
theorem jm_M132_k2 : jm_rck jm_YN jm_M132 32 jm_M132_r2 = true := by decide +kernel
theorem jm_M132_k3 : jm_rck jm_YN jm_M132 48 jm_M132_r3 = true := by decide +kernel
theorem jm_M132_k4 : jm_rck jm_YN jm_M132 64 jm_M132_r4 = true := by decide +kernel
theorem jm_M132_k5 : jm_rck jm_YN jm_M132 80 jm_M132_r5 = true := by decide +kernel
theorem jm_M132_k6 : jm_rck jm_YN jm_M132 96 jm_M132_r6 = true := by decide +kernel
theorem jm_M132_k7 : jm_rck jm_YN jm_M132 112 jm_M132_r7 = true := by decide +kernel
theorem jm_M132_k8 : jm_rck jm_YN jm_M132 128 jm_M132_r8 = true := by decide +kernel
theorem jm_M132_k9 : jm_rck jm_YN jm_M132 144 jm_M132_r9 = true := by decide +kernel
theorem jm_M132_k10 : jm_rck jm_YN jm_M132 160 jm_M132_r10 = true := by decide +kernel
theorem jm_M132_k11 : jm_rck jm_YN jm_M132 176 jm_M132_r11 = true := by decide +kernel
theorem jm_M132_k12 : jm_rck jm_YN jm_M132 192 jm_M132_r12 = true := by decide +kernel
theorem jm_M132_k13 : jm_rck jm_YN jm_M132 208 jm_M132_r13 = true := by decide +kernel
theorem jm_M132_k14 : jm_rck jm_YN jm_M132 224 jm_M132_r14 = true := by decide +kernel
theorem jm_M132_k15 : jm_rck jm_YN jm_M132 240 jm_M132_r15 = true := by decide +kernel
theorem jm_M132_k16 : jm_rck jm_YN jm_M132 256 jm_M132_r16 = true := by decide +kernel
theorem jm_M132_k17 : jm_rck jm_YN jm_M132 272 jm_M132_r17 = true := by decide +kernel
theorem jm_M132_k18 : jm_rck jm_YN jm_M132 288 jm_M132_r18 = true := by decide +kernel
theorem jm_M132_k19 : jm_rck jm_YN jm_M132 304 jm_M132_r19 = true := by decide +kernel
theorem jm_M132_k20 : jm_rck jm_YN jm_M132 320 jm_M132_r20 = true := by decide +kernel
theorem jm_M132_k21 : jm_rck jm_YN jm_M132 336 jm_M132_r21 = true := by decide +kernel
theorem jm_M132_k22 : jm_rck jm_YN jm_M132 352 jm_M132_r22 = true := by decide +kernel
theorem jm_M132_k23 : jm_rck jm_YN jm_M132 368 jm_M132_r23 = true := by decide +kernel
theorem jm_M132_k24 : jm_rck jm_YN jm_M132 384 jm_M132_r24 = true := by decide +kernel
theorem jm_M132_k25 : jm_rck jm_YN jm_M132 400 jm_M132_r25 = true := by decide +kernel
theorem jm_M132_k26 : jm_rck jm_YN jm_M132 416 jm_M132_r26 = true := by decide +kernel
theorem jm_M132_k27 : jm_rck jm_YN jm_M132 432 jm_M132_r27 = true := by decide +kernel
theorem jm_M132_k28 : jm_rck jm_YN jm_M132 448 jm_M132_r28 = true := by decide +kernel
theorem jm_M132_k29 : jm_rck jm_YN jm_M132 464 jm_M132_r29 = true := by decide +kernel
theorem jm_M132_k30 : jm_rck jm_YN jm_M132 480 jm_M132_r30 = true := by decide +kernel
theorem jm_M132_k31 : jm_rck jm_YN jm_M132 496 jm_M132_r31 = true := by decide +kernel
theorem jm_M132_k32 : jm_rck jm_YN jm_M132 512 jm_M132_r32 = true := by decide +kernel
theorem jm_M132_k33 : jm_rck jm_YN jm_M132 528 jm_M132_r33 = true := by decide +kernel
theorem jm_M132_k34 : jm_rck jm_YN jm_M132 544 jm_M132_r34 = true := by decide +kernel
theorem jm_M132_k35 : jm_rck jm_YN jm_M132 560 jm_M132_r35 = true := by decide +kernel
theorem jm_M132_k36 : jm_rck jm_YN jm_M132 576 jm_M132_r36 = true := by decide +kernel
theorem jm_M132_k37 : jm_rck jm_YN jm_M132 592 jm_M132_r37 = true := by decide +kernel
theorem jm_M132_k38 : jm_rck jm_YN jm_M132 608 jm_M132_r38 = true := by decide +kernel
theorem jm_M132_k39 : jm_rck jm_YN jm_M132 624 jm_M132_r39 = true := by decide +kernel
theorem jm_M132_k40 : jm_rck jm_YN jm_M132 640 jm_M132_r40 = true := by decide +kernel
theorem jm_M132_k41 : jm_rck jm_YN jm_M132 656 jm_M132_r41 = true := by decide +kernel
theorem jm_M132_k42 : jm_rck jm_YN jm_M132 672 jm_M132_r42 = true := by decide +kernel
theorem jm_M132_k43 : jm_rck jm_YN jm_M132 688 jm_M132_r43 = true := by decide +kernel
theorem jm_M132_k44 : jm_rck jm_YN jm_M132 704 jm_M132_r44 = true := by decide +kernel
theorem jm_M132_k45 : jm_rck jm_YN jm_M132 720 jm_M132_r45 = true := by decide +kernel
theorem jm_M132_k46 : jm_rck jm_YN jm_M132 736 jm_M132_r46 = true := by decide +kernel
theorem jm_M132_k47 : jm_rck jm_YN jm_M132 752 jm_M132_r47 = true := by decide +kernel
theorem jm_M132_k48 : jm_rck jm_YN jm_M132 768 jm_M132_r48 = true := by decide +kernel
theorem jm_M132_k49 : jm_rck jm_YN jm_M132 784 jm_M132_r49 = true := by decide +kernel
theorem jm_M132_k50 : jm_rck jm_YN jm_M132 800 jm_M132_r50 = true := by decide +kernel
theorem jm_M132_k51 : jm_rck jm_YN jm_M132 816 jm_M132_r51 = true := by decide +kernel
theorem jm_M132_k52 : jm_rck jm_YN jm_M132 832 jm_M132_r52 = true := by decide +kernel
theorem jm_M132_k53 : jm_rck jm_YN jm_M132 848 jm_M132_r53 = true := by decide +kernel
theorem jm_M132_k54 : jm_rck jm_YN jm_M132 864 jm_M132_r54 = true := by decide +kernel
theorem jm_M132_k55 : jm_rck jm_YN jm_M132 880 jm_M132_r55 = true := by decide +kernel
theorem jm_M132_k : jm_tck jm_YN jm_M132 0 (jm_tb jm_M132) = true := jm_tck_cons jm_M132_k0 (jm_tck_cons jm_M132_k1 (jm_tck_cons jm_M132_k2 (jm_tck_cons jm_M132_k3 (jm_tck_cons jm_M132_k4 (jm_tck_cons jm_M132_k5 (jm_tck_cons jm_M132_k6 (jm_tck_cons jm_M132_k7 (jm_tck_cons jm_M132_k8 (jm_tck_cons jm_M132_k9 (jm_tck_cons jm_M132_k10 (jm_tck_cons jm_M132_k11 (jm_tck_cons jm_M132_k12 (jm_tck_cons jm_M132_k13 (jm_tck_cons jm_M132_k14 (jm_tck_cons jm_M132_k15 (jm_tck_cons jm_M132_k16 (jm_tck_cons jm_M132_k17 (jm_tck_cons jm_M132_k18 (jm_tck_cons jm_M132_k19 (jm_tck_cons jm_M132_k20 (jm_tck_cons jm_M132_k21 (jm_tck_cons jm_M132_k22 (jm_tck_cons jm_M132_k23 (jm_tck_cons jm_M132_k24 (jm_tck_cons jm_M132_k25 (jm_tck_cons jm_M132_k26 (jm_tck_cons jm_M132_k27 (jm_tck_cons jm_M132_k28 (jm_tck_cons jm_M132_k29 (jm_tck_cons jm_M132_k30 (jm_tck_cons jm_M132_k31 (jm_tck_cons jm_M132_k32 (jm_tck_cons jm_M132_k33 (jm_tck_cons jm_M132_k34 (jm_tck_cons jm_M132_k35 (jm_tck_cons jm_M132_k36 (jm_tck_cons jm_M132_k37 (jm_tck_cons jm_M132_k38 (jm_tck_cons jm_M132_k39 (jm_tck_cons jm_M132_k40 (jm_tck_cons jm_M132_k41 (jm_tck_cons jm_M132_k42 (jm_tck_cons jm_M132_k43 (jm_tck_cons jm_M132_k44 (jm_tck_cons jm_M132_k45 (jm_tck_cons jm_M132_k46 (jm_tck_cons jm_M132_k47 (jm_tck_cons jm_M132_k48 (jm_tck_cons jm_M132_k49 (jm_tck_cons jm_M132_k50 (jm_tck_cons jm_M132_k51 (jm_tck_cons jm_M132_k52 (jm_tck_cons jm_M132_k53 (jm_tck_cons jm_M132_k54 (jm_tck_cons jm_M132_k55 (rfl))))))))))))))))))))))))))))))))))))))))))))))))))))))))
theorem jm_ok132 : jm_ok jm_YN jm_M132 := ⟨jm_tbl_mem (jm_p5 (List.mem_of_getElem? (i := 1) rfl)) rfl, jm_tbl_mem (jm_p1 (List.mem_of_getElem? (i := 18) (by decide +kernel))) (by decide +kernel), by decide +kernel, ⟨by decide +kernel, by decide +kernel⟩, by decide +kernel, by decide, fun h => absurd h (by decide), fun h => absurd h (by decide), fun _ => ⟨jm_tbl_mem (jm_p5 (List.mem_of_getElem? (i := 0) (by decide +kernel))) (by decide +kernel), rfl, rfl⟩, jm_M132_k⟩
theorem jm_ok133 : jm_ok jm_YN jm_M133 := ⟨jm_tbl_mem (jm_p5 (List.mem_of_getElem? (i := 232) rfl)) rfl, jm_tbl_mem (jm_p1 (List.mem_of_getElem? (i := 18) (by decide +kernel))) (by decide +kernel), by decide +kernel, ⟨by decide +kernel, by decide +kernel⟩, by decide +kernel, by decide, fun h => absurd h (by decide), fun _ => ⟨jm_tbl_mem (jm_p5 (List.mem_of_getElem? (i := 230) (by decide +kernel))) (by decide +kernel), jm_tbl_mem (jm_p5 (List.mem_of_getElem? (i := 231) (by decide +kernel))) (by decide +kernel), Or.inr rfl⟩, fun h => absurd h (by decide), by decide +kernel⟩
theorem jm_ok134 : jm_ok jm_YN jm_M134 := ⟨jm_tbl_mem (jm_p5 (List.mem_of_getElem? (i := 236) rfl)) rfl, jm_tbl_mem (jm_p1 (List.mem_of_getElem? (i := 18) (by decide +kernel))) (by decide +kernel), by decide +kernel, ⟨by decide +kernel, by decide +kernel⟩, by decide +kernel, by decide, fun h => absurd h (by decide), fun _ => ⟨jm_tbl_mem (jm_p5 (List.mem_of_getElem? (i := 235) (by decide +kernel))) (by decide +kernel), jm_tbl_mem (List.mem_append_left _ (List.mem_map.mpr ⟨(⟨"FallMarketModel", "put", "(I)V"⟩, 69), by decide +kernel, rfl⟩)) (by decide +kernel), Or.inr rfl⟩, fun h => absurd h (by decide), by decide +kernel⟩
theorem jm_ok135 : jm_ok jm_YN jm_M135 := ⟨jm_tbl_mem (jm_p6 (List.mem_of_getElem? (i := 0) rfl)) rfl, jm_tbl_mem (jm_p1 (List.mem_of_getElem? (i := 18) (by decide +kernel))) (by decide +kernel), by decide +kernel, ⟨by decide +kernel, by decide +kernel⟩, by decide +kernel, by decide, fun h => absurd h (by decide), fun _ => ⟨jm_tbl_mem (jm_p5 (List.mem_of_getElem? (i := 238) (by decide +kernel))) (by decide +kernel), jm_tbl_mem (jm_p5 (List.mem_of_getElem? (i := 239) (by decide +kernel))) (by decide +kernel), Or.inr rfl⟩, fun h => absurd h (by decide), by decide +kernel⟩
theorem jm_ok136 : jm_ok jm_YN jm_M136 := ⟨jm_tbl_mem (jm_p6 (List.mem_of_getElem? (i := 12) rfl)) rfl, jm_tbl_mem (jm_p1 (List.mem_of_getElem? (i := 18) (by decide +kernel))) (by decide +kernel), by decide +kernel, ⟨by decide +kernel, by decide +kernel⟩, by decide +kernel, by decide, fun h => absurd h (by decide), fun _ => ⟨jm_tbl_mem (jm_p6 (List.mem_of_getElem? (i := 11) (by decide +kernel))) (by decide +kernel), jm_tbl_mem (List.mem_append_left _ (List.mem_map.mpr ⟨(⟨"FallMarketModel", "byteAt", "(I)I"⟩, 69), by decide +kernel, rfl⟩)) (by decide +kernel), Or.inr rfl⟩, fun h => absurd h (by decide), by decide +kernel⟩
theorem jm_ok137 : jm_ok jm_YN jm_M137 := ⟨jm_tbl_mem (jm_p6 (List.mem_of_getElem? (i := 22) rfl)) rfl, jm_tbl_mem (jm_p1 (List.mem_of_getElem? (i := 18) (by decide +kernel))) (by decide +kernel), by decide +kernel, ⟨by decide +kernel, by decide +kernel⟩, by decide +kernel, by decide, fun _ => jm_tbl_mem (jm_p6 (List.mem_of_getElem? (i := 21) (by decide +kernel))) (by decide +kernel), fun h => absurd h (by decide), fun h => absurd h (by decide), by decide +kernel⟩
theorem jm_ok138 : jm_ok jm_YN jm_M138 := ⟨jm_tbl_mem (jm_p6 (List.mem_of_getElem? (i := 19) rfl)) rfl, jm_tbl_mem (jm_p1 (List.mem_of_getElem? (i := 18) (by decide +kernel))) (by decide +kernel), by decide +kernel, ⟨by decide +kernel, by decide +kernel⟩, by decide +kernel, by decide, fun _ => jm_tbl_mem (jm_p6 (List.mem_of_getElem? (i := 18) (by decide +kernel))) (by decide +kernel), fun h => absurd h (by decide), fun h => absurd h (by decide), by decide +kernel⟩
theorem jm_ok139 : jm_ok jm_YN jm_M139 := ⟨jm_tbl_mem (jm_p5 (List.mem_of_getElem? (i := 12) rfl)) rfl, jm_tbl_mem (jm_p1 (List.mem_of_getElem? (i := 18) (by decide +kernel))) (by decide +kernel), by decide +kernel, ⟨by decide +kernel, by decide +kernel⟩, by decide +kernel, by decide, fun _ => jm_tbl_mem (jm_p5 (List.mem_of_getElem? (i := 11) (by decide +kernel))) (by decide +kernel), fun h => absurd h (by decide), fun h => absurd h (by decide), by decide +kernel⟩
theorem jm_ok140 : jm_ok jm_YN jm_M140 := ⟨jm_tbl_mem (jm_p5 (List.mem_of_getElem? (i := 9) rfl)) rfl, jm_tbl_mem (jm_p1 (List.mem_of_getElem? (i := 18) (by decide +kernel))) (by decide +kernel), by decide +kernel, ⟨by decide +kernel, by decide +kernel⟩, by decide +kernel, by decide, fun _ => jm_tbl_mem (jm_p5 (List.mem_of_getElem? (i := 8) (by decide +kernel))) (by decide +kernel), fun h => absurd h (by decide), fun h => absurd h (by decide), by decide +kernel⟩
theorem jm_ok141 : jm_ok jm_YN jm_M141 := ⟨jm_tbl_mem (jm_p6 (List.mem_of_getElem? (i := 16) rfl)) rfl, jm_tbl_mem (jm_p1 (List.mem_of_getElem? (i := 18) (by decide +kernel))) (by decide +kernel), by decide +kernel, ⟨by decide +kernel, by decide +kernel⟩, by decide +kernel, by decide, fun h => absurd h (by decide), fun _ => ⟨jm_tbl_mem (jm_p6 (List.mem_of_getElem? (i := 15) (by decide +kernel))) (by decide +kernel), jm_tbl_mem (List.mem_append_left _ (List.mem_map.mpr ⟨(⟨"FallMarketModel", "token", "(IIIJ)V"⟩, 69), by decide +kernel, rfl⟩)) (by decide +kernel), Or.inr rfl⟩, fun h => absurd h (by decide), by decide +kernel⟩
theorem jm_M142_k0 : jm_rck jm_YN jm_M142 0 jm_M142_r0 = true := by decide +kernel
theorem jm_M142_k1 : jm_rck jm_YN jm_M142 16 jm_M142_r1 = true := by decide +kernel
theorem jm_M142_k2 : jm_rck jm_YN jm_M142 32 jm_M142_r2 = true := by decide +kernel
theorem jm_M142_k3 : jm_rck jm_YN jm_M142 48 jm_M142_r3 = true := by decide +kernel
theorem jm_M142_k4 : jm_rck jm_YN jm_M142 64 jm_M142_r4 = true := by decide +kernel
theorem jm_M142_k5 : jm_rck jm_YN jm_M142 80 jm_M142_r5 = true := by decide +kernel
theorem jm_M142_k6 : jm_rck jm_YN jm_M142 96 jm_M142_r6 = true := by decide +kernel
theorem jm_M142_k7 : jm_rck jm_YN jm_M142 112 jm_M142_r7 = true := by decide +kernel
theorem jm_M142_k8 : jm_rck jm_YN jm_M142 128 jm_M142_r8 = true := by decide +kernel
theorem jm_M142_k9 : jm_rck jm_YN jm_M142 144 jm_M142_r9 = true := by decide +kernel
theorem jm_M142_k10 : jm_rck jm_YN jm_M142 160 jm_M142_r10 = true := by decide +kernel
theorem jm_M142_k11 : jm_rck jm_YN jm_M142 176 jm_M142_r11 = true := by decide +kernel
theorem jm_M142_k12 : jm_rck jm_YN jm_M142 192 jm_M142_r12 = true := by decide +kernel
theorem jm_M142_k13 : jm_rck jm_YN jm_M142 208 jm_M142_r13 = true := by decide +kernel
theorem jm_M142_k14 : jm_rck jm_YN jm_M142 224 jm_M142_r14 = true := by decide +kernel
theorem jm_M142_k15 : jm_rck jm_YN jm_M142 240 jm_M142_r15 = true := by decide +kernel
theorem jm_M142_k16 : jm_rck jm_YN jm_M142 256 jm_M142_r16 = true := by decide +kernel
theorem jm_M142_k17 : jm_rck jm_YN jm_M142 272 jm_M142_r17 = true := by decide +kernel
theorem jm_M142_k18 : jm_rck jm_YN jm_M142 288 jm_M142_r18 = true := by decide +kernel
theorem jm_M142_k : jm_tck jm_YN jm_M142 0 (jm_tb jm_M142) = true := jm_tck_cons jm_M142_k0 (jm_tck_cons jm_M142_k1 (jm_tck_cons jm_M142_k2 (jm_tck_cons jm_M142_k3 (jm_tck_cons jm_M142_k4 (jm_tck_cons jm_M142_k5 (jm_tck_cons jm_M142_k6 (jm_tck_cons jm_M142_k7 (jm_tck_cons jm_M142_k8 (jm_tck_cons jm_M142_k9 (jm_tck_cons jm_M142_k10 (jm_tck_cons jm_M142_k11 (jm_tck_cons jm_M142_k12 (jm_tck_cons jm_M142_k13 (jm_tck_cons jm_M142_k14 (jm_tck_cons jm_M142_k15 (jm_tck_cons jm_M142_k16 (jm_tck_cons jm_M142_k17 (jm_tck_cons jm_M142_k18 (rfl)))))))))))))))))))
theorem jm_ok142 : jm_ok jm_YN jm_M142 := ⟨jm_tbl_mem (jm_p6 (List.mem_of_getElem? (i := 8) rfl)) rfl, jm_tbl_mem (jm_p1 (List.mem_of_getElem? (i := 18) (by decide +kernel))) (by decide +kernel), by decide +kernel, ⟨by decide +kernel, by decide +kernel⟩, by decide +kernel, by decide, fun h => absurd h (by decide), fun _ => ⟨jm_tbl_mem (jm_p6 (List.mem_of_getElem? (i := 7) (by decide +kernel))) (by decide +kernel), jm_tbl_mem (List.mem_append_left _ (List.mem_map.mpr ⟨(⟨"FallMarketModel", "cut", "()V"⟩, 69), by decide +kernel, rfl⟩)) (by decide +kernel), Or.inr rfl⟩, fun h => absurd h (by decide), jm_M142_k⟩
theorem jm_ok143 : jm_ok jm_YN jm_M143 := ⟨jm_tbl_mem (jm_p6 (List.mem_of_getElem? (i := 26) rfl)) rfl, jm_tbl_mem (jm_p1 (List.mem_of_getElem? (i := 18) (by decide +kernel))) (by decide +kernel), by decide +kernel, ⟨by decide +kernel, by decide +kernel⟩, by decide +kernel, by decide, fun h => absurd h (by decide), fun _ => ⟨jm_tbl_mem (jm_p6 (List.mem_of_getElem? (i := 25) (by decide +kernel))) (by decide +kernel), jm_tbl_mem (List.mem_append_left _ (List.mem_map.mpr ⟨(⟨"FallMarketModel", "sign", "(III)I"⟩, 69), by decide +kernel, rfl⟩)) (by decide +kernel), Or.inr rfl⟩, fun h => absurd h (by decide), by decide +kernel⟩
theorem jm_ok144 : jm_ok jm_YN jm_M144 := ⟨jm_tbl_mem (jm_p6 (List.mem_of_getElem? (i := 30) rfl)) rfl, jm_tbl_mem (jm_p1 (List.mem_of_getElem? (i := 18) (by decide +kernel))) (by decide +kernel), by decide +kernel, ⟨by decide +kernel, by decide +kernel⟩, by decide +kernel, by decide, fun h => absurd h (by decide), fun _ => ⟨jm_tbl_mem (jm_p6 (List.mem_of_getElem? (i := 29) (by decide +kernel))) (by decide +kernel), jm_tbl_mem (List.mem_append_left _ (List.mem_map.mpr ⟨(⟨"FallMarketModel", "is", "(I)Z"⟩, 69), by decide +kernel, rfl⟩)) (by decide +kernel), Or.inr rfl⟩, fun h => absurd h (by decide), by decide +kernel⟩
theorem jm_ok145 : jm_ok jm_YN jm_M145 := ⟨jm_tbl_mem (jm_p6 (List.mem_of_getElem? (i := 42) rfl)) rfl, jm_tbl_mem (jm_p1 (List.mem_of_getElem? (i := 18) (by decide +kernel))) (by decide +kernel), by decide +kernel, ⟨by decide +kernel, by decide +kernel⟩, by decide +kernel, by decide, fun h => absurd h (by decide), fun _ => ⟨jm_tbl_mem (jm_p6 (List.mem_of_getElem? (i := 41) (by decide +kernel))) (by decide +kernel), jm_tbl_mem (List.mem_append_left _ (List.mem_map.mpr ⟨(⟨"FallMarketModel", "fail", "(I)V"⟩, 69), by decide +kernel, rfl⟩)) (by decide +kernel), Or.inr rfl⟩, fun h => absurd h (by decide), by decide +kernel⟩
theorem jm_ok146 : jm_ok jm_YN jm_M146 := ⟨jm_tbl_mem (jm_p6 (List.mem_of_getElem? (i := 62) rfl)) rfl, jm_tbl_mem (jm_p1 (List.mem_of_getElem? (i := 18) (by decide +kernel))) (by decide +kernel), by decide +kernel, ⟨by decide +kernel, by decide +kernel⟩, by decide +kernel, by decide, fun h => absurd h (by decide), fun _ => ⟨jm_tbl_mem (jm_p6 (List.mem_of_getElem? (i := 61) (by decide +kernel))) (by decide +kernel), jm_tbl_mem (List.mem_append_left _ (List.mem_map.mpr ⟨(⟨"FallMarketModel", "wrong", "(II)V"⟩, 69), by decide +kernel, rfl⟩)) (by decide +kernel), Or.inr rfl⟩, fun h => absurd h (by decide), by decide +kernel⟩
theorem jm_ok147 : jm_ok jm_YN jm_M147 := ⟨jm_tbl_mem (jm_p6 (List.mem_of_getElem? (i := 46) rfl)) rfl, jm_tbl_mem (jm_p1 (List.mem_of_getElem? (i := 18) (by decide +kernel))) (by decide +kernel), by decide +kernel, ⟨by decide +kernel, by decide +kernel⟩, by decide +kernel, by decide, fun h => absurd h (by decide), fun _ => ⟨jm_tbl_mem (jm_p6 (List.mem_of_getElem? (i := 45) (by decide +kernel))) (by decide +kernel), jm_tbl_mem (List.mem_append_left _ (List.mem_map.mpr ⟨(⟨"FallMarketModel", "goesOn", "()V"⟩, 69), by decide +kernel, rfl⟩)) (by decide +kernel), Or.inr rfl⟩, fun h => absurd h (by decide), by decide +kernel⟩
theorem jm_ok148 : jm_ok jm_YN jm_M148 := ⟨jm_tbl_mem (jm_p6 (List.mem_of_getElem? (i := 58) rfl)) rfl, jm_tbl_mem (jm_p1 (List.mem_of_getElem? (i := 18) (by decide +kernel))) (by decide +kernel), by decide +kernel, ⟨by decide +kernel, by decide +kernel⟩, by decide +kernel, by decide, fun h => absurd h (by decide), fun _ => ⟨jm_tbl_mem (jm_p6 (List.mem_of_getElem? (i := 57) (by decide +kernel))) (by decide +kernel), jm_tbl_mem (List.mem_append_left _ (List.mem_map.mpr ⟨(⟨"FallMarketModel", "must", "(I)V"⟩, 69), by decide +kernel, rfl⟩)) (by decide +kernel), Or.inr rfl⟩, fun h => absurd h (by decide), by decide +kernel⟩
theorem jm_ok149 : jm_ok jm_YN jm_M149 := ⟨jm_tbl_mem (jm_p5 (List.mem_of_getElem? (i := 6) rfl)) rfl, jm_tbl_mem (jm_p1 (List.mem_of_getElem? (i := 18) (by decide +kernel))) (by decide +kernel), by decide +kernel, ⟨by decide +kernel, by decide +kernel⟩, by decide +kernel, by decide, fun h => absurd h (by decide), fun _ => ⟨jm_tbl_mem (jm_p5 (List.mem_of_getElem? (i := 5) (by decide +kernel))) (by decide +kernel), jm_tbl_mem (List.mem_append_left _ (List.mem_map.mpr ⟨(⟨"FallMarketModel", "plain", "(I)V"⟩, 69), by decide +kernel, rfl⟩)) (by decide +kernel), Or.inr rfl⟩, fun h => absurd h (by decide), by decide +kernel⟩
theorem jm_M150_k0 : jm_rck jm_YN jm_M150 0 jm_M150_r0 = true := by decide +kernel
theorem jm_M150_k1 : jm_rck jm_YN jm_M150 16 jm_M150_r1 = true := by decide +kernel
theorem jm_M150_k2 : jm_rck jm_YN jm_M150 32 jm_M150_r2 = true := by decide +kernel
theorem jm_M150_k3 : jm_rck jm_YN jm_M150 48 jm_M150_r3 = true := by decide +kernel
theorem jm_M150_k4 : jm_rck jm_YN jm_M150 64 jm_M150_r4 = true := by decide +kernel
theorem jm_M150_k5 : jm_rck jm_YN jm_M150 80 jm_M150_r5 = true := by decide +kernel
theorem jm_M150_k6 : jm_rck jm_YN jm_M150 96 jm_M150_r6 = true := by decide +kernel
theorem jm_M150_k7 : jm_rck jm_YN jm_M150 112 jm_M150_r7 = true := by decide +kernel
theorem jm_M150_k8 : jm_rck jm_YN jm_M150 128 jm_M150_r8 = true := by decide +kernel
theorem jm_M150_k9 : jm_rck jm_YN jm_M150 144 jm_M150_r9 = true := by decide +kernel
theorem jm_M150_k10 : jm_rck jm_YN jm_M150 160 jm_M150_r10 = true := by decide +kernel
theorem jm_M150_k11 : jm_rck jm_YN jm_M150 176 jm_M150_r11 = true := by decide +kernel
theorem jm_M150_k12 : jm_rck jm_YN jm_M150 192 jm_M150_r12 = true := by decide +kernel
theorem jm_M150_k13 : jm_rck jm_YN jm_M150 208 jm_M150_r13 = true := by decide +kernel
theorem jm_M150_k14 : jm_rck jm_YN jm_M150 224 jm_M150_r14 = true := by decide +kernel
theorem jm_M150_k : jm_tck jm_YN jm_M150 0 (jm_tb jm_M150) = true := jm_tck_cons jm_M150_k0 (jm_tck_cons jm_M150_k1 (jm_tck_cons jm_M150_k2 (jm_tck_cons jm_M150_k3 (jm_tck_cons jm_M150_k4 (jm_tck_cons jm_M150_k5 (jm_tck_cons jm_M150_k6 (jm_tck_cons jm_M150_k7 (jm_tck_cons jm_M150_k8 (jm_tck_cons jm_M150_k9 (jm_tck_cons jm_M150_k10 (jm_tck_cons jm_M150_k11 (jm_tck_cons jm_M150_k12 (jm_tck_cons jm_M150_k13 (jm_tck_cons jm_M150_k14 (rfl)))))))))))))))
theorem jm_ok150 : jm_ok jm_YN jm_M150 := ⟨jm_tbl_mem (jm_p6 (List.mem_of_getElem? (i := 4) rfl)) rfl, jm_tbl_mem (jm_p1 (List.mem_of_getElem? (i := 18) (by decide +kernel))) (by decide +kernel), by decide +kernel, ⟨by decide +kernel, by decide +kernel⟩, by decide +kernel, by decide, fun h => absurd h (by decide), fun _ => ⟨jm_tbl_mem (jm_p6 (List.mem_of_getElem? (i := 2) (by decide +kernel))) (by decide +kernel), jm_tbl_mem (jm_p6 (List.mem_of_getElem? (i := 3) (by decide +kernel))) (by decide +kernel), Or.inr rfl⟩, fun h => absurd h (by decide), jm_M150_k⟩
theorem jm_ok151 : jm_ok jm_YN jm_M151 := ⟨jm_tbl_mem (jm_p6 (List.mem_of_getElem? (i := 106) rfl)) rfl, jm_tbl_mem (jm_p1 (List.mem_of_getElem? (i := 18) (by decide +kernel))) (by decide +kernel), by decide +kernel, ⟨by decide +kernel, by decide +kernel⟩, by decide +kernel, by decide, fun h => absurd h (by decide), fun _ => ⟨jm_tbl_mem (jm_p6 (List.mem_of_getElem? (i := 104) (by decide +kernel))) (by decide +kernel), jm_tbl_mem (jm_p6 (List.mem_of_getElem? (i := 105) (by decide +kernel))) (by decide +kernel), Or.inr rfl⟩, fun h => absurd h (by decide), by decide +kernel⟩
theorem jm_ok152 : jm_ok jm_YN jm_M152 := ⟨jm_tbl_mem (jm_p6 (List.mem_of_getElem? (i := 38) rfl)) rfl, jm_tbl_mem (jm_p1 (List.mem_of_getElem? (i := 18) (by decide +kernel))) (by decide +kernel), by decide +kernel, ⟨by decide +kernel, by decide +kernel⟩, by decide +kernel, by decide, fun h => absurd h (by decide), fun _ => ⟨jm_tbl_mem (jm_p6 (List.mem_of_getElem? (i := 37) (by decide +kernel))) (by decide +kernel), jm_tbl_mem (List.mem_append_left _ (List.mem_map.mpr ⟨(⟨"FallMarketModel", "roomFor", "(II)V"⟩, 69), by decide +kernel, rfl⟩)) (by decide +kernel), Or.inr rfl⟩, fun h => absurd h (by decide), by decide +kernel⟩
theorem jm_ok153 : jm_ok jm_YN jm_M153 := ⟨jm_tbl_mem (jm_p6 (List.mem_of_getElem? (i := 78) rfl)) rfl, jm_tbl_mem (jm_p1 (List.mem_of_getElem? (i := 18) (by decide +kernel))) (by decide +kernel), by decide +kernel, ⟨by decide +kernel, by decide +kernel⟩, by decide +kernel, by decide, fun h => absurd h (by decide), fun _ => ⟨jm_tbl_mem (jm_p6 (List.mem_of_getElem? (i := 77) (by decide +kernel))) (by decide +kernel), jm_tbl_mem (List.mem_append_left _ (List.mem_map.mpr ⟨(⟨"FallMarketModel", "toldInt", "(II)I"⟩, 69), by decide +kernel, rfl⟩)) (by decide +kernel), Or.inr rfl⟩, fun h => absurd h (by decide), by decide +kernel⟩
theorem jm_M154_k0 : jm_rck jm_YN jm_M154 0 jm_M154_r0 = true := by decide +kernel
theorem jm_M154_k1 : jm_rck jm_YN jm_M154 16 jm_M154_r1 = true := by decide +kernel
theorem jm_M154_k2 : jm_rck jm_YN jm_M154 32 jm_M154_r2 = true := by decide +kernel
theorem jm_M154_k3 : jm_rck jm_YN jm_M154 48 jm_M154_r3 = true := by decide +kernel
theorem jm_M154_k4 : jm_rck jm_YN jm_M154 64 jm_M154_r4 = true := by decide +kernel
theorem jm_M154_k5 : jm_rck jm_YN jm_M154 80 jm_M154_r5 = true := by decide +kernel
theorem jm_M154_k6 : jm_rck jm_YN jm_M154 96 jm_M154_r6 = true := by decide +kernel
theorem jm_M154_k7 : jm_rck jm_YN jm_M154 112 jm_M154_r7 = true := by decide +kernel
theorem jm_M154_k8 : jm_rck jm_YN jm_M154 128 jm_M154_r8 = true := by decide +kernel
theorem jm_M154_k9 : jm_rck jm_YN jm_M154 144 jm_M154_r9 = true := by decide +kernel
theorem jm_M154_k10 : jm_rck jm_YN jm_M154 160 jm_M154_r10 = true := by decide +kernel
theorem jm_M154_k11 : jm_rck jm_YN jm_M154 176 jm_M154_r11 = true := by decide +kernel
theorem jm_M154_k12 : jm_rck jm_YN jm_M154 192 jm_M154_r12 = true := by decide +kernel
theorem jm_M154_k13 : jm_rck jm_YN jm_M154 208 jm_M154_r13 = true := by decide +kernel
theorem jm_M154_k14 : jm_rck jm_YN jm_M154 224 jm_M154_r14 = true := by decide +kernel
theorem jm_M154_k : jm_tck jm_YN jm_M154 0 (jm_tb jm_M154) = true := jm_tck_cons jm_M154_k0 (jm_tck_cons jm_M154_k1 (jm_tck_cons jm_M154_k2 (jm_tck_cons jm_M154_k3 (jm_tck_cons jm_M154_k4 (jm_tck_cons jm_M154_k5 (jm_tck_cons jm_M154_k6 (jm_tck_cons jm_M154_k7 (jm_tck_cons jm_M154_k8 (jm_tck_cons jm_M154_k9 (jm_tck_cons jm_M154_k10 (jm_tck_cons jm_M154_k11 (jm_tck_cons jm_M154_k12 (jm_tck_cons jm_M154_k13 (jm_tck_cons jm_M154_k14 (rfl)))))))))))))))
theorem jm_ok154 : jm_ok jm_YN jm_M154 := ⟨jm_tbl_mem (jm_p6 (List.mem_of_getElem? (i := 34) rfl)) rfl, jm_tbl_mem (jm_p1 (List.mem_of_getElem? (i := 18) (by decide +kernel))) (by decide +kernel), by decide +kernel, ⟨by decide +kernel, by decide +kernel⟩, by decide +kernel, by decide, fun h => absurd h (by decide), fun _ => ⟨jm_tbl_mem (jm_p6 (List.mem_of_getElem? (i := 33) (by decide +kernel))) (by decide +kernel), jm_tbl_mem (List.mem_append_left _ (List.mem_map.mpr ⟨(⟨"FallMarketModel", "tellOne", "()V"⟩, 69), by decide +kernel, rfl⟩)) (by decide +kernel), Or.inr rfl⟩, fun h => absurd h (by decide), jm_M154_k⟩
theorem jm_ok155 : jm_ok jm_YN jm_M155 := ⟨jm_tbl_mem (jm_p6 (List.mem_of_getElem? (i := 54) rfl)) rfl, jm_tbl_mem (jm_p1 (List.mem_of_getElem? (i := 18) (by decide +kernel))) (by decide +kernel), by decide +kernel, ⟨by decide +kernel, by decide +kernel⟩, by decide +kernel, by decide, fun h => absurd h (by decide), fun _ => ⟨jm_tbl_mem (jm_p6 (List.mem_of_getElem? (i := 53) (by decide +kernel))) (by decide +kernel), jm_tbl_mem (List.mem_append_left _ (List.mem_map.mpr ⟨(⟨"FallMarketModel", "named", "()I"⟩, 69), by decide +kernel, rfl⟩)) (by decide +kernel), Or.inr rfl⟩, fun h => absurd h (by decide), by decide +kernel⟩
theorem jm_ok156 : jm_ok jm_YN jm_M156 := ⟨jm_tbl_mem (jm_p6 (List.mem_of_getElem? (i := 70) rfl)) rfl, jm_tbl_mem (jm_p1 (List.mem_of_getElem? (i := 18) (by decide +kernel))) (by decide +kernel), by decide +kernel, ⟨by decide +kernel, by decide +kernel⟩, by decide +kernel, by decide, fun h => absurd h (by decide), fun _ => ⟨jm_tbl_mem (jm_p6 (List.mem_of_getElem? (i := 69) (by decide +kernel))) (by decide +kernel), jm_tbl_mem (List.mem_append_left _ (List.mem_map.mpr ⟨(⟨"FallMarketModel", "ends", "(I)V"⟩, 69), by decide +kernel, rfl⟩)) (by decide +kernel), Or.inr rfl⟩, fun h => absurd h (by decide), by decide +kernel⟩
theorem jm_ok157 : jm_ok jm_YN jm_M157 := ⟨jm_tbl_mem (jm_p6 (List.mem_of_getElem? (i := 66) rfl)) rfl, jm_tbl_mem (jm_p1 (List.mem_of_getElem? (i := 18) (by decide +kernel))) (by decide +kernel), by decide +kernel, ⟨by decide +kernel, by decide +kernel⟩, by decide +kernel, by decide, fun h => absurd h (by decide), fun _ => ⟨jm_tbl_mem (jm_p6 (List.mem_of_getElem? (i := 65) (by decide +kernel))) (by decide +kernel), jm_tbl_mem (List.mem_append_left _ (List.mem_map.mpr ⟨(⟨"FallMarketModel", "bounded", "(II)I"⟩, 69), by decide +kernel, rfl⟩)) (by decide +kernel), Or.inr rfl⟩, fun h => absurd h (by decide), by decide +kernel⟩
theorem jm_ok158 : jm_ok jm_YN jm_M158 := ⟨jm_tbl_mem (jm_p6 (List.mem_of_getElem? (i := 50) rfl)) rfl, jm_tbl_mem (jm_p1 (List.mem_of_getElem? (i := 18) (by decide +kernel))) (by decide +kernel), by decide +kernel, ⟨by decide +kernel, by decide +kernel⟩, by decide +kernel, by decide, fun h => absurd h (by decide), fun _ => ⟨jm_tbl_mem (jm_p6 (List.mem_of_getElem? (i := 49) (by decide +kernel))) (by decide +kernel), jm_tbl_mem (List.mem_append_left _ (List.mem_map.mpr ⟨(⟨"FallMarketModel", "tellFruit", "()V"⟩, 69), by decide +kernel, rfl⟩)) (by decide +kernel), Or.inr rfl⟩, fun h => absurd h (by decide), by decide +kernel⟩
theorem jm_ok159 : jm_ok jm_YN jm_M159 := ⟨jm_tbl_mem (jm_p6 (List.mem_of_getElem? (i := 74) rfl)) rfl, jm_tbl_mem (jm_p1 (List.mem_of_getElem? (i := 18) (by decide +kernel))) (by decide +kernel), by decide +kernel, ⟨by decide +kernel, by decide +kernel⟩, by decide +kernel, by decide, fun h => absurd h (by decide), fun _ => ⟨jm_tbl_mem (jm_p6 (List.mem_of_getElem? (i := 73) (by decide +kernel))) (by decide +kernel), jm_tbl_mem (List.mem_append_left _ (List.mem_map.mpr ⟨(⟨"FallMarketModel", "tellBuyer", "()V"⟩, 69), by decide +kernel, rfl⟩)) (by decide +kernel), Or.inr rfl⟩, fun h => absurd h (by decide), by decide +kernel⟩
end
section
/-! ===== rows that hold ===== -/
theorem jm_M160_k0 : jm_rck jm_YN jm_M160 0 jm_M160_r0 = true := by decide +kernel
theorem jm_M160_k1 : jm_rck jm_YN jm_M160 16 jm_M160_r1 = true := by decide +kernel
theorem jm_M160_k2 : jm_rck jm_YN jm_M160 32 jm_M160_r2 = true := by decide +kernel
theorem jm_M160_k3 : jm_rck jm_YN jm_M160 48 jm_M160_r3 = true := by decide +kernel
theorem jm_M160_k4 : jm_rck jm_YN jm_M160 64 jm_M160_r4 = true := by decide +kernel
theorem jm_M160_k5 : jm_rck jm_YN jm_M160 80 jm_M160_r5 = true := by decide +kernel
theorem jm_M160_k6 : jm_rck jm_YN jm_M160 96 jm_M160_r6 = true := by decide +kernel
theorem jm_M160_k7 : jm_rck jm_YN jm_M160 112 jm_M160_r7 = true := by decide +kernel
theorem jm_M160_k8 : jm_rck jm_YN jm_M160 128 jm_M160_r8 = true := by decide +kernel
theorem jm_M160_k9 : jm_rck jm_YN jm_M160 144 jm_M160_r9 = true := by decide +kernel
theorem jm_M160_k10 : jm_rck jm_YN jm_M160 160 jm_M160_r10 = true := by decide +kernel
theorem jm_M160_k11 : jm_rck jm_YN jm_M160 176 jm_M160_r11 = true := by decide +kernel
theorem jm_M160_k : jm_tck jm_YN jm_M160 0 (jm_tb jm_M160) = true := jm_tck_cons jm_M160_k0 (jm_tck_cons jm_M160_k1 (jm_tck_cons jm_M160_k2 (jm_tck_cons jm_M160_k3 (jm_tck_cons jm_M160_k4 (jm_tck_cons jm_M160_k5 (jm_tck_cons jm_M160_k6 (jm_tck_cons jm_M160_k7 (jm_tck_cons jm_M160_k8 (jm_tck_cons jm_M160_k9 (jm_tck_cons jm_M160_k10 (jm_tck_cons jm_M160_k11 (rfl))))))))))))
theorem jm_ok160 : jm_ok jm_YN jm_M160 := ⟨jm_tbl_mem (jm_p6 (List.mem_of_getElem? (i := 82) rfl)) rfl, jm_tbl_mem (jm_p1 (List.mem_of_getElem? (i := 18) (by decide +kernel))) (by decide +kernel), by decide +kernel, ⟨by decide +kernel, by decide +kernel⟩, by decide +kernel, by decide, fun h => absurd h (by decide), fun _ => ⟨jm_tbl_mem (jm_p6 (List.mem_of_getElem? (i := 81) (by decide +kernel))) (by decide +kernel), jm_tbl_mem (List.mem_append_left _ (List.mem_map.mpr ⟨(⟨"FallMarketModel", "tellLaw", "(I)V"⟩, 69), by decide +kernel, rfl⟩)) (by decide +kernel), Or.inr rfl⟩, fun h => absurd h (by decide), jm_M160_k⟩
theorem jm_ok161 : jm_ok jm_YN jm_M161 := ⟨jm_tbl_mem (jm_p6 (List.mem_of_getElem? (i := 102) rfl)) rfl, jm_tbl_mem (jm_p1 (List.mem_of_getElem? (i := 18) (by decide +kernel))) (by decide +kernel), by decide +kernel, ⟨by decide +kernel, by decide +kernel⟩, by decide +kernel, by decide, fun h => absurd h (by decide), fun _ => ⟨jm_tbl_mem (jm_p6 (List.mem_of_getElem? (i := 101) (by decide +kernel))) (by decide +kernel), jm_tbl_mem (List.mem_append_left _ (List.mem_map.mpr ⟨(⟨"FallMarketModel", "term", "()V"⟩, 69), by decide +kernel, rfl⟩)) (by decide +kernel), Or.inr rfl⟩, fun h => absurd h (by decide), by decide +kernel⟩
theorem jm_ok162 : jm_ok jm_YN jm_M162 := ⟨jm_tbl_mem (jm_p6 (List.mem_of_getElem? (i := 94) rfl)) rfl, jm_tbl_mem (jm_p1 (List.mem_of_getElem? (i := 18) (by decide +kernel))) (by decide +kernel), by decide +kernel, ⟨by decide +kernel, by decide +kernel⟩, by decide +kernel, by decide, fun h => absurd h (by decide), fun _ => ⟨jm_tbl_mem (jm_p6 (List.mem_of_getElem? (i := 93) (by decide +kernel))) (by decide +kernel), jm_tbl_mem (List.mem_append_left _ (List.mem_map.mpr ⟨(⟨"FallMarketModel", "emit", "(II)V"⟩, 69), by decide +kernel, rfl⟩)) (by decide +kernel), Or.inr rfl⟩, fun h => absurd h (by decide), by decide +kernel⟩
theorem jm_ok163 : jm_ok jm_YN jm_M163 := ⟨jm_tbl_mem (jm_p6 (List.mem_of_getElem? (i := 98) rfl)) rfl, jm_tbl_mem (jm_p1 (List.mem_of_getElem? (i := 18) (by decide +kernel))) (by decide +kernel), by decide +kernel, ⟨by decide +kernel, by decide +kernel⟩, by decide +kernel, by decide, fun h => absurd h (by decide), fun _ => ⟨jm_tbl_mem (jm_p6 (List.mem_of_getElem? (i := 97) (by decide +kernel))) (by decide +kernel), jm_tbl_mem (List.mem_append_left _ (List.mem_map.mpr ⟨(⟨"FallMarketModel", "comesOut", "(Z)V"⟩, 69), by decide +kernel, rfl⟩)) (by decide +kernel), Or.inr rfl⟩, fun h => absurd h (by decide), by decide +kernel⟩
theorem jm_M164_k0 : jm_rck jm_YN jm_M164 0 jm_M164_r0 = true := by decide +kernel
theorem jm_M164_k1 : jm_rck jm_YN jm_M164 16 jm_M164_r1 = true := by decide +kernel
theorem jm_M164_k2 : jm_rck jm_YN jm_M164 32 jm_M164_r2 = true := by decide +kernel
theorem jm_M164_k3 : jm_rck jm_YN jm_M164 48 jm_M164_r3 = true := by decide +kernel
theorem jm_M164_k4 : jm_rck jm_YN jm_M164 64 jm_M164_r4 = true := by decide +kernel
theorem jm_M164_k5 : jm_rck jm_YN jm_M164 80 jm_M164_r5 = true := by decide +kernel
theorem jm_M164_k6 : jm_rck jm_YN jm_M164 96 jm_M164_r6 = true := by decide +kernel
theorem jm_M164_k7 : jm_rck jm_YN jm_M164 112 jm_M164_r7 = true := by decide +kernel
theorem jm_M164_k8 : jm_rck jm_YN jm_M164 128 jm_M164_r8 = true := by decide +kernel
theorem jm_M164_k9 : jm_rck jm_YN jm_M164 144 jm_M164_r9 = true := by decide +kernel
theorem jm_M164_k10 : jm_rck jm_YN jm_M164 160 jm_M164_r10 = true := by decide +kernel
theorem jm_M164_k11 : jm_rck jm_YN jm_M164 176 jm_M164_r11 = true := by decide +kernel
theorem jm_M164_k12 : jm_rck jm_YN jm_M164 192 jm_M164_r12 = true := by decide +kernel
theorem jm_M164_k13 : jm_rck jm_YN jm_M164 208 jm_M164_r13 = true := by decide +kernel
theorem jm_M164_k14 : jm_rck jm_YN jm_M164 224 jm_M164_r14 = true := by decide +kernel
theorem jm_M164_k15 : jm_rck jm_YN jm_M164 240 jm_M164_r15 = true := by decide +kernel
theorem jm_M164_k16 : jm_rck jm_YN jm_M164 256 jm_M164_r16 = true := by decide +kernel
theorem jm_M164_k17 : jm_rck jm_YN jm_M164 272 jm_M164_r17 = true := by decide +kernel
theorem jm_M164_k : jm_tck jm_YN jm_M164 0 (jm_tb jm_M164) = true := jm_tck_cons jm_M164_k0 (jm_tck_cons jm_M164_k1 (jm_tck_cons jm_M164_k2 (jm_tck_cons jm_M164_k3 (jm_tck_cons jm_M164_k4 (jm_tck_cons jm_M164_k5 (jm_tck_cons jm_M164_k6 (jm_tck_cons jm_M164_k7 (jm_tck_cons jm_M164_k8 (jm_tck_cons jm_M164_k9 (jm_tck_cons jm_M164_k10 (jm_tck_cons jm_M164_k11 (jm_tck_cons jm_M164_k12 (jm_tck_cons jm_M164_k13 (jm_tck_cons jm_M164_k14 (jm_tck_cons jm_M164_k15 (jm_tck_cons jm_M164_k16 (jm_tck_cons jm_M164_k17 (rfl))))))))))))))))))
theorem jm_ok164 : jm_ok jm_YN jm_M164 := ⟨jm_tbl_mem (jm_p6 (List.mem_of_getElem? (i := 86) rfl)) rfl, jm_tbl_mem (jm_p1 (List.mem_of_getElem? (i := 18) (by decide +kernel))) (by decide +kernel), by decide +kernel, ⟨by decide +kernel, by decide +kernel⟩, by decide +kernel, by decide, fun h => absurd h (by decide), fun _ => ⟨jm_tbl_mem (jm_p6 (List.mem_of_getElem? (i := 85) (by decide +kernel))) (by decide +kernel), jm_tbl_mem (List.mem_append_left _ (List.mem_map.mpr ⟨(⟨"FallMarketModel", "expression", "()V"⟩, 69), by decide +kernel, rfl⟩)) (by decide +kernel), Or.inr rfl⟩, fun h => absurd h (by decide), jm_M164_k⟩
theorem jm_ok165 : jm_ok jm_YN jm_M165 := ⟨jm_tbl_mem (jm_p6 (List.mem_of_getElem? (i := 90) rfl)) rfl, jm_tbl_mem (jm_p1 (List.mem_of_getElem? (i := 18) (by decide +kernel))) (by decide +kernel), by decide +kernel, ⟨by decide +kernel, by decide +kernel⟩, by decide +kernel, by decide, fun h => absurd h (by decide), fun _ => ⟨jm_tbl_mem (jm_p6 (List.mem_of_getElem? (i := 89) (by decide +kernel))) (by decide +kernel), jm_tbl_mem (List.mem_append_left _ (List.mem_map.mpr ⟨(⟨"FallMarketModel", "unit", "()V"⟩, 69), by decide +kernel, rfl⟩)) (by decide +kernel), Or.inr rfl⟩, fun h => absurd h (by decide), by decide +kernel⟩
theorem jm_M166_k0 : jm_rck jm_YN jm_M166 0 jm_M166_r0 = true := by decide +kernel
theorem jm_M166_k1 : jm_rck jm_YN jm_M166 16 jm_M166_r1 = true := by decide +kernel
theorem jm_M166_k2 : jm_rck jm_YN jm_M166 32 jm_M166_r2 = true := by decide +kernel
theorem jm_M166_k3 : jm_rck jm_YN jm_M166 48 jm_M166_r3 = true := by decide +kernel
theorem jm_M166_k4 : jm_rck jm_YN jm_M166 64 jm_M166_r4 = true := by decide +kernel
theorem jm_M166_k5 : jm_rck jm_YN jm_M166 80 jm_M166_r5 = true := by decide +kernel
theorem jm_M166_k6 : jm_rck jm_YN jm_M166 96 jm_M166_r6 = true := by decide +kernel
theorem jm_M166_k7 : jm_rck jm_YN jm_M166 112 jm_M166_r7 = true := by decide +kernel
theorem jm_M166_k8 : jm_rck jm_YN jm_M166 128 jm_M166_r8 = true := by decide +kernel
theorem jm_M166_k9 : jm_rck jm_YN jm_M166 144 jm_M166_r9 = true := by decide +kernel
theorem jm_M166_k10 : jm_rck jm_YN jm_M166 160 jm_M166_r10 = true := by decide +kernel
theorem jm_M166_k : jm_tck jm_YN jm_M166 0 (jm_tb jm_M166) = true := jm_tck_cons jm_M166_k0 (jm_tck_cons jm_M166_k1 (jm_tck_cons jm_M166_k2 (jm_tck_cons jm_M166_k3 (jm_tck_cons jm_M166_k4 (jm_tck_cons jm_M166_k5 (jm_tck_cons jm_M166_k6 (jm_tck_cons jm_M166_k7 (jm_tck_cons jm_M166_k8 (jm_tck_cons jm_M166_k9 (jm_tck_cons jm_M166_k10 (rfl)))))))))))
theorem jm_ok166 : jm_ok jm_YN jm_M166 := ⟨jm_tbl_mem (jm_p6 (List.mem_of_getElem? (i := 168) rfl)) rfl, jm_tbl_mem (jm_p1 (List.mem_of_getElem? (i := 18) (by decide +kernel))) (by decide +kernel), by decide +kernel, ⟨by decide +kernel, by decide +kernel⟩, by decide +kernel, by decide, fun h => absurd h (by decide), fun _ => ⟨jm_tbl_mem (jm_p6 (List.mem_of_getElem? (i := 167) (by decide +kernel))) (by decide +kernel), jm_tbl_mem (List.mem_append_left _ (List.mem_map.mpr ⟨(⟨"FallMarketModel", "termOf", "(II)I"⟩, 69), by decide +kernel, rfl⟩)) (by decide +kernel), Or.inr rfl⟩, fun h => absurd h (by decide), jm_M166_k⟩
theorem jm_ok167 : jm_ok jm_YN jm_M167 := ⟨jm_tbl_mem (jm_p6 (List.mem_of_getElem? (i := 117) rfl)) rfl, jm_tbl_mem (jm_p1 (List.mem_of_getElem? (i := 18) (by decide +kernel))) (by decide +kernel), by decide +kernel, ⟨by decide +kernel, by decide +kernel⟩, by decide +kernel, by decide, fun _ => jm_tbl_mem (jm_p6 (List.mem_of_getElem? (i := 116) (by decide +kernel))) (by decide +kernel), fun h => absurd h (by decide), fun h => absurd h (by decide), by decide +kernel⟩
theorem jm_ok168 : jm_ok jm_YN jm_M168 := ⟨jm_tbl_mem (jm_p6 (List.mem_of_getElem? (i := 171) rfl)) rfl, jm_tbl_mem (jm_p1 (List.mem_of_getElem? (i := 18) (by decide +kernel))) (by decide +kernel), by decide +kernel, ⟨by decide +kernel, by decide +kernel⟩, by decide +kernel, by decide, fun _ => jm_tbl_mem (jm_p6 (List.mem_of_getElem? (i := 170) (by decide +kernel))) (by decide +kernel), fun h => absurd h (by decide), fun h => absurd h (by decide), by decide +kernel⟩
theorem jm_ok169 : jm_ok jm_YN jm_M169 := ⟨jm_tbl_mem (jm_p6 (List.mem_of_getElem? (i := 114) rfl)) rfl, jm_tbl_mem (jm_p1 (List.mem_of_getElem? (i := 18) (by decide +kernel))) (by decide +kernel), by decide +kernel, ⟨by decide +kernel, by decide +kernel⟩, by decide +kernel, by decide, fun h => absurd h (by decide), fun _ => ⟨jm_tbl_mem (jm_p6 (List.mem_of_getElem? (i := 113) (by decide +kernel))) (by decide +kernel), jm_tbl_mem (List.mem_append_left _ (List.mem_map.mpr ⟨(⟨"FallMarketModel", "isFruit", "(I)Z"⟩, 69), by decide +kernel, rfl⟩)) (by decide +kernel), Or.inr rfl⟩, fun h => absurd h (by decide), by decide +kernel⟩
theorem jm_ok170 : jm_ok jm_YN jm_M170 := ⟨jm_tbl_mem (jm_p6 (List.mem_of_getElem? (i := 125) rfl)) rfl, jm_tbl_mem (jm_p1 (List.mem_of_getElem? (i := 18) (by decide +kernel))) (by decide +kernel), by decide +kernel, ⟨by decide +kernel, by decide +kernel⟩, by decide +kernel, by decide, fun h => absurd h (by decide), fun _ => ⟨jm_tbl_mem (jm_p6 (List.mem_of_getElem? (i := 124) (by decide +kernel))) (by decide +kernel), jm_tbl_mem (List.mem_append_left _ (List.mem_map.mpr ⟨(⟨"FallMarketModel", "isBuyer", "(I)Z"⟩, 69), by decide +kernel, rfl⟩)) (by decide +kernel), Or.inr rfl⟩, fun h => absurd h (by decide), by decide +kernel⟩
theorem jm_M171_k0 : jm_rck jm_YN jm_M171 0 jm_M171_r0 = true := by decide +kernel
theorem jm_M171_k1 : jm_rck jm_YN jm_M171 16 jm_M171_r1 = true := by decide +kernel
theorem jm_M171_k2 : jm_rck jm_YN jm_M171 32 jm_M171_r2 = true := by decide +kernel
theorem jm_M171_k3 : jm_rck jm_YN jm_M171 48 jm_M171_r3 = true := by decide +kernel
theorem jm_M171_k4 : jm_rck jm_YN jm_M171 64 jm_M171_r4 = true := by decide +kernel
theorem jm_M171_k5 : jm_rck jm_YN jm_M171 80 jm_M171_r5 = true := by decide +kernel
theorem jm_M171_k6 : jm_rck jm_YN jm_M171 96 jm_M171_r6 = true := by decide +kernel
theorem jm_M171_k7 : jm_rck jm_YN jm_M171 112 jm_M171_r7 = true := by decide +kernel
theorem jm_M171_k8 : jm_rck jm_YN jm_M171 128 jm_M171_r8 = true := by decide +kernel
theorem jm_M171_k9 : jm_rck jm_YN jm_M171 144 jm_M171_r9 = true := by decide +kernel
theorem jm_M171_k10 : jm_rck jm_YN jm_M171 160 jm_M171_r10 = true := by decide +kernel
theorem jm_M171_k11 : jm_rck jm_YN jm_M171 176 jm_M171_r11 = true := by decide +kernel
theorem jm_M171_k : jm_tck jm_YN jm_M171 0 (jm_tb jm_M171) = true := jm_tck_cons jm_M171_k0 (jm_tck_cons jm_M171_k1 (jm_tck_cons jm_M171_k2 (jm_tck_cons jm_M171_k3 (jm_tck_cons jm_M171_k4 (jm_tck_cons jm_M171_k5 (jm_tck_cons jm_M171_k6 (jm_tck_cons jm_M171_k7 (jm_tck_cons jm_M171_k8 (jm_tck_cons jm_M171_k9 (jm_tck_cons jm_M171_k10 (jm_tck_cons jm_M171_k11 (rfl))))))))))))
theorem jm_ok171 : jm_ok jm_YN jm_M171 := ⟨jm_tbl_mem (jm_p5 (List.mem_of_getElem? (i := 17) rfl)) rfl, jm_tbl_mem (jm_p1 (List.mem_of_getElem? (i := 18) (by decide +kernel))) (by decide +kernel), by decide +kernel, ⟨by decide +kernel, by decide +kernel⟩, by decide +kernel, by decide, fun h => absurd h (by decide), fun _ => ⟨jm_tbl_mem (jm_p5 (List.mem_of_getElem? (i := 16) (by decide +kernel))) (by decide +kernel), jm_tbl_mem (List.mem_append_left _ (List.mem_map.mpr ⟨(⟨"FallMarketModel", "begins", "()V"⟩, 69), by decide +kernel, rfl⟩)) (by decide +kernel), Or.inr rfl⟩, fun h => absurd h (by decide), jm_M171_k⟩
theorem jm_ok172 : jm_ok jm_YN jm_M172 := ⟨jm_tbl_mem (jm_p5 (List.mem_of_getElem? (i := 21) rfl)) rfl, jm_tbl_mem (jm_p1 (List.mem_of_getElem? (i := 18) (by decide +kernel))) (by decide +kernel), by decide +kernel, ⟨by decide +kernel, by decide +kernel⟩, by decide +kernel, by decide, fun h => absurd h (by decide), fun _ => ⟨jm_tbl_mem (jm_p5 (List.mem_of_getElem? (i := 20) (by decide +kernel))) (by decide +kernel), jm_tbl_mem (List.mem_append_left _ (List.mem_map.mpr ⟨(⟨"FallMarketModel", "keepsRow", "()V"⟩, 69), by decide +kernel, rfl⟩)) (by decide +kernel), Or.inr rfl⟩, fun h => absurd h (by decide), by decide +kernel⟩
theorem jm_ok173 : jm_ok jm_YN jm_M173 := ⟨jm_tbl_mem (jm_p6 (List.mem_of_getElem? (i := 133) rfl)) rfl, jm_tbl_mem (jm_p1 (List.mem_of_getElem? (i := 18) (by decide +kernel))) (by decide +kernel), by decide +kernel, ⟨by decide +kernel, by decide +kernel⟩, by decide +kernel, by decide, fun h => absurd h (by decide), fun _ => ⟨jm_tbl_mem (jm_p6 (List.mem_of_getElem? (i := 132) (by decide +kernel))) (by decide +kernel), jm_tbl_mem (List.mem_append_left _ (List.mem_map.mpr ⟨(⟨"FallMarketModel", "copies", "()V"⟩, 69), by decide +kernel, rfl⟩)) (by decide +kernel), Or.inr rfl⟩, fun h => absurd h (by decide), by decide +kernel⟩
theorem jm_ok174 : jm_ok jm_YN jm_M174 := ⟨jm_tbl_mem (jm_p6 (List.mem_of_getElem? (i := 215) rfl)) rfl, jm_tbl_mem (jm_p1 (List.mem_of_getElem? (i := 18) (by decide +kernel))) (by decide +kernel), by decide +kernel, ⟨by decide +kernel, by decide +kernel⟩, by decide +kernel, by decide, fun _ => jm_tbl_mem (jm_p6 (List.mem_of_getElem? (i := 214) (by decide +kernel))) (by decide +kernel), fun h => absurd h (by decide), fun h => absurd h (by decide), by decide +kernel⟩
theorem jm_ok175 : jm_ok jm_YN jm_M175 := ⟨jm_tbl_mem (jm_p6 (List.mem_of_getElem? (i := 212) rfl)) rfl, jm_tbl_mem (jm_p1 (List.mem_of_getElem? (i := 18) (by decide +kernel))) (by decide +kernel), by decide +kernel, ⟨by decide +kernel, by decide +kernel⟩, by decide +kernel, by decide, fun h => absurd h (by decide), fun _ => ⟨jm_tbl_mem (jm_p6 (List.mem_of_getElem? (i := 211) (by decide +kernel))) (by decide +kernel), jm_tbl_mem (List.mem_append_left _ (List.mem_map.mpr ⟨(⟨"FallMarketModel", "lotOf", "(I)I"⟩, 69), by decide +kernel, rfl⟩)) (by decide +kernel), Or.inr rfl⟩, fun h => absurd h (by decide), by decide +kernel⟩
theorem jm_ok176 : jm_ok jm_YN jm_M176 := ⟨jm_tbl_mem (jm_p6 (List.mem_of_getElem? (i := 145) rfl)) rfl, jm_tbl_mem (jm_p1 (List.mem_of_getElem? (i := 18) (by decide +kernel))) (by decide +kernel), by decide +kernel, ⟨by decide +kernel, by decide +kernel⟩, by decide +kernel, by decide, fun h => absurd h (by decide), fun _ => ⟨jm_tbl_mem (jm_p6 (List.mem_of_getElem? (i := 144) (by decide +kernel))) (by decide +kernel), jm_tbl_mem (List.mem_append_left _ (List.mem_map.mpr ⟨(⟨"FallMarketModel", "bitsOf", "(I)I"⟩, 69), by decide +kernel, rfl⟩)) (by decide +kernel), Or.inr rfl⟩, fun h => absurd h (by decide), by decide +kernel⟩
theorem jm_ok177 : jm_ok jm_YN jm_M177 := ⟨jm_tbl_mem (jm_p6 (List.mem_of_getElem? (i := 148) rfl)) rfl, jm_tbl_mem (jm_p1 (List.mem_of_getElem? (i := 18) (by decide +kernel))) (by decide +kernel), by decide +kernel, ⟨by decide +kernel, by decide +kernel⟩, by decide +kernel, by decide, fun _ => jm_tbl_mem (jm_p6 (List.mem_of_getElem? (i := 147) (by decide +kernel))) (by decide +kernel), fun h => absurd h (by decide), fun h => absurd h (by decide), by decide +kernel⟩
theorem jm_ok178 : jm_ok jm_YN jm_M178 := ⟨jm_tbl_mem (jm_p6 (List.mem_of_getElem? (i := 156) rfl)) rfl, jm_tbl_mem (jm_p1 (List.mem_of_getElem? (i := 18) (by decide +kernel))) (by decide +kernel), by decide +kernel, ⟨by decide +kernel, by decide +kernel⟩, by decide +kernel, by decide, fun h => absurd h (by decide), fun _ => ⟨jm_tbl_mem (jm_p6 (List.mem_of_getElem? (i := 155) (by decide +kernel))) (by decide +kernel), jm_tbl_mem (List.mem_append_left _ (List.mem_map.mpr ⟨(⟨"FallMarketModel", "looks", "(II)V"⟩, 69), by decide +kernel, rfl⟩)) (by decide +kernel), Or.inr rfl⟩, fun h => absurd h (by decide), by decide +kernel⟩
theorem jm_ok179 : jm_ok jm_YN jm_M179 := ⟨jm_tbl_mem (jm_p6 (List.mem_of_getElem? (i := 160) rfl)) rfl, jm_tbl_mem (jm_p1 (List.mem_of_getElem? (i := 18) (by decide +kernel))) (by decide +kernel), by decide +kernel, ⟨by decide +kernel, by decide +kernel⟩, by decide +kernel, by decide, fun h => absurd h (by decide), fun _ => ⟨jm_tbl_mem (jm_p6 (List.mem_of_getElem? (i := 159) (by decide +kernel))) (by decide +kernel), jm_tbl_mem (List.mem_append_left _ (List.mem_map.mpr ⟨(⟨"FallMarketModel", "asks", "(IIII)I"⟩, 69), by decide +kernel, rfl⟩)) (by decide +kernel), Or.inr rfl⟩, fun h => absurd h (by decide), by decide +kernel⟩
theorem jm_ok180 : jm_ok jm_YN jm_M180 := ⟨jm_tbl_mem (jm_p6 (List.mem_of_getElem? (i := 164) rfl)) rfl, jm_tbl_mem (jm_p1 (List.mem_of_getElem? (i := 18) (by decide +kernel))) (by decide +kernel), by decide +kernel, ⟨by decide +kernel, by decide +kernel⟩, by decide +kernel, by decide, fun h => absurd h (by decide), fun _ => ⟨jm_tbl_mem (jm_p6 (List.mem_of_getElem? (i := 163) (by decide +kernel))) (by decide +kernel), jm_tbl_mem (List.mem_append_left _ (List.mem_map.mpr ⟨(⟨"FallMarketModel", "lawTells", "(I)I"⟩, 69), by decide +kernel, rfl⟩)) (by decide +kernel), Or.inr rfl⟩, fun h => absurd h (by decide), by decide +kernel⟩
theorem jm_ok181 : jm_ok jm_YN jm_M181 := ⟨jm_tbl_mem (jm_p6 (List.mem_of_getElem? (i := 152) rfl)) rfl, jm_tbl_mem (jm_p1 (List.mem_of_getElem? (i := 18) (by decide +kernel))) (by decide +kernel), by decide +kernel, ⟨by decide +kernel, by decide +kernel⟩, by decide +kernel, by decide, fun h => absurd h (by decide), fun _ => ⟨jm_tbl_mem (jm_p6 (List.mem_of_getElem? (i := 151) (by decide +kernel))) (by decide +kernel), jm_tbl_mem (List.mem_append_left _ (List.mem_map.mpr ⟨(⟨"FallMarketModel", "windBy", "(II)I"⟩, 69), by decide +kernel, rfl⟩)) (by decide +kernel), Or.inr rfl⟩, fun h => absurd h (by decide), by decide +kernel⟩
theorem jm_ok182 : jm_ok jm_YN jm_M182 := ⟨jm_tbl_mem (jm_p6 (List.mem_of_getElem? (i := 183) rfl)) rfl, jm_tbl_mem (jm_p1 (List.mem_of_getElem? (i := 18) (by decide +kernel))) (by decide +kernel), by decide +kernel, ⟨by decide +kernel, by decide +kernel⟩, by decide +kernel, by decide, fun h => absurd h (by decide), fun _ => ⟨jm_tbl_mem (jm_p6 (List.mem_of_getElem? (i := 182) (by decide +kernel))) (by decide +kernel), jm_tbl_mem (List.mem_append_left _ (List.mem_map.mpr ⟨(⟨"FallMarketModel", "looksAt", "(IIII)V"⟩, 69), by decide +kernel, rfl⟩)) (by decide +kernel), Or.inr rfl⟩, fun h => absurd h (by decide), by decide +kernel⟩
theorem jm_ok183 : jm_ok jm_YN jm_M183 := ⟨jm_tbl_mem (jm_p6 (List.mem_of_getElem? (i := 187) rfl)) rfl, jm_tbl_mem (jm_p1 (List.mem_of_getElem? (i := 18) (by decide +kernel))) (by decide +kernel), by decide +kernel, ⟨by decide +kernel, by decide +kernel⟩, by decide +kernel, by decide, fun h => absurd h (by decide), fun _ => ⟨jm_tbl_mem (jm_p6 (List.mem_of_getElem? (i := 186) (by decide +kernel))) (by decide +kernel), jm_tbl_mem (List.mem_append_left _ (List.mem_map.mpr ⟨(⟨"FallMarketModel", "worthBy", "(IIIII)I"⟩, 69), by decide +kernel, rfl⟩)) (by decide +kernel), Or.inr rfl⟩, fun h => absurd h (by decide), by decide +kernel⟩
theorem jm_ok184 : jm_ok jm_YN jm_M184 := ⟨jm_tbl_mem (jm_p6 (List.mem_of_getElem? (i := 191) rfl)) rfl, jm_tbl_mem (jm_p1 (List.mem_of_getElem? (i := 18) (by decide +kernel))) (by decide +kernel), by decide +kernel, ⟨by decide +kernel, by decide +kernel⟩, by decide +kernel, by decide, fun h => absurd h (by decide), fun _ => ⟨jm_tbl_mem (jm_p6 (List.mem_of_getElem? (i := 190) (by decide +kernel))) (by decide +kernel), jm_tbl_mem (List.mem_append_left _ (List.mem_map.mpr ⟨(⟨"FallMarketModel", "bouncesBy", "(IIII)I"⟩, 69), by decide +kernel, rfl⟩)) (by decide +kernel), Or.inr rfl⟩, fun h => absurd h (by decide), by decide +kernel⟩
theorem jm_ok185 : jm_ok jm_YN jm_M185 := ⟨jm_tbl_mem (jm_p6 (List.mem_of_getElem? (i := 179) rfl)) rfl, jm_tbl_mem (jm_p1 (List.mem_of_getElem? (i := 18) (by decide +kernel))) (by decide +kernel), by decide +kernel, ⟨by decide +kernel, by decide +kernel⟩, by decide +kernel, by decide, fun h => absurd h (by decide), fun _ => ⟨jm_tbl_mem (jm_p6 (List.mem_of_getElem? (i := 178) (by decide +kernel))) (by decide +kernel), jm_tbl_mem (List.mem_append_left _ (List.mem_map.mpr ⟨(⟨"FallMarketModel", "hangsBy", "(IIIIIIII)I"⟩, 69), by decide +kernel, rfl⟩)) (by decide +kernel), Or.inr rfl⟩, fun h => absurd h (by decide), by decide +kernel⟩
theorem jm_ok186 : jm_ok jm_YN jm_M186 := ⟨jm_tbl_mem (jm_p7 (List.mem_of_getElem? (i := 11) rfl)) rfl, jm_tbl_mem (jm_p1 (List.mem_of_getElem? (i := 18) (by decide +kernel))) (by decide +kernel), by decide +kernel, ⟨by decide +kernel, by decide +kernel⟩, by decide +kernel, by decide, fun _ => jm_tbl_mem (jm_p7 (List.mem_of_getElem? (i := 10) (by decide +kernel))) (by decide +kernel), fun h => absurd h (by decide), fun h => absurd h (by decide), by decide +kernel⟩
theorem jm_ok187 : jm_ok jm_YN jm_M187 := ⟨jm_tbl_mem (jm_p7 (List.mem_of_getElem? (i := 8) rfl)) rfl, jm_tbl_mem (jm_p1 (List.mem_of_getElem? (i := 18) (by decide +kernel))) (by decide +kernel), by decide +kernel, ⟨by decide +kernel, by decide +kernel⟩, by decide +kernel, by decide, fun h => absurd h (by decide), fun _ => ⟨jm_tbl_mem (jm_p7 (List.mem_of_getElem? (i := 7) (by decide +kernel))) (by decide +kernel), jm_tbl_mem (List.mem_append_left _ (List.mem_map.mpr ⟨(⟨"FallMarketModel", "catcherOf", "(II)I"⟩, 69), by decide +kernel, rfl⟩)) (by decide +kernel), Or.inr rfl⟩, fun h => absurd h (by decide), by decide +kernel⟩
theorem jm_ok188 : jm_ok jm_YN jm_M188 := ⟨jm_tbl_mem (jm_p7 (List.mem_of_getElem? (i := 0) rfl)) rfl, jm_tbl_mem (jm_p1 (List.mem_of_getElem? (i := 18) (by decide +kernel))) (by decide +kernel), by decide +kernel, ⟨by decide +kernel, by decide +kernel⟩, by decide +kernel, by decide, fun h => absurd h (by decide), fun _ => ⟨jm_tbl_mem (jm_p6 (List.mem_of_getElem? (i := 239) (by decide +kernel))) (by decide +kernel), jm_tbl_mem (List.mem_append_left _ (List.mem_map.mpr ⟨(⟨"FallMarketModel", "sells", "(III)V"⟩, 69), by decide +kernel, rfl⟩)) (by decide +kernel), Or.inr rfl⟩, fun h => absurd h (by decide), by decide +kernel⟩
theorem jm_M189_k0 : jm_rck jm_YN jm_M189 0 jm_M189_r0 = true := by decide +kernel
theorem jm_M189_k1 : jm_rck jm_YN jm_M189 16 jm_M189_r1 = true := by decide +kernel
theorem jm_M189_k2 : jm_rck jm_YN jm_M189 32 jm_M189_r2 = true := by decide +kernel
theorem jm_M189_k3 : jm_rck jm_YN jm_M189 48 jm_M189_r3 = true := by decide +kernel
theorem jm_M189_k4 : jm_rck jm_YN jm_M189 64 jm_M189_r4 = true := by decide +kernel
theorem jm_M189_k5 : jm_rck jm_YN jm_M189 80 jm_M189_r5 = true := by decide +kernel
theorem jm_M189_k6 : jm_rck jm_YN jm_M189 96 jm_M189_r6 = true := by decide +kernel
theorem jm_M189_k7 : jm_rck jm_YN jm_M189 112 jm_M189_r7 = true := by decide +kernel
theorem jm_M189_k8 : jm_rck jm_YN jm_M189 128 jm_M189_r8 = true := by decide +kernel
theorem jm_M189_k9 : jm_rck jm_YN jm_M189 144 jm_M189_r9 = true := by decide +kernel
theorem jm_M189_k10 : jm_rck jm_YN jm_M189 160 jm_M189_r10 = true := by decide +kernel
theorem jm_M189_k11 : jm_rck jm_YN jm_M189 176 jm_M189_r11 = true := by decide +kernel
theorem jm_M189_k12 : jm_rck jm_YN jm_M189 192 jm_M189_r12 = true := by decide +kernel
theorem jm_M189_k13 : jm_rck jm_YN jm_M189 208 jm_M189_r13 = true := by decide +kernel
theorem jm_M189_k14 : jm_rck jm_YN jm_M189 224 jm_M189_r14 = true := by decide +kernel
theorem jm_M189_k15 : jm_rck jm_YN jm_M189 240 jm_M189_r15 = true := by decide +kernel
theorem jm_M189_k16 : jm_rck jm_YN jm_M189 256 jm_M189_r16 = true := by decide +kernel
theorem jm_M189_k17 : jm_rck jm_YN jm_M189 272 jm_M189_r17 = true := by decide +kernel
theorem jm_M189_k18 : jm_rck jm_YN jm_M189 288 jm_M189_r18 = true := by decide +kernel
theorem jm_M189_k19 : jm_rck jm_YN jm_M189 304 jm_M189_r19 = true := by decide +kernel
theorem jm_M189_k : jm_tck jm_YN jm_M189 0 (jm_tb jm_M189) = true := jm_tck_cons jm_M189_k0 (jm_tck_cons jm_M189_k1 (jm_tck_cons jm_M189_k2 (jm_tck_cons jm_M189_k3 (jm_tck_cons jm_M189_k4 (jm_tck_cons jm_M189_k5 (jm_tck_cons jm_M189_k6 (jm_tck_cons jm_M189_k7 (jm_tck_cons jm_M189_k8 (jm_tck_cons jm_M189_k9 (jm_tck_cons jm_M189_k10 (jm_tck_cons jm_M189_k11 (jm_tck_cons jm_M189_k12 (jm_tck_cons jm_M189_k13 (jm_tck_cons jm_M189_k14 (jm_tck_cons jm_M189_k15 (jm_tck_cons jm_M189_k16 (jm_tck_cons jm_M189_k17 (jm_tck_cons jm_M189_k18 (jm_tck_cons jm_M189_k19 (rfl))))))))))))))))))))
theorem jm_ok189 : jm_ok jm_YN jm_M189 := ⟨jm_tbl_mem (jm_p6 (List.mem_of_getElem? (i := 232) rfl)) rfl, jm_tbl_mem (jm_p1 (List.mem_of_getElem? (i := 18) (by decide +kernel))) (by decide +kernel), by decide +kernel, ⟨by decide +kernel, by decide +kernel⟩, by decide +kernel, by decide, fun h => absurd h (by decide), fun _ => ⟨jm_tbl_mem (jm_p6 (List.mem_of_getElem? (i := 231) (by decide +kernel))) (by decide +kernel), jm_tbl_mem (List.mem_append_left _ (List.mem_map.mpr ⟨(⟨"FallMarketModel", "looksOn", "()V"⟩, 69), by decide +kernel, rfl⟩)) (by decide +kernel), Or.inr rfl⟩, fun h => absurd h (by decide), jm_M189_k⟩
theorem jm_ok190 : jm_ok jm_YN jm_M190 := ⟨jm_tbl_mem (jm_p6 (List.mem_of_getElem? (i := 236) rfl)) rfl, jm_tbl_mem (jm_p1 (List.mem_of_getElem? (i := 18) (by decide +kernel))) (by decide +kernel), by decide +kernel, ⟨by decide +kernel, by decide +kernel⟩, by decide +kernel, by decide, fun h => absurd h (by decide), fun _ => ⟨jm_tbl_mem (jm_p6 (List.mem_of_getElem? (i := 235) (by decide +kernel))) (by decide +kernel), jm_tbl_mem (List.mem_append_left _ (List.mem_map.mpr ⟨(⟨"FallMarketModel", "lies", "(I)V"⟩, 69), by decide +kernel, rfl⟩)) (by decide +kernel), Or.inr rfl⟩, fun h => absurd h (by decide), by decide +kernel⟩
theorem jm_ok191 : jm_ok jm_YN jm_M191 := ⟨jm_tbl_mem (jm_p7 (List.mem_of_getElem? (i := 4) rfl)) rfl, jm_tbl_mem (jm_p1 (List.mem_of_getElem? (i := 18) (by decide +kernel))) (by decide +kernel), by decide +kernel, ⟨by decide +kernel, by decide +kernel⟩, by decide +kernel, by decide, fun h => absurd h (by decide), fun _ => ⟨jm_tbl_mem (jm_p7 (List.mem_of_getElem? (i := 3) (by decide +kernel))) (by decide +kernel), jm_tbl_mem (List.mem_append_left _ (List.mem_map.mpr ⟨(⟨"FallMarketModel", "falls", "(I)V"⟩, 69), by decide +kernel, rfl⟩)) (by decide +kernel), Or.inr rfl⟩, fun h => absurd h (by decide), by decide +kernel⟩
end
section
/-! ===== rows that hold ===== -/
theorem jm_ok192 : jm_ok jm_YN jm_M192 := ⟨jm_tbl_mem (jm_p6 (List.mem_of_getElem? (i := 228) rfl)) rfl, jm_tbl_mem (jm_p1 (List.mem_of_getElem? (i := 18) (by decide +kernel))) (by decide +kernel), by decide +kernel, ⟨by decide +kernel, by decide +kernel⟩, by decide +kernel, by decide, fun h => absurd h (by decide), fun _ => ⟨jm_tbl_mem (jm_p6 (List.mem_of_getElem? (i := 227) (by decide +kernel))) (by decide +kernel), jm_tbl_mem (List.mem_append_left _ (List.mem_map.mpr ⟨(⟨"FallMarketModel", "hourGoes", "()V"⟩, 69), by decide +kernel, rfl⟩)) (by decide +kernel), Or.inr rfl⟩, fun h => absurd h (by decide), by decide +kernel⟩
theorem jm_ok193 : jm_ok jm_YN jm_M193 := ⟨jm_tbl_mem (jm_p6 (List.mem_of_getElem? (i := 224) rfl)) rfl, jm_tbl_mem (jm_p1 (List.mem_of_getElem? (i := 18) (by decide +kernel))) (by decide +kernel), by decide +kernel, ⟨by decide +kernel, by decide +kernel⟩, by decide +kernel, by decide, fun h => absurd h (by decide), fun _ => ⟨jm_tbl_mem (jm_p6 (List.mem_of_getElem? (i := 223) (by decide +kernel))) (by decide +kernel), jm_tbl_mem (List.mem_append_left _ (List.mem_map.mpr ⟨(⟨"FallMarketModel", "goes", "(I)V"⟩, 69), by decide +kernel, rfl⟩)) (by decide +kernel), Or.inr rfl⟩, fun h => absurd h (by decide), by decide +kernel⟩
theorem jm_ok194 : jm_ok jm_YN jm_M194 := ⟨jm_tbl_mem (jm_p6 (List.mem_of_getElem? (i := 110) rfl)) rfl, jm_tbl_mem (jm_p1 (List.mem_of_getElem? (i := 18) (by decide +kernel))) (by decide +kernel), by decide +kernel, ⟨by decide +kernel, by decide +kernel⟩, by decide +kernel, by decide, fun h => absurd h (by decide), fun _ => ⟨jm_tbl_mem (jm_p6 (List.mem_of_getElem? (i := 108) (by decide +kernel))) (by decide +kernel), jm_tbl_mem (jm_p6 (List.mem_of_getElem? (i := 109) (by decide +kernel))) (by decide +kernel), Or.inr rfl⟩, fun h => absurd h (by decide), by decide +kernel⟩
theorem jm_ok195 : jm_ok jm_YN jm_M195 := ⟨jm_tbl_mem (jm_p6 (List.mem_of_getElem? (i := 121) rfl)) rfl, jm_tbl_mem (jm_p1 (List.mem_of_getElem? (i := 18) (by decide +kernel))) (by decide +kernel), by decide +kernel, ⟨by decide +kernel, by decide +kernel⟩, by decide +kernel, by decide, fun h => absurd h (by decide), fun _ => ⟨jm_tbl_mem (jm_p6 (List.mem_of_getElem? (i := 119) (by decide +kernel))) (by decide +kernel), jm_tbl_mem (jm_p6 (List.mem_of_getElem? (i := 120) (by decide +kernel))) (by decide +kernel), Or.inr rfl⟩, fun h => absurd h (by decide), by decide +kernel⟩
theorem jm_ok196 : jm_ok jm_YN jm_M196 := ⟨jm_tbl_mem (jm_p6 (List.mem_of_getElem? (i := 141) rfl)) rfl, jm_tbl_mem (jm_p1 (List.mem_of_getElem? (i := 18) (by decide +kernel))) (by decide +kernel), by decide +kernel, ⟨by decide +kernel, by decide +kernel⟩, by decide +kernel, by decide, fun h => absurd h (by decide), fun _ => ⟨jm_tbl_mem (jm_p6 (List.mem_of_getElem? (i := 140) (by decide +kernel))) (by decide +kernel), jm_tbl_mem (List.mem_append_left _ (List.mem_map.mpr ⟨(⟨"FallMarketModel", "leftNow", "()I"⟩, 69), by decide +kernel, rfl⟩)) (by decide +kernel), Or.inr rfl⟩, fun h => absurd h (by decide), by decide +kernel⟩
theorem jm_ok197 : jm_ok jm_YN jm_M197 := ⟨jm_tbl_mem (jm_p6 (List.mem_of_getElem? (i := 175) rfl)) rfl, jm_tbl_mem (jm_p1 (List.mem_of_getElem? (i := 18) (by decide +kernel))) (by decide +kernel), by decide +kernel, ⟨by decide +kernel, by decide +kernel⟩, by decide +kernel, by decide, fun h => absurd h (by decide), fun _ => ⟨jm_tbl_mem (jm_p6 (List.mem_of_getElem? (i := 174) (by decide +kernel))) (by decide +kernel), jm_tbl_mem (List.mem_append_left _ (List.mem_map.mpr ⟨(⟨"FallMarketModel", "tellsOf", "(IIII)I"⟩, 69), by decide +kernel, rfl⟩)) (by decide +kernel), Or.inr rfl⟩, fun h => absurd h (by decide), by decide +kernel⟩
theorem jm_ok198 : jm_ok jm_YN jm_M198 := ⟨jm_tbl_mem (jm_p6 (List.mem_of_getElem? (i := 137) rfl)) rfl, jm_tbl_mem (jm_p1 (List.mem_of_getElem? (i := 18) (by decide +kernel))) (by decide +kernel), by decide +kernel, ⟨by decide +kernel, by decide +kernel⟩, by decide +kernel, by decide, fun h => absurd h (by decide), fun _ => ⟨jm_tbl_mem (jm_p6 (List.mem_of_getElem? (i := 136) (by decide +kernel))) (by decide +kernel), jm_tbl_mem (List.mem_append_left _ (List.mem_map.mpr ⟨(⟨"FallMarketModel", "blowsNow", "()I"⟩, 69), by decide +kernel, rfl⟩)) (by decide +kernel), Or.inr rfl⟩, fun h => absurd h (by decide), by decide +kernel⟩
theorem jm_ok199 : jm_ok jm_YN jm_M199 := ⟨jm_tbl_mem (jm_p6 (List.mem_of_getElem? (i := 129) rfl)) rfl, jm_tbl_mem (jm_p1 (List.mem_of_getElem? (i := 18) (by decide +kernel))) (by decide +kernel), by decide +kernel, ⟨by decide +kernel, by decide +kernel⟩, by decide +kernel, by decide, fun h => absurd h (by decide), fun _ => ⟨jm_tbl_mem (jm_p6 (List.mem_of_getElem? (i := 127) (by decide +kernel))) (by decide +kernel), jm_tbl_mem (jm_p6 (List.mem_of_getElem? (i := 128) (by decide +kernel))) (by decide +kernel), Or.inr rfl⟩, fun h => absurd h (by decide), by decide +kernel⟩
theorem jm_ok200 : jm_ok jm_YN jm_M200 := ⟨jm_tbl_mem (jm_p6 (List.mem_of_getElem? (i := 199) rfl)) rfl, jm_tbl_mem (jm_p1 (List.mem_of_getElem? (i := 18) (by decide +kernel))) (by decide +kernel), by decide +kernel, ⟨by decide +kernel, by decide +kernel⟩, by decide +kernel, by decide, fun h => absurd h (by decide), fun _ => ⟨jm_tbl_mem (jm_p6 (List.mem_of_getElem? (i := 198) (by decide +kernel))) (by decide +kernel), jm_tbl_mem (List.mem_append_left _ (List.mem_map.mpr ⟨(⟨"FallMarketModel", "records", "()V"⟩, 69), by decide +kernel, rfl⟩)) (by decide +kernel), Or.inr rfl⟩, fun h => absurd h (by decide), by decide +kernel⟩
theorem jm_ok201 : jm_ok jm_YN jm_M201 := ⟨jm_tbl_mem (jm_p6 (List.mem_of_getElem? (i := 195) rfl)) rfl, jm_tbl_mem (jm_p1 (List.mem_of_getElem? (i := 18) (by decide +kernel))) (by decide +kernel), by decide +kernel, ⟨by decide +kernel, by decide +kernel⟩, by decide +kernel, by decide, fun h => absurd h (by decide), fun _ => ⟨jm_tbl_mem (jm_p6 (List.mem_of_getElem? (i := 193) (by decide +kernel))) (by decide +kernel), jm_tbl_mem (jm_p6 (List.mem_of_getElem? (i := 194) (by decide +kernel))) (by decide +kernel), Or.inr rfl⟩, fun h => absurd h (by decide), by decide +kernel⟩
theorem jm_ok202 : jm_ok jm_YN jm_M202 := ⟨jm_tbl_mem (jm_p6 (List.mem_of_getElem? (i := 203) rfl)) rfl, jm_tbl_mem (jm_p1 (List.mem_of_getElem? (i := 18) (by decide +kernel))) (by decide +kernel), by decide +kernel, ⟨by decide +kernel, by decide +kernel⟩, by decide +kernel, by decide, fun h => absurd h (by decide), fun _ => ⟨jm_tbl_mem (jm_p6 (List.mem_of_getElem? (i := 201) (by decide +kernel))) (by decide +kernel), jm_tbl_mem (jm_p6 (List.mem_of_getElem? (i := 202) (by decide +kernel))) (by decide +kernel), Or.inr rfl⟩, fun h => absurd h (by decide), by decide +kernel⟩
theorem jm_M203_k0 : jm_rck jm_YN jm_M203 0 jm_M203_r0 = true := by decide +kernel
theorem jm_M203_k1 : jm_rck jm_YN jm_M203 16 jm_M203_r1 = true := by decide +kernel
theorem jm_M203_k2 : jm_rck jm_YN jm_M203 32 jm_M203_r2 = true := by decide +kernel
theorem jm_M203_k3 : jm_rck jm_YN jm_M203 48 jm_M203_r3 = true := by decide +kernel
theorem jm_M203_k4 : jm_rck jm_YN jm_M203 64 jm_M203_r4 = true := by decide +kernel
theorem jm_M203_k5 : jm_rck jm_YN jm_M203 80 jm_M203_r5 = true := by decide +kernel
theorem jm_M203_k6 : jm_rck jm_YN jm_M203 96 jm_M203_r6 = true := by decide +kernel
theorem jm_M203_k7 : jm_rck jm_YN jm_M203 112 jm_M203_r7 = true := by decide +kernel
theorem jm_M203_k8 : jm_rck jm_YN jm_M203 128 jm_M203_r8 = true := by decide +kernel
theorem jm_M203_k9 : jm_rck jm_YN jm_M203 144 jm_M203_r9 = true := by decide +kernel
theorem jm_M203_k10 : jm_rck jm_YN jm_M203 160 jm_M203_r10 = true := by decide +kernel
theorem jm_M203_k11 : jm_rck jm_YN jm_M203 176 jm_M203_r11 = true := by decide +kernel
theorem jm_M203_k : jm_tck jm_YN jm_M203 0 (jm_tb jm_M203) = true := jm_tck_cons jm_M203_k0 (jm_tck_cons jm_M203_k1 (jm_tck_cons jm_M203_k2 (jm_tck_cons jm_M203_k3 (jm_tck_cons jm_M203_k4 (jm_tck_cons jm_M203_k5 (jm_tck_cons jm_M203_k6 (jm_tck_cons jm_M203_k7 (jm_tck_cons jm_M203_k8 (jm_tck_cons jm_M203_k9 (jm_tck_cons jm_M203_k10 (jm_tck_cons jm_M203_k11 (rfl))))))))))))
theorem jm_ok203 : jm_ok jm_YN jm_M203 := ⟨jm_tbl_mem (jm_p6 (List.mem_of_getElem? (i := 207) rfl)) rfl, jm_tbl_mem (jm_p1 (List.mem_of_getElem? (i := 18) (by decide +kernel))) (by decide +kernel), by decide +kernel, ⟨by decide +kernel, by decide +kernel⟩, by decide +kernel, by decide, fun h => absurd h (by decide), fun _ => ⟨jm_tbl_mem (jm_p6 (List.mem_of_getElem? (i := 205) (by decide +kernel))) (by decide +kernel), jm_tbl_mem (jm_p6 (List.mem_of_getElem? (i := 206) (by decide +kernel))) (by decide +kernel), Or.inr rfl⟩, fun h => absurd h (by decide), jm_M203_k⟩
theorem jm_ok204 : jm_ok jm_YN jm_M204 := ⟨jm_tbl_mem (jm_p6 (List.mem_of_getElem? (i := 220) rfl)) rfl, jm_tbl_mem (jm_p1 (List.mem_of_getElem? (i := 18) (by decide +kernel))) (by decide +kernel), by decide +kernel, ⟨by decide +kernel, by decide +kernel⟩, by decide +kernel, by decide, fun h => absurd h (by decide), fun _ => ⟨jm_tbl_mem (jm_p6 (List.mem_of_getElem? (i := 218) (by decide +kernel))) (by decide +kernel), jm_tbl_mem (jm_p6 (List.mem_of_getElem? (i := 219) (by decide +kernel))) (by decide +kernel), Or.inr rfl⟩, fun h => absurd h (by decide), by decide +kernel⟩
theorem jm_ok205 : jm_ok jm_YN jm_M205 := ⟨jm_tbl_mem (jm_p7 (List.mem_of_getElem? (i := 15) rfl)) rfl, jm_tbl_mem (jm_p1 (List.mem_of_getElem? (i := 18) (by decide +kernel))) (by decide +kernel), by decide +kernel, ⟨by decide +kernel, by decide +kernel⟩, by decide +kernel, by decide, fun h => absurd h (by decide), fun _ => ⟨jm_tbl_mem (jm_p7 (List.mem_of_getElem? (i := 13) (by decide +kernel))) (by decide +kernel), jm_tbl_mem (jm_p7 (List.mem_of_getElem? (i := 14) (by decide +kernel))) (by decide +kernel), Or.inr rfl⟩, fun h => absurd h (by decide), by decide +kernel⟩
theorem jm_ok206 : jm_ok jm_YN jm_M206 := ⟨jm_tbl_mem (jm_p7 (List.mem_of_getElem? (i := 26) rfl)) rfl, jm_tbl_mem (jm_p1 (List.mem_of_getElem? (i := 18) (by decide +kernel))) (by decide +kernel), by decide +kernel, ⟨by decide +kernel, by decide +kernel⟩, by decide +kernel, by decide, fun h => absurd h (by decide), fun _ => ⟨jm_tbl_mem (jm_p7 (List.mem_of_getElem? (i := 25) (by decide +kernel))) (by decide +kernel), jm_tbl_mem (List.mem_append_left _ (List.mem_map.mpr ⟨(⟨"FallMarketModel", "fillsOdds", "(III)V"⟩, 69), by decide +kernel, rfl⟩)) (by decide +kernel), Or.inr rfl⟩, fun h => absurd h (by decide), by decide +kernel⟩
theorem jm_ok207 : jm_ok jm_YN jm_M207 := ⟨jm_tbl_mem (jm_p7 (List.mem_of_getElem? (i := 29) rfl)) rfl, jm_tbl_mem (jm_p1 (List.mem_of_getElem? (i := 18) (by decide +kernel))) (by decide +kernel), by decide +kernel, ⟨by decide +kernel, by decide +kernel⟩, by decide +kernel, by decide, fun _ => jm_tbl_mem (jm_p7 (List.mem_of_getElem? (i := 28) (by decide +kernel))) (by decide +kernel), fun h => absurd h (by decide), fun h => absurd h (by decide), by decide +kernel⟩
theorem jm_ok208 : jm_ok jm_YN jm_M208 := ⟨jm_tbl_mem (jm_p7 (List.mem_of_getElem? (i := 45) rfl)) rfl, jm_tbl_mem (jm_p1 (List.mem_of_getElem? (i := 18) (by decide +kernel))) (by decide +kernel), by decide +kernel, ⟨by decide +kernel, by decide +kernel⟩, by decide +kernel, by decide, fun h => absurd h (by decide), fun _ => ⟨jm_tbl_mem (jm_p7 (List.mem_of_getElem? (i := 44) (by decide +kernel))) (by decide +kernel), jm_tbl_mem (List.mem_append_left _ (List.mem_map.mpr ⟨(⟨"FallMarketModel", "fallsIn", "(I)J"⟩, 69), by decide +kernel, rfl⟩)) (by decide +kernel), Or.inr rfl⟩, fun h => absurd h (by decide), by decide +kernel⟩
theorem jm_ok209 : jm_ok jm_YN jm_M209 := ⟨jm_tbl_mem (jm_p7 (List.mem_of_getElem? (i := 22) rfl)) rfl, jm_tbl_mem (jm_p1 (List.mem_of_getElem? (i := 18) (by decide +kernel))) (by decide +kernel), by decide +kernel, ⟨by decide +kernel, by decide +kernel⟩, by decide +kernel, by decide, fun _ => jm_tbl_mem (jm_p7 (List.mem_of_getElem? (i := 21) (by decide +kernel))) (by decide +kernel), fun h => absurd h (by decide), fun h => absurd h (by decide), by decide +kernel⟩
theorem jm_ok210 : jm_ok jm_YN jm_M210 := ⟨jm_tbl_mem (jm_p7 (List.mem_of_getElem? (i := 33) rfl)) rfl, jm_tbl_mem (jm_p1 (List.mem_of_getElem? (i := 18) (by decide +kernel))) (by decide +kernel), by decide +kernel, ⟨by decide +kernel, by decide +kernel⟩, by decide +kernel, by decide, fun _ => jm_tbl_mem (jm_p7 (List.mem_of_getElem? (i := 32) (by decide +kernel))) (by decide +kernel), fun h => absurd h (by decide), fun h => absurd h (by decide), by decide +kernel⟩
theorem jm_ok211 : jm_ok jm_YN jm_M211 := ⟨jm_tbl_mem (jm_p7 (List.mem_of_getElem? (i := 19) rfl)) rfl, jm_tbl_mem (jm_p1 (List.mem_of_getElem? (i := 18) (by decide +kernel))) (by decide +kernel), by decide +kernel, ⟨by decide +kernel, by decide +kernel⟩, by decide +kernel, by decide, fun h => absurd h (by decide), fun _ => ⟨jm_tbl_mem (jm_p7 (List.mem_of_getElem? (i := 17) (by decide +kernel))) (by decide +kernel), jm_tbl_mem (jm_p7 (List.mem_of_getElem? (i := 18) (by decide +kernel))) (by decide +kernel), Or.inr rfl⟩, fun h => absurd h (by decide), by decide +kernel⟩
theorem jm_ok212 : jm_ok jm_YN jm_M212 := ⟨jm_tbl_mem (jm_p7 (List.mem_of_getElem? (i := 41) rfl)) rfl, jm_tbl_mem (jm_p1 (List.mem_of_getElem? (i := 18) (by decide +kernel))) (by decide +kernel), by decide +kernel, ⟨by decide +kernel, by decide +kernel⟩, by decide +kernel, by decide, fun h => absurd h (by decide), fun _ => ⟨jm_tbl_mem (jm_p7 (List.mem_of_getElem? (i := 40) (by decide +kernel))) (by decide +kernel), jm_tbl_mem (List.mem_append_left _ (List.mem_map.mpr ⟨(⟨"FallMarketModel", "meanAt", "(III)J"⟩, 69), by decide +kernel, rfl⟩)) (by decide +kernel), Or.inr rfl⟩, fun h => absurd h (by decide), by decide +kernel⟩
theorem jm_ok213 : jm_ok jm_YN jm_M213 := ⟨jm_tbl_mem (jm_p7 (List.mem_of_getElem? (i := 37) rfl)) rfl, jm_tbl_mem (jm_p1 (List.mem_of_getElem? (i := 18) (by decide +kernel))) (by decide +kernel), by decide +kernel, ⟨by decide +kernel, by decide +kernel⟩, by decide +kernel, by decide, fun h => absurd h (by decide), fun _ => ⟨jm_tbl_mem (jm_p7 (List.mem_of_getElem? (i := 35) (by decide +kernel))) (by decide +kernel), jm_tbl_mem (jm_p7 (List.mem_of_getElem? (i := 36) (by decide +kernel))) (by decide +kernel), Or.inr rfl⟩, fun h => absurd h (by decide), by decide +kernel⟩
theorem jm_ok214 : jm_ok jm_YN jm_M214 := ⟨jm_tbl_mem (jm_p7 (List.mem_of_getElem? (i := 49) rfl)) rfl, jm_tbl_mem (jm_p1 (List.mem_of_getElem? (i := 18) (by decide +kernel))) (by decide +kernel), by decide +kernel, ⟨by decide +kernel, by decide +kernel⟩, by decide +kernel, by decide, fun h => absurd h (by decide), fun _ => ⟨jm_tbl_mem (jm_p7 (List.mem_of_getElem? (i := 47) (by decide +kernel))) (by decide +kernel), jm_tbl_mem (jm_p7 (List.mem_of_getElem? (i := 48) (by decide +kernel))) (by decide +kernel), Or.inr rfl⟩, fun h => absurd h (by decide), by decide +kernel⟩
theorem jm_ok215 : jm_ok jm_YN jm_M215 := ⟨jm_tbl_mem (jm_p7 (List.mem_of_getElem? (i := 54) rfl)) rfl, jm_tbl_mem (jm_p1 (List.mem_of_getElem? (i := 18) (by decide +kernel))) (by decide +kernel), by decide +kernel, ⟨by decide +kernel, by decide +kernel⟩, by decide +kernel, by decide, fun h => absurd h (by decide), fun _ => ⟨jm_tbl_mem (jm_p7 (List.mem_of_getElem? (i := 52) (by decide +kernel))) (by decide +kernel), jm_tbl_mem (jm_p7 (List.mem_of_getElem? (i := 53) (by decide +kernel))) (by decide +kernel), Or.inr rfl⟩, fun h => absurd h (by decide), by decide +kernel⟩
theorem jm_ok216 : jm_ok jm_YN jm_M216 := ⟨jm_tbl_mem (jm_p7 (List.mem_of_getElem? (i := 58) rfl)) rfl, jm_tbl_mem (jm_p1 (List.mem_of_getElem? (i := 18) (by decide +kernel))) (by decide +kernel), by decide +kernel, ⟨by decide +kernel, by decide +kernel⟩, by decide +kernel, by decide, fun h => absurd h (by decide), fun _ => ⟨jm_tbl_mem (jm_p7 (List.mem_of_getElem? (i := 56) (by decide +kernel))) (by decide +kernel), jm_tbl_mem (jm_p7 (List.mem_of_getElem? (i := 57) (by decide +kernel))) (by decide +kernel), Or.inr rfl⟩, fun h => absurd h (by decide), by decide +kernel⟩
theorem jm_ok217 : jm_ok jm_YN jm_M217 := ⟨jm_tbl_mem (jm_p7 (List.mem_of_getElem? (i := 62) rfl)) rfl, jm_tbl_mem (jm_p1 (List.mem_of_getElem? (i := 18) (by decide +kernel))) (by decide +kernel), by decide +kernel, ⟨by decide +kernel, by decide +kernel⟩, by decide +kernel, by decide, fun h => absurd h (by decide), fun _ => ⟨jm_tbl_mem (jm_p7 (List.mem_of_getElem? (i := 60) (by decide +kernel))) (by decide +kernel), jm_tbl_mem (jm_p7 (List.mem_of_getElem? (i := 61) (by decide +kernel))) (by decide +kernel), Or.inr rfl⟩, fun h => absurd h (by decide), by decide +kernel⟩
theorem jm_ok218 : jm_ok jm_YN jm_M218 := ⟨jm_tbl_mem (jm_p7 (List.mem_of_getElem? (i := 69) rfl)) rfl, jm_tbl_mem (jm_p1 (List.mem_of_getElem? (i := 18) (by decide +kernel))) (by decide +kernel), by decide +kernel, ⟨by decide +kernel, by decide +kernel⟩, by decide +kernel, by decide, fun _ => jm_tbl_mem (jm_p7 (List.mem_of_getElem? (i := 68) (by decide +kernel))) (by decide +kernel), fun h => absurd h (by decide), fun h => absurd h (by decide), by decide +kernel⟩
theorem jm_ok219 : jm_ok jm_YN jm_M219 := ⟨jm_tbl_mem (jm_p7 (List.mem_of_getElem? (i := 66) rfl)) rfl, jm_tbl_mem (jm_p1 (List.mem_of_getElem? (i := 18) (by decide +kernel))) (by decide +kernel), by decide +kernel, ⟨by decide +kernel, by decide +kernel⟩, by decide +kernel, by decide, fun h => absurd h (by decide), fun _ => ⟨jm_tbl_mem (jm_p7 (List.mem_of_getElem? (i := 64) (by decide +kernel))) (by decide +kernel), jm_tbl_mem (jm_p7 (List.mem_of_getElem? (i := 65) (by decide +kernel))) (by decide +kernel), Or.inr rfl⟩, fun h => absurd h (by decide), by decide +kernel⟩
theorem jm_ok220 : jm_ok jm_YN jm_M220 := ⟨jm_tbl_mem (jm_p7 (List.mem_of_getElem? (i := 73) rfl)) rfl, jm_tbl_mem (jm_p1 (List.mem_of_getElem? (i := 18) (by decide +kernel))) (by decide +kernel), by decide +kernel, ⟨by decide +kernel, by decide +kernel⟩, by decide +kernel, by decide, fun h => absurd h (by decide), fun _ => ⟨jm_tbl_mem (jm_p7 (List.mem_of_getElem? (i := 71) (by decide +kernel))) (by decide +kernel), jm_tbl_mem (jm_p7 (List.mem_of_getElem? (i := 72) (by decide +kernel))) (by decide +kernel), Or.inr rfl⟩, fun h => absurd h (by decide), by decide +kernel⟩
theorem jm_ok221 : jm_ok jm_YN jm_M221 := ⟨jm_tbl_mem (jm_p7 (List.mem_of_getElem? (i := 77) rfl)) rfl, jm_tbl_mem (jm_p1 (List.mem_of_getElem? (i := 18) (by decide +kernel))) (by decide +kernel), by decide +kernel, ⟨by decide +kernel, by decide +kernel⟩, by decide +kernel, by decide, fun h => absurd h (by decide), fun _ => ⟨jm_tbl_mem (jm_p7 (List.mem_of_getElem? (i := 75) (by decide +kernel))) (by decide +kernel), jm_tbl_mem (jm_p7 (List.mem_of_getElem? (i := 76) (by decide +kernel))) (by decide +kernel), Or.inr rfl⟩, fun h => absurd h (by decide), by decide +kernel⟩
theorem jm_ok222 : jm_ok jm_YN jm_M222 := ⟨jm_tbl_mem (jm_p7 (List.mem_of_getElem? (i := 81) rfl)) rfl, jm_tbl_mem (jm_p1 (List.mem_of_getElem? (i := 18) (by decide +kernel))) (by decide +kernel), by decide +kernel, ⟨by decide +kernel, by decide +kernel⟩, by decide +kernel, by decide, fun h => absurd h (by decide), fun _ => ⟨jm_tbl_mem (jm_p7 (List.mem_of_getElem? (i := 79) (by decide +kernel))) (by decide +kernel), jm_tbl_mem (jm_p7 (List.mem_of_getElem? (i := 80) (by decide +kernel))) (by decide +kernel), Or.inr rfl⟩, fun h => absurd h (by decide), by decide +kernel⟩
theorem jm_ok223 : jm_ok jm_YN jm_M223 := ⟨jm_tbl_mem (jm_p7 (List.mem_of_getElem? (i := 85) rfl)) rfl, jm_tbl_mem (jm_p1 (List.mem_of_getElem? (i := 18) (by decide +kernel))) (by decide +kernel), by decide +kernel, ⟨by decide +kernel, by decide +kernel⟩, by decide +kernel, by decide, fun h => absurd h (by decide), fun _ => ⟨jm_tbl_mem (jm_p7 (List.mem_of_getElem? (i := 83) (by decide +kernel))) (by decide +kernel), jm_tbl_mem (jm_p7 (List.mem_of_getElem? (i := 84) (by decide +kernel))) (by decide +kernel), Or.inr rfl⟩, fun h => absurd h (by decide), by decide +kernel⟩
end
section
/-! ===== rows that hold ===== -/
theorem jm_ok224 : jm_ok jm_YN jm_M224 := ⟨jm_tbl_mem (jm_p7 (List.mem_of_getElem? (i := 89) rfl)) rfl, jm_tbl_mem (jm_p1 (List.mem_of_getElem? (i := 18) (by decide +kernel))) (by decide +kernel), by decide +kernel, ⟨by decide +kernel, by decide +kernel⟩, by decide +kernel, by decide, fun h => absurd h (by decide), fun _ => ⟨jm_tbl_mem (jm_p7 (List.mem_of_getElem? (i := 87) (by decide +kernel))) (by decide +kernel), jm_tbl_mem (jm_p7 (List.mem_of_getElem? (i := 88) (by decide +kernel))) (by decide +kernel), Or.inr rfl⟩, fun h => absurd h (by decide), by decide +kernel⟩
theorem jm_ok225 : jm_ok jm_YN jm_M225 := ⟨jm_tbl_mem (jm_p7 (List.mem_of_getElem? (i := 93) rfl)) rfl, jm_tbl_mem (jm_p1 (List.mem_of_getElem? (i := 18) (by decide +kernel))) (by decide +kernel), by decide +kernel, ⟨by decide +kernel, by decide +kernel⟩, by decide +kernel, by decide, fun h => absurd h (by decide), fun _ => ⟨jm_tbl_mem (jm_p7 (List.mem_of_getElem? (i := 91) (by decide +kernel))) (by decide +kernel), jm_tbl_mem (jm_p7 (List.mem_of_getElem? (i := 92) (by decide +kernel))) (by decide +kernel), Or.inr rfl⟩, fun h => absurd h (by decide), by decide +kernel⟩
theorem jm_ok226 : jm_ok jm_YN jm_M226 := ⟨jm_tbl_mem (jm_p7 (List.mem_of_getElem? (i := 97) rfl)) rfl, jm_tbl_mem (jm_p1 (List.mem_of_getElem? (i := 18) (by decide +kernel))) (by decide +kernel), by decide +kernel, ⟨by decide +kernel, by decide +kernel⟩, by decide +kernel, by decide, fun h => absurd h (by decide), fun _ => ⟨jm_tbl_mem (jm_p7 (List.mem_of_getElem? (i := 95) (by decide +kernel))) (by decide +kernel), jm_tbl_mem (jm_p7 (List.mem_of_getElem? (i := 96) (by decide +kernel))) (by decide +kernel), Or.inr rfl⟩, fun h => absurd h (by decide), by decide +kernel⟩
theorem jm_ok227 : jm_ok jm_YN jm_M227 := ⟨jm_tbl_mem (jm_p7 (List.mem_of_getElem? (i := 101) rfl)) rfl, jm_tbl_mem (jm_p1 (List.mem_of_getElem? (i := 18) (by decide +kernel))) (by decide +kernel), by decide +kernel, ⟨by decide +kernel, by decide +kernel⟩, by decide +kernel, by decide, fun h => absurd h (by decide), fun _ => ⟨jm_tbl_mem (jm_p7 (List.mem_of_getElem? (i := 99) (by decide +kernel))) (by decide +kernel), jm_tbl_mem (jm_p7 (List.mem_of_getElem? (i := 100) (by decide +kernel))) (by decide +kernel), Or.inr rfl⟩, fun h => absurd h (by decide), by decide +kernel⟩
theorem jm_ok228 : jm_ok jm_YN jm_M228 := ⟨jm_tbl_mem (jm_p7 (List.mem_of_getElem? (i := 105) rfl)) rfl, jm_tbl_mem (jm_p1 (List.mem_of_getElem? (i := 18) (by decide +kernel))) (by decide +kernel), by decide +kernel, ⟨by decide +kernel, by decide +kernel⟩, by decide +kernel, by decide, fun h => absurd h (by decide), fun _ => ⟨jm_tbl_mem (jm_p7 (List.mem_of_getElem? (i := 103) (by decide +kernel))) (by decide +kernel), jm_tbl_mem (jm_p7 (List.mem_of_getElem? (i := 104) (by decide +kernel))) (by decide +kernel), Or.inr rfl⟩, fun h => absurd h (by decide), by decide +kernel⟩
theorem jm_ok229 : jm_ok jm_YN jm_M229 := ⟨jm_tbl_mem (jm_p7 (List.mem_of_getElem? (i := 109) rfl)) rfl, jm_tbl_mem (jm_p1 (List.mem_of_getElem? (i := 18) (by decide +kernel))) (by decide +kernel), by decide +kernel, ⟨by decide +kernel, by decide +kernel⟩, by decide +kernel, by decide, fun h => absurd h (by decide), fun _ => ⟨jm_tbl_mem (jm_p7 (List.mem_of_getElem? (i := 107) (by decide +kernel))) (by decide +kernel), jm_tbl_mem (jm_p7 (List.mem_of_getElem? (i := 108) (by decide +kernel))) (by decide +kernel), Or.inr rfl⟩, fun h => absurd h (by decide), by decide +kernel⟩
theorem jm_ok230 : jm_ok jm_YN jm_M230 := ⟨jm_tbl_mem (jm_p7 (List.mem_of_getElem? (i := 120) rfl)) rfl, jm_tbl_mem (jm_p1 (List.mem_of_getElem? (i := 18) (by decide +kernel))) (by decide +kernel), by decide +kernel, ⟨by decide +kernel, by decide +kernel⟩, by decide +kernel, by decide, fun _ => jm_tbl_mem (jm_p7 (List.mem_of_getElem? (i := 119) (by decide +kernel))) (by decide +kernel), fun h => absurd h (by decide), fun h => absurd h (by decide), by decide +kernel⟩
theorem jm_ok231 : jm_ok jm_YN jm_M231 := ⟨jm_tbl_mem (jm_p7 (List.mem_of_getElem? (i := 124) rfl)) rfl, jm_tbl_mem (jm_p1 (List.mem_of_getElem? (i := 18) (by decide +kernel))) (by decide +kernel), by decide +kernel, ⟨by decide +kernel, by decide +kernel⟩, by decide +kernel, by decide, fun h => absurd h (by decide), fun _ => ⟨jm_tbl_mem (jm_p7 (List.mem_of_getElem? (i := 123) (by decide +kernel))) (by decide +kernel), jm_tbl_mem (List.mem_append_left _ (List.mem_map.mpr ⟨(⟨"FallMarketModel", "isRow", "(II)Z"⟩, 69), by decide +kernel, rfl⟩)) (by decide +kernel), Or.inr rfl⟩, fun h => absurd h (by decide), by decide +kernel⟩
theorem jm_M232_k0 : jm_rck jm_YN jm_M232 0 jm_M232_r0 = true := by decide +kernel
theorem jm_M232_k1 : jm_rck jm_YN jm_M232 16 jm_M232_r1 = true := by decide +kernel
theorem jm_M232_k2 : jm_rck jm_YN jm_M232 32 jm_M232_r2 = true := by decide +kernel
theorem jm_M232_k3 : jm_rck jm_YN jm_M232 48 jm_M232_r3 = true := by decide +kernel
theorem jm_M232_k4 : jm_rck jm_YN jm_M232 64 jm_M232_r4 = true := by decide +kernel
theorem jm_M232_k5 : jm_rck jm_YN jm_M232 80 jm_M232_r5 = true := by decide +kernel
theorem jm_M232_k6 : jm_rck jm_YN jm_M232 96 jm_M232_r6 = true := by decide +kernel
theorem jm_M232_k7 : jm_rck jm_YN jm_M232 112 jm_M232_r7 = true := by decide +kernel
theorem jm_M232_k8 : jm_rck jm_YN jm_M232 128 jm_M232_r8 = true := by decide +kernel
theorem jm_M232_k9 : jm_rck jm_YN jm_M232 144 jm_M232_r9 = true := by decide +kernel
theorem jm_M232_k10 : jm_rck jm_YN jm_M232 160 jm_M232_r10 = true := by decide +kernel
theorem jm_M232_k11 : jm_rck jm_YN jm_M232 176 jm_M232_r11 = true := by decide +kernel
theorem jm_M232_k : jm_tck jm_YN jm_M232 0 (jm_tb jm_M232) = true := jm_tck_cons jm_M232_k0 (jm_tck_cons jm_M232_k1 (jm_tck_cons jm_M232_k2 (jm_tck_cons jm_M232_k3 (jm_tck_cons jm_M232_k4 (jm_tck_cons jm_M232_k5 (jm_tck_cons jm_M232_k6 (jm_tck_cons jm_M232_k7 (jm_tck_cons jm_M232_k8 (jm_tck_cons jm_M232_k9 (jm_tck_cons jm_M232_k10 (jm_tck_cons jm_M232_k11 (rfl))))))))))))
theorem jm_ok232 : jm_ok jm_YN jm_M232 := ⟨jm_tbl_mem (jm_p7 (List.mem_of_getElem? (i := 117) rfl)) rfl, jm_tbl_mem (jm_p1 (List.mem_of_getElem? (i := 18) (by decide +kernel))) (by decide +kernel), by decide +kernel, ⟨by decide +kernel, by decide +kernel⟩, by decide +kernel, by decide, fun h => absurd h (by decide), fun _ => ⟨jm_tbl_mem (jm_p7 (List.mem_of_getElem? (i := 116) (by decide +kernel))) (by decide +kernel), jm_tbl_mem (List.mem_append_left _ (List.mem_map.mpr ⟨(⟨"FallMarketModel", "fillsRows", "(I)V"⟩, 69), by decide +kernel, rfl⟩)) (by decide +kernel), Or.inr rfl⟩, fun h => absurd h (by decide), jm_M232_k⟩
theorem jm_ok233 : jm_ok jm_YN jm_M233 := ⟨jm_tbl_mem (jm_p7 (List.mem_of_getElem? (i := 113) rfl)) rfl, jm_tbl_mem (jm_p1 (List.mem_of_getElem? (i := 18) (by decide +kernel))) (by decide +kernel), by decide +kernel, ⟨by decide +kernel, by decide +kernel⟩, by decide +kernel, by decide, fun h => absurd h (by decide), fun _ => ⟨jm_tbl_mem (jm_p7 (List.mem_of_getElem? (i := 111) (by decide +kernel))) (by decide +kernel), jm_tbl_mem (jm_p7 (List.mem_of_getElem? (i := 112) (by decide +kernel))) (by decide +kernel), Or.inr rfl⟩, fun h => absurd h (by decide), by decide +kernel⟩
theorem jm_ok234 : jm_ok jm_YN jm_M234 := ⟨jm_tbl_mem (jm_p7 (List.mem_of_getElem? (i := 128) rfl)) rfl, jm_tbl_mem (jm_p1 (List.mem_of_getElem? (i := 18) (by decide +kernel))) (by decide +kernel), by decide +kernel, ⟨by decide +kernel, by decide +kernel⟩, by decide +kernel, by decide, fun h => absurd h (by decide), fun _ => ⟨jm_tbl_mem (jm_p7 (List.mem_of_getElem? (i := 126) (by decide +kernel))) (by decide +kernel), jm_tbl_mem (jm_p7 (List.mem_of_getElem? (i := 127) (by decide +kernel))) (by decide +kernel), Or.inr rfl⟩, fun h => absurd h (by decide), by decide +kernel⟩
theorem jm_ok235 : jm_ok jm_YN jm_M235 := ⟨jm_tbl_mem (jm_p7 (List.mem_of_getElem? (i := 132) rfl)) rfl, jm_tbl_mem (jm_p1 (List.mem_of_getElem? (i := 18) (by decide +kernel))) (by decide +kernel), by decide +kernel, ⟨by decide +kernel, by decide +kernel⟩, by decide +kernel, by decide, fun h => absurd h (by decide), fun _ => ⟨jm_tbl_mem (jm_p7 (List.mem_of_getElem? (i := 130) (by decide +kernel))) (by decide +kernel), jm_tbl_mem (jm_p7 (List.mem_of_getElem? (i := 131) (by decide +kernel))) (by decide +kernel), Or.inr rfl⟩, fun h => absurd h (by decide), by decide +kernel⟩
theorem jm_ok236 : jm_ok jm_YN jm_M236 := ⟨jm_tbl_mem (jm_p7 (List.mem_of_getElem? (i := 136) rfl)) rfl, jm_tbl_mem (jm_p1 (List.mem_of_getElem? (i := 18) (by decide +kernel))) (by decide +kernel), by decide +kernel, ⟨by decide +kernel, by decide +kernel⟩, by decide +kernel, by decide, fun h => absurd h (by decide), fun _ => ⟨jm_tbl_mem (jm_p7 (List.mem_of_getElem? (i := 134) (by decide +kernel))) (by decide +kernel), jm_tbl_mem (jm_p7 (List.mem_of_getElem? (i := 135) (by decide +kernel))) (by decide +kernel), Or.inr rfl⟩, fun h => absurd h (by decide), by decide +kernel⟩
theorem jm_ok237 : jm_ok jm_YN jm_M237 := ⟨jm_tbl_mem (jm_p7 (List.mem_of_getElem? (i := 140) rfl)) rfl, jm_tbl_mem (jm_p1 (List.mem_of_getElem? (i := 18) (by decide +kernel))) (by decide +kernel), by decide +kernel, ⟨by decide +kernel, by decide +kernel⟩, by decide +kernel, by decide, fun h => absurd h (by decide), fun _ => ⟨jm_tbl_mem (jm_p7 (List.mem_of_getElem? (i := 138) (by decide +kernel))) (by decide +kernel), jm_tbl_mem (jm_p7 (List.mem_of_getElem? (i := 139) (by decide +kernel))) (by decide +kernel), Or.inr rfl⟩, fun h => absurd h (by decide), by decide +kernel⟩
theorem jm_M238_k0 : jm_rck jm_YN jm_M238 0 jm_M238_r0 = true := by decide +kernel
theorem jm_M238_k1 : jm_rck jm_YN jm_M238 16 jm_M238_r1 = true := by decide +kernel
theorem jm_M238_k2 : jm_rck jm_YN jm_M238 32 jm_M238_r2 = true := by decide +kernel
theorem jm_M238_k3 : jm_rck jm_YN jm_M238 48 jm_M238_r3 = true := by decide +kernel
theorem jm_M238_k4 : jm_rck jm_YN jm_M238 64 jm_M238_r4 = true := by decide +kernel
theorem jm_M238_k5 : jm_rck jm_YN jm_M238 80 jm_M238_r5 = true := by decide +kernel
theorem jm_M238_k6 : jm_rck jm_YN jm_M238 96 jm_M238_r6 = true := by decide +kernel
theorem jm_M238_k7 : jm_rck jm_YN jm_M238 112 jm_M238_r7 = true := by decide +kernel
theorem jm_M238_k8 : jm_rck jm_YN jm_M238 128 jm_M238_r8 = true := by decide +kernel
theorem jm_M238_k9 : jm_rck jm_YN jm_M238 144 jm_M238_r9 = true := by decide +kernel
theorem jm_M238_k10 : jm_rck jm_YN jm_M238 160 jm_M238_r10 = true := by decide +kernel
theorem jm_M238_k11 : jm_rck jm_YN jm_M238 176 jm_M238_r11 = true := by decide +kernel
theorem jm_M238_k12 : jm_rck jm_YN jm_M238 192 jm_M238_r12 = true := by decide +kernel
theorem jm_M238_k13 : jm_rck jm_YN jm_M238 208 jm_M238_r13 = true := by decide +kernel
theorem jm_M238_k14 : jm_rck jm_YN jm_M238 224 jm_M238_r14 = true := by decide +kernel
theorem jm_M238_k15 : jm_rck jm_YN jm_M238 240 jm_M238_r15 = true := by decide +kernel
theorem jm_M238_k16 : jm_rck jm_YN jm_M238 256 jm_M238_r16 = true := by decide +kernel
theorem jm_M238_k17 : jm_rck jm_YN jm_M238 272 jm_M238_r17 = true := by decide +kernel
theorem jm_M238_k18 : jm_rck jm_YN jm_M238 288 jm_M238_r18 = true := by decide +kernel
theorem jm_M238_k19 : jm_rck jm_YN jm_M238 304 jm_M238_r19 = true := by decide +kernel
theorem jm_M238_k20 : jm_rck jm_YN jm_M238 320 jm_M238_r20 = true := by decide +kernel
theorem jm_M238_k21 : jm_rck jm_YN jm_M238 336 jm_M238_r21 = true := by decide +kernel
theorem jm_M238_k22 : jm_rck jm_YN jm_M238 352 jm_M238_r22 = true := by decide +kernel
theorem jm_M238_k : jm_tck jm_YN jm_M238 0 (jm_tb jm_M238) = true := jm_tck_cons jm_M238_k0 (jm_tck_cons jm_M238_k1 (jm_tck_cons jm_M238_k2 (jm_tck_cons jm_M238_k3 (jm_tck_cons jm_M238_k4 (jm_tck_cons jm_M238_k5 (jm_tck_cons jm_M238_k6 (jm_tck_cons jm_M238_k7 (jm_tck_cons jm_M238_k8 (jm_tck_cons jm_M238_k9 (jm_tck_cons jm_M238_k10 (jm_tck_cons jm_M238_k11 (jm_tck_cons jm_M238_k12 (jm_tck_cons jm_M238_k13 (jm_tck_cons jm_M238_k14 (jm_tck_cons jm_M238_k15 (jm_tck_cons jm_M238_k16 (jm_tck_cons jm_M238_k17 (jm_tck_cons jm_M238_k18 (jm_tck_cons jm_M238_k19 (jm_tck_cons jm_M238_k20 (jm_tck_cons jm_M238_k21 (jm_tck_cons jm_M238_k22 (rfl)))))))))))))))))))))))
theorem jm_ok238 : jm_ok jm_YN jm_M238 := ⟨jm_tbl_mem (jm_p7 (List.mem_of_getElem? (i := 144) rfl)) rfl, jm_tbl_mem (jm_p1 (List.mem_of_getElem? (i := 18) (by decide +kernel))) (by decide +kernel), by decide +kernel, ⟨by decide +kernel, by decide +kernel⟩, by decide +kernel, by decide, fun h => absurd h (by decide), fun _ => ⟨jm_tbl_mem (jm_p7 (List.mem_of_getElem? (i := 142) (by decide +kernel))) (by decide +kernel), jm_tbl_mem (jm_p7 (List.mem_of_getElem? (i := 143) (by decide +kernel))) (by decide +kernel), Or.inr rfl⟩, fun h => absurd h (by decide), jm_M238_k⟩
theorem jm_ok239 : jm_ok jm_YN jm_M239 := ⟨jm_tbl_mem (jm_p3 (List.mem_of_getElem? (i := 197) rfl)) rfl, jm_tbl_mem (jm_p1 (List.mem_of_getElem? (i := 19) (by decide +kernel))) (by decide +kernel), by decide +kernel, ⟨by decide +kernel, by decide +kernel⟩, by decide +kernel, by decide, fun _ => jm_tbl_mem (jm_p3 (List.mem_of_getElem? (i := 196) (by decide +kernel))) (by decide +kernel), fun h => absurd h (by decide), fun h => absurd h (by decide), by decide +kernel⟩
theorem jm_ok240 : jm_ok jm_YN jm_M240 := ⟨jm_tbl_mem (jm_p4 (List.mem_of_getElem? (i := 31) rfl)) rfl, jm_tbl_mem (jm_p1 (List.mem_of_getElem? (i := 17) (by decide +kernel))) (by decide +kernel), by decide +kernel, ⟨by decide +kernel, by decide +kernel⟩, by decide +kernel, by decide, fun _ => jm_tbl_mem (jm_p4 (List.mem_of_getElem? (i := 30) (by decide +kernel))) (by decide +kernel), fun h => absurd h (by decide), fun h => absurd h (by decide), by decide +kernel⟩
theorem jm_ok241 : jm_ok jm_YN jm_M241 := ⟨jm_tbl_mem (jm_p2 (List.mem_of_getElem? (i := 197) rfl)) rfl, jm_tbl_mem (jm_p1 (List.mem_of_getElem? (i := 17) (by decide +kernel))) (by decide +kernel), by decide +kernel, ⟨by decide +kernel, by decide +kernel⟩, by decide +kernel, by decide, fun _ => jm_tbl_mem (jm_p2 (List.mem_of_getElem? (i := 196) (by decide +kernel))) (by decide +kernel), fun h => absurd h (by decide), fun h => absurd h (by decide), by decide +kernel⟩
theorem jm_ok242 : jm_ok jm_YN jm_M242 := ⟨jm_tbl_mem (jm_p4 (List.mem_of_getElem? (i := 104) rfl)) rfl, jm_tbl_mem (jm_p1 (List.mem_of_getElem? (i := 17) (by decide +kernel))) (by decide +kernel), by decide +kernel, ⟨by decide +kernel, by decide +kernel⟩, by decide +kernel, by decide, fun _ => jm_tbl_mem (jm_p4 (List.mem_of_getElem? (i := 103) (by decide +kernel))) (by decide +kernel), fun h => absurd h (by decide), fun h => absurd h (by decide), by decide +kernel⟩
theorem jm_ok243 : jm_ok jm_YN jm_M243 := ⟨jm_tbl_mem (jm_p2 (List.mem_of_getElem? (i := 194) rfl)) rfl, jm_tbl_mem (jm_p1 (List.mem_of_getElem? (i := 17) (by decide +kernel))) (by decide +kernel), by decide +kernel, ⟨by decide +kernel, by decide +kernel⟩, by decide +kernel, by decide, fun _ => jm_tbl_mem (jm_p2 (List.mem_of_getElem? (i := 193) (by decide +kernel))) (by decide +kernel), fun h => absurd h (by decide), fun h => absurd h (by decide), by decide +kernel⟩
theorem jm_ok244 : jm_ok jm_YN jm_M244 := ⟨jm_tbl_mem (jm_p1 (List.mem_of_getElem? (i := 147) rfl)) rfl, jm_tbl_mem (jm_p1 (List.mem_of_getElem? (i := 5) (by decide +kernel))) (by decide +kernel), by decide +kernel, ⟨by decide +kernel, by decide +kernel⟩, by decide +kernel, by decide, fun h => absurd h (by decide), fun _ => ⟨jm_tbl_mem (jm_p1 (List.mem_of_getElem? (i := 145) (by decide +kernel))) (by decide +kernel), jm_tbl_mem (jm_p1 (List.mem_of_getElem? (i := 146) (by decide +kernel))) (by decide +kernel), Or.inl ⟨rfl, rfl⟩⟩, fun h => absurd h (by decide), by decide +kernel⟩
theorem jm_ok245 : jm_ok jm_YN jm_M245 := ⟨jm_tbl_mem (jm_p1 (List.mem_of_getElem? (i := 157) rfl)) rfl, jm_tbl_mem (jm_p1 (List.mem_of_getElem? (i := 5) (by decide +kernel))) (by decide +kernel), by decide +kernel, ⟨by decide +kernel, by decide +kernel⟩, by decide +kernel, by decide, fun h => absurd h (by decide), fun _ => ⟨jm_tbl_mem (jm_p1 (List.mem_of_getElem? (i := 155) (by decide +kernel))) (by decide +kernel), jm_tbl_mem (jm_p1 (List.mem_of_getElem? (i := 156) (by decide +kernel))) (by decide +kernel), Or.inl ⟨rfl, rfl⟩⟩, fun h => absurd h (by decide), by decide +kernel⟩
theorem jm_ok246 : jm_ok jm_YN jm_M246 := ⟨jm_tbl_mem (jm_p1 (List.mem_of_getElem? (i := 151) rfl)) rfl, jm_tbl_mem (jm_p1 (List.mem_of_getElem? (i := 5) (by decide +kernel))) (by decide +kernel), by decide +kernel, ⟨by decide +kernel, by decide +kernel⟩, by decide +kernel, by decide, fun h => absurd h (by decide), fun _ => ⟨jm_tbl_mem (jm_p1 (List.mem_of_getElem? (i := 149) (by decide +kernel))) (by decide +kernel), jm_tbl_mem (jm_p1 (List.mem_of_getElem? (i := 150) (by decide +kernel))) (by decide +kernel), Or.inl ⟨rfl, rfl⟩⟩, fun h => absurd h (by decide), by decide +kernel⟩
theorem jm_ok247 : jm_ok jm_YN jm_M247 := ⟨jm_tbl_mem (jm_p1 (List.mem_of_getElem? (i := 161) rfl)) rfl, jm_tbl_mem (jm_p1 (List.mem_of_getElem? (i := 5) (by decide +kernel))) (by decide +kernel), by decide +kernel, ⟨by decide +kernel, by decide +kernel⟩, by decide +kernel, by decide, fun h => absurd h (by decide), fun _ => ⟨jm_tbl_mem (jm_p1 (List.mem_of_getElem? (i := 159) (by decide +kernel))) (by decide +kernel), jm_tbl_mem (jm_p1 (List.mem_of_getElem? (i := 160) (by decide +kernel))) (by decide +kernel), Or.inl ⟨rfl, rfl⟩⟩, fun h => absurd h (by decide), by decide +kernel⟩
theorem jm_ok248 : jm_ok jm_YN jm_M248 := ⟨jm_tbl_mem (jm_p1 (List.mem_of_getElem? (i := 167) rfl)) rfl, jm_tbl_mem (jm_p1 (List.mem_of_getElem? (i := 5) (by decide +kernel))) (by decide +kernel), by decide +kernel, ⟨by decide +kernel, by decide +kernel⟩, by decide +kernel, by decide, fun _ => jm_tbl_mem (jm_p1 (List.mem_of_getElem? (i := 166) (by decide +kernel))) (by decide +kernel), fun h => absurd h (by decide), fun h => absurd h (by decide), by decide +kernel⟩
theorem jm_ok249 : jm_ok jm_YN jm_M249 := ⟨jm_tbl_mem (jm_p1 (List.mem_of_getElem? (i := 164) rfl)) rfl, jm_tbl_mem (jm_p1 (List.mem_of_getElem? (i := 6) (by decide +kernel))) (by decide +kernel), by decide +kernel, ⟨by decide +kernel, by decide +kernel⟩, by decide +kernel, by decide, fun _ => jm_tbl_mem (jm_p1 (List.mem_of_getElem? (i := 163) (by decide +kernel))) (by decide +kernel), fun h => absurd h (by decide), fun h => absurd h (by decide), by decide +kernel⟩
theorem jm_ok250 : jm_ok jm_YN jm_M250 := ⟨jm_tbl_mem (jm_p1 (List.mem_of_getElem? (i := 185) rfl)) rfl, jm_tbl_mem (jm_p1 (List.mem_of_getElem? (i := 8) (by decide +kernel))) (by decide +kernel), by decide +kernel, ⟨by decide +kernel, by decide +kernel⟩, by decide +kernel, by decide, fun _ => jm_tbl_mem (jm_p1 (List.mem_of_getElem? (i := 184) (by decide +kernel))) (by decide +kernel), fun h => absurd h (by decide), fun h => absurd h (by decide), by decide +kernel⟩
theorem jm_ok251 : jm_ok jm_YN jm_M251 := ⟨jm_tbl_mem (jm_p1 (List.mem_of_getElem? (i := 181) rfl)) rfl, jm_tbl_mem (jm_p1 (List.mem_of_getElem? (i := 8) (by decide +kernel))) (by decide +kernel), by decide +kernel, ⟨by decide +kernel, by decide +kernel⟩, by decide +kernel, by decide, fun _ => jm_tbl_mem (jm_p1 (List.mem_of_getElem? (i := 180) (by decide +kernel))) (by decide +kernel), fun h => absurd h (by decide), fun h => absurd h (by decide), by decide +kernel⟩
theorem jm_ok252 : jm_ok jm_YN jm_M252 := ⟨jm_tbl_mem (jm_p1 (List.mem_of_getElem? (i := 175) rfl)) rfl, jm_tbl_mem (jm_p1 (List.mem_of_getElem? (i := 8) (by decide +kernel))) (by decide +kernel), by decide +kernel, ⟨by decide +kernel, by decide +kernel⟩, by decide +kernel, by decide, fun _ => jm_tbl_mem (jm_p1 (List.mem_of_getElem? (i := 174) (by decide +kernel))) (by decide +kernel), fun h => absurd h (by decide), fun h => absurd h (by decide), by decide +kernel⟩
theorem jm_ok253 : jm_ok jm_YN jm_M253 := ⟨jm_tbl_mem (jm_p1 (List.mem_of_getElem? (i := 178) rfl)) rfl, jm_tbl_mem (jm_p1 (List.mem_of_getElem? (i := 8) (by decide +kernel))) (by decide +kernel), by decide +kernel, ⟨by decide +kernel, by decide +kernel⟩, by decide +kernel, by decide, fun _ => jm_tbl_mem (jm_p1 (List.mem_of_getElem? (i := 177) (by decide +kernel))) (by decide +kernel), fun h => absurd h (by decide), fun h => absurd h (by decide), by decide +kernel⟩
theorem jm_ok254 : jm_ok jm_YN jm_M254 := ⟨jm_tbl_mem (jm_p2 (List.mem_of_getElem? (i := 165) rfl)) rfl, jm_tbl_mem (jm_p1 (List.mem_of_getElem? (i := 16) (by decide +kernel))) (by decide +kernel), by decide +kernel, ⟨by decide +kernel, by decide +kernel⟩, by decide +kernel, by decide, fun _ => jm_tbl_mem (jm_p2 (List.mem_of_getElem? (i := 164) (by decide +kernel))) (by decide +kernel), fun h => absurd h (by decide), fun h => absurd h (by decide), by decide +kernel⟩
theorem jm_ok255 : jm_ok jm_YN jm_M255 := ⟨jm_tbl_mem (jm_p1 (List.mem_of_getElem? (i := 172) rfl)) rfl, jm_tbl_mem (jm_p1 (List.mem_of_getElem? (i := 7) (by decide +kernel))) (by decide +kernel), by decide +kernel, ⟨by decide +kernel, by decide +kernel⟩, by decide +kernel, by decide, fun _ => jm_tbl_mem (jm_p1 (List.mem_of_getElem? (i := 171) (by decide +kernel))) (by decide +kernel), fun h => absurd h (by decide), fun h => absurd h (by decide), by decide +kernel⟩
end
section
/-! ===== rows that hold ===== -/
end
section
/-! ===== the law is decoded ===== -/
theorem jm_ML_k0 : jm_rck jm_YN jm_ML 0 jm_ML_r0 = true := by decide +kernel
theorem jm_ML_k1 : jm_rck jm_YN jm_ML 16 jm_ML_r1 = true := by decide +kernel
theorem jm_ML_k2 : jm_rck jm_YN jm_ML 32 jm_ML_r2 = true := by decide +kernel
theorem jm_ML_k3 : jm_rck jm_YN jm_ML 48 jm_ML_r3 = true := by decide +kernel
theorem jm_ML_k4 : jm_rck jm_YN jm_ML 64 jm_ML_r4 = true := by decide +kernel
theorem jm_ML_k5 : jm_rck jm_YN jm_ML 80 jm_ML_r5 = true := by decide +kernel
theorem jm_ML_k6 : jm_rck jm_YN jm_ML 96 jm_ML_r6 = true := by decide +kernel
theorem jm_ML_k7 : jm_rck jm_YN jm_ML 112 jm_ML_r7 = true := by decide +kernel
theorem jm_ML_k8 : jm_rck jm_YN jm_ML 128 jm_ML_r8 = true := by decide +kernel
theorem jm_ML_k9 : jm_rck jm_YN jm_ML 144 jm_ML_r9 = true := by decide +kernel
theorem jm_ML_k10 : jm_rck jm_YN jm_ML 160 jm_ML_r10 = true := by decide +kernel
theorem jm_ML_k11 : jm_rck jm_YN jm_ML 176 jm_ML_r11 = true := by decide +kernel
theorem jm_ML_k12 : jm_rck jm_YN jm_ML 192 jm_ML_r12 = true := by decide +kernel
theorem jm_ML_k13 : jm_rck jm_YN jm_ML 208 jm_ML_r13 = true := by decide +kernel
theorem jm_ML_k14 : jm_rck jm_YN jm_ML 224 jm_ML_r14 = true := by decide +kernel
theorem jm_ML_k15 : jm_rck jm_YN jm_ML 240 jm_ML_r15 = true := by decide +kernel
theorem jm_ML_k16 : jm_rck jm_YN jm_ML 256 jm_ML_r16 = true := by decide +kernel
theorem jm_ML_k17 : jm_rck jm_YN jm_ML 272 jm_ML_r17 = true := by decide +kernel
theorem jm_ML_k18 : jm_rck jm_YN jm_ML 288 jm_ML_r18 = true := by decide +kernel
theorem jm_ML_k19 : jm_rck jm_YN jm_ML 304 jm_ML_r19 = true := by decide +kernel
theorem jm_ML_k20 : jm_rck jm_YN jm_ML 320 jm_ML_r20 = true := by decide +kernel
theorem jm_ML_k21 : jm_rck jm_YN jm_ML 336 jm_ML_r21 = true := by decide +kernel
theorem jm_ML_k22 : jm_rck jm_YN jm_ML 352 jm_ML_r22 = true := by decide +kernel
theorem jm_ML_k23 : jm_rck jm_YN jm_ML 368 jm_ML_r23 = true := by decide +kernel
theorem jm_ML_k24 : jm_rck jm_YN jm_ML 384 jm_ML_r24 = true := by decide +kernel
theorem jm_ML_k25 : jm_rck jm_YN jm_ML 400 jm_ML_r25 = true := by decide +kernel
theorem jm_ML_k26 : jm_rck jm_YN jm_ML 416 jm_ML_r26 = true := by decide +kernel
theorem jm_ML_k27 : jm_rck jm_YN jm_ML 432 jm_ML_r27 = true := by decide +kernel
theorem jm_ML_k28 : jm_rck jm_YN jm_ML 448 jm_ML_r28 = true := by decide +kernel
theorem jm_ML_k29 : jm_rck jm_YN jm_ML 464 jm_ML_r29 = true := by decide +kernel
theorem jm_ML_k30 : jm_rck jm_YN jm_ML 480 jm_ML_r30 = true := by decide +kernel
theorem jm_ML_k31 : jm_rck jm_YN jm_ML 496 jm_ML_r31 = true := by decide +kernel
theorem jm_ML_k32 : jm_rck jm_YN jm_ML 512 jm_ML_r32 = true := by decide +kernel
theorem jm_ML_k33 : jm_rck jm_YN jm_ML 528 jm_ML_r33 = true := by decide +kernel
theorem jm_ML_k34 : jm_rck jm_YN jm_ML 544 jm_ML_r34 = true := by decide +kernel
theorem jm_ML_k35 : jm_rck jm_YN jm_ML 560 jm_ML_r35 = true := by decide +kernel
theorem jm_ML_k36 : jm_rck jm_YN jm_ML 576 jm_ML_r36 = true := by decide +kernel
theorem jm_ML_k37 : jm_rck jm_YN jm_ML 592 jm_ML_r37 = true := by decide +kernel
theorem jm_ML_k38 : jm_rck jm_YN jm_ML 608 jm_ML_r38 = true := by decide +kernel
theorem jm_ML_k39 : jm_rck jm_YN jm_ML 624 jm_ML_r39 = true := by decide +kernel
theorem jm_ML_k40 : jm_rck jm_YN jm_ML 640 jm_ML_r40 = true := by decide +kernel
theorem jm_ML_k41 : jm_rck jm_YN jm_ML 656 jm_ML_r41 = true := by decide +kernel
theorem jm_ML_k42 : jm_rck jm_YN jm_ML 672 jm_ML_r42 = true := by decide +kernel
theorem jm_ML_k43 : jm_rck jm_YN jm_ML 688 jm_ML_r43 = true := by decide +kernel
theorem jm_ML_k44 : jm_rck jm_YN jm_ML 704 jm_ML_r44 = true := by decide +kernel
theorem jm_ML_k45 : jm_rck jm_YN jm_ML 720 jm_ML_r45 = true := by decide +kernel
theorem jm_ML_k46 : jm_rck jm_YN jm_ML 736 jm_ML_r46 = true := by decide +kernel
theorem jm_ML_k47 : jm_rck jm_YN jm_ML 752 jm_ML_r47 = true := by decide +kernel
theorem jm_ML_k48 : jm_rck jm_YN jm_ML 768 jm_ML_r48 = true := by decide +kernel
theorem jm_ML_k49 : jm_rck jm_YN jm_ML 784 jm_ML_r49 = true := by decide +kernel
theorem jm_ML_k50 : jm_rck jm_YN jm_ML 800 jm_ML_r50 = true := by decide +kernel
theorem jm_ML_k51 : jm_rck jm_YN jm_ML 816 jm_ML_r51 = true := by decide +kernel
theorem jm_ML_k52 : jm_rck jm_YN jm_ML 832 jm_ML_r52 = true := by decide +kernel
theorem jm_ML_k53 : jm_rck jm_YN jm_ML 848 jm_ML_r53 = true := by decide +kernel
theorem jm_ML_k54 : jm_rck jm_YN jm_ML 864 jm_ML_r54 = true := by decide +kernel
theorem jm_ML_k55 : jm_rck jm_YN jm_ML 880 jm_ML_r55 = true := by decide +kernel
theorem jm_ML_k56 : jm_rck jm_YN jm_ML 896 jm_ML_r56 = true := by decide +kernel
theorem jm_ML_k57 : jm_rck jm_YN jm_ML 912 jm_ML_r57 = true := by decide +kernel
theorem jm_ML_k58 : jm_rck jm_YN jm_ML 928 jm_ML_r58 = true := by decide +kernel
theorem jm_ML_k59 : jm_rck jm_YN jm_ML 944 jm_ML_r59 = true := by decide +kernel
theorem jm_ML_k60 : jm_rck jm_YN jm_ML 960 jm_ML_r60 = true := by decide +kernel
theorem jm_ML_k61 : jm_rck jm_YN jm_ML 976 jm_ML_r61 = true := by decide +kernel
theorem jm_ML_k62 : jm_rck jm_YN jm_ML 992 jm_ML_r62 = true := by decide +kernel
theorem jm_ML_k63 : jm_rck jm_YN jm_ML 1008 jm_ML_r63 = true := by decide +kernel
theorem jm_ML_k64 : jm_rck jm_YN jm_ML 1024 jm_ML_r64 = true := by decide +kernel
theorem jm_ML_k65 : jm_rck jm_YN jm_ML 1040 jm_ML_r65 = true := by decide +kernel
theorem jm_ML_k66 : jm_rck jm_YN jm_ML 1056 jm_ML_r66 = true := by decide +kernel
theorem jm_ML_k67 : jm_rck jm_YN jm_ML 1072 jm_ML_r67 = true := by decide +kernel
theorem jm_ML_k68 : jm_rck jm_YN jm_ML 1088 jm_ML_r68 = true := by decide +kernel
theorem jm_ML_k69 : jm_rck jm_YN jm_ML 1104 jm_ML_r69 = true := by decide +kernel
theorem jm_ML_k70 : jm_rck jm_YN jm_ML 1120 jm_ML_r70 = true := by decide +kernel
theorem jm_ML_k71 : jm_rck jm_YN jm_ML 1136 jm_ML_r71 = true := by decide +kernel
theorem jm_ML_k72 : jm_rck jm_YN jm_ML 1152 jm_ML_r72 = true := by decide +kernel
theorem jm_ML_k73 : jm_rck jm_YN jm_ML 1168 jm_ML_r73 = true := by decide +kernel
theorem jm_ML_k74 : jm_rck jm_YN jm_ML 1184 jm_ML_r74 = true := by decide +kernel
theorem jm_ML_k75 : jm_rck jm_YN jm_ML 1200 jm_ML_r75 = true := by decide +kernel
theorem jm_ML_k76 : jm_rck jm_YN jm_ML 1216 jm_ML_r76 = true := by decide +kernel
theorem jm_ML_k77 : jm_rck jm_YN jm_ML 1232 jm_ML_r77 = true := by decide +kernel
theorem jm_ML_k78 : jm_rck jm_YN jm_ML 1248 jm_ML_r78 = true := by decide +kernel
theorem jm_ML_k79 : jm_rck jm_YN jm_ML 1264 jm_ML_r79 = true := by decide +kernel
theorem jm_lawck : jm_tck jm_YN jm_ML 0 (jm_tb jm_ML) = true := jm_tck_cons jm_ML_k0 (jm_tck_cons jm_ML_k1 (jm_tck_cons jm_ML_k2 (jm_tck_cons jm_ML_k3 (jm_tck_cons jm_ML_k4 (jm_tck_cons jm_ML_k5 (jm_tck_cons jm_ML_k6 (jm_tck_cons jm_ML_k7 (jm_tck_cons jm_ML_k8 (jm_tck_cons jm_ML_k9 (jm_tck_cons jm_ML_k10 (jm_tck_cons jm_ML_k11 (jm_tck_cons jm_ML_k12 (jm_tck_cons jm_ML_k13 (jm_tck_cons jm_ML_k14 (jm_tck_cons jm_ML_k15 (jm_tck_cons jm_ML_k16 (jm_tck_cons jm_ML_k17 (jm_tck_cons jm_ML_k18 (jm_tck_cons jm_ML_k19 (jm_tck_cons jm_ML_k20 (jm_tck_cons jm_ML_k21 (jm_tck_cons jm_ML_k22 (jm_tck_cons jm_ML_k23 (jm_tck_cons jm_ML_k24 (jm_tck_cons jm_ML_k25 (jm_tck_cons jm_ML_k26 (jm_tck_cons jm_ML_k27 (jm_tck_cons jm_ML_k28 (jm_tck_cons jm_ML_k29 (jm_tck_cons jm_ML_k30 (jm_tck_cons jm_ML_k31 (jm_tck_cons jm_ML_k32 (jm_tck_cons jm_ML_k33 (jm_tck_cons jm_ML_k34 (jm_tck_cons jm_ML_k35 (jm_tck_cons jm_ML_k36 (jm_tck_cons jm_ML_k37 (jm_tck_cons jm_ML_k38 (jm_tck_cons jm_ML_k39 (jm_tck_cons jm_ML_k40 (jm_tck_cons jm_ML_k41 (jm_tck_cons jm_ML_k42 (jm_tck_cons jm_ML_k43 (jm_tck_cons jm_ML_k44 (jm_tck_cons jm_ML_k45 (jm_tck_cons jm_ML_k46 (jm_tck_cons jm_ML_k47 (jm_tck_cons jm_ML_k48 (jm_tck_cons jm_ML_k49 (jm_tck_cons jm_ML_k50 (jm_tck_cons jm_ML_k51 (jm_tck_cons jm_ML_k52 (jm_tck_cons jm_ML_k53 (jm_tck_cons jm_ML_k54 (jm_tck_cons jm_ML_k55 (jm_tck_cons jm_ML_k56 (jm_tck_cons jm_ML_k57 (jm_tck_cons jm_ML_k58 (jm_tck_cons jm_ML_k59 (jm_tck_cons jm_ML_k60 (jm_tck_cons jm_ML_k61 (jm_tck_cons jm_ML_k62 (jm_tck_cons jm_ML_k63 (jm_tck_cons jm_ML_k64 (jm_tck_cons jm_ML_k65 (jm_tck_cons jm_ML_k66 (jm_tck_cons jm_ML_k67 (jm_tck_cons jm_ML_k68 (jm_tck_cons jm_ML_k69 (jm_tck_cons jm_ML_k70 (jm_tck_cons jm_ML_k71 (jm_tck_cons jm_ML_k72 (jm_tck_cons jm_ML_k73 (jm_tck_cons jm_ML_k74 (jm_tck_cons jm_ML_k75 (jm_tck_cons jm_ML_k76 (jm_tck_cons jm_ML_k77 (jm_tck_cons jm_ML_k78 (jm_tck_cons jm_ML_k79 (rfl))))))))))))))))))))))))))))))))))))))))))))))))))))))))))))))))))))))))))))))))
end
section
/-! ===== every method of the list ===== -/
theorem jm_okr0 : ∀ M ∈ [jm_M0, jm_M1, jm_M2, jm_M3, jm_M4, jm_M5, jm_M6, jm_M7, jm_M8, jm_M9, jm_M10, jm_M11, jm_M12, jm_M13, jm_M14, jm_M15], jm_ok jm_YN M := List.forall_mem_cons.mpr ⟨jm_ok0, List.forall_mem_cons.mpr ⟨jm_ok1, List.forall_mem_cons.mpr ⟨jm_ok2, List.forall_mem_cons.mpr ⟨jm_ok3, List.forall_mem_cons.mpr ⟨jm_ok4, List.forall_mem_cons.mpr ⟨jm_ok5, List.forall_mem_cons.mpr ⟨jm_ok6, List.forall_mem_cons.mpr ⟨jm_ok7, List.forall_mem_cons.mpr ⟨jm_ok8, List.forall_mem_cons.mpr ⟨jm_ok9, List.forall_mem_cons.mpr ⟨jm_ok10, List.forall_mem_cons.mpr ⟨jm_ok11, List.forall_mem_cons.mpr ⟨jm_ok12, List.forall_mem_cons.mpr ⟨jm_ok13, List.forall_mem_cons.mpr ⟨jm_ok14, List.forall_mem_cons.mpr ⟨jm_ok15, fun _ h => absurd h List.not_mem_nil⟩⟩⟩⟩⟩⟩⟩⟩⟩⟩⟩⟩⟩⟩⟩⟩
theorem jm_okr1 : ∀ M ∈ [jm_M16, jm_M17, jm_M18, jm_M19, jm_M20, jm_M21, jm_M22, jm_M23, jm_M24, jm_M25, jm_M26, jm_M27, jm_M28, jm_M29, jm_M30, jm_M31], jm_ok jm_YN M := List.forall_mem_cons.mpr ⟨jm_ok16, List.forall_mem_cons.mpr ⟨jm_ok17, List.forall_mem_cons.mpr ⟨jm_ok18, List.forall_mem_cons.mpr ⟨jm_ok19, List.forall_mem_cons.mpr ⟨jm_ok20, List.forall_mem_cons.mpr ⟨jm_ok21, List.forall_mem_cons.mpr ⟨jm_ok22, List.forall_mem_cons.mpr ⟨jm_ok23, List.forall_mem_cons.mpr ⟨jm_ok24, List.forall_mem_cons.mpr ⟨jm_ok25, List.forall_mem_cons.mpr ⟨jm_ok26, List.forall_mem_cons.mpr ⟨jm_ok27, List.forall_mem_cons.mpr ⟨jm_ok28, List.forall_mem_cons.mpr ⟨jm_ok29, List.forall_mem_cons.mpr ⟨jm_ok30, List.forall_mem_cons.mpr ⟨jm_ok31, fun _ h => absurd h List.not_mem_nil⟩⟩⟩⟩⟩⟩⟩⟩⟩⟩⟩⟩⟩⟩⟩⟩
theorem jm_okr2 : ∀ M ∈ [jm_M32, jm_M33, jm_M34, jm_M35, jm_M36, jm_M37, jm_M38, jm_M39, jm_M40, jm_M41, jm_M42, jm_M43, jm_M44, jm_M45, jm_M46, jm_M47], jm_ok jm_YN M := List.forall_mem_cons.mpr ⟨jm_ok32, List.forall_mem_cons.mpr ⟨jm_ok33, List.forall_mem_cons.mpr ⟨jm_ok34, List.forall_mem_cons.mpr ⟨jm_ok35, List.forall_mem_cons.mpr ⟨jm_ok36, List.forall_mem_cons.mpr ⟨jm_ok37, List.forall_mem_cons.mpr ⟨jm_ok38, List.forall_mem_cons.mpr ⟨jm_ok39, List.forall_mem_cons.mpr ⟨jm_ok40, List.forall_mem_cons.mpr ⟨jm_ok41, List.forall_mem_cons.mpr ⟨jm_ok42, List.forall_mem_cons.mpr ⟨jm_ok43, List.forall_mem_cons.mpr ⟨jm_ok44, List.forall_mem_cons.mpr ⟨jm_ok45, List.forall_mem_cons.mpr ⟨jm_ok46, List.forall_mem_cons.mpr ⟨jm_ok47, fun _ h => absurd h List.not_mem_nil⟩⟩⟩⟩⟩⟩⟩⟩⟩⟩⟩⟩⟩⟩⟩⟩
theorem jm_okr3 : ∀ M ∈ [jm_M48, jm_M49, jm_M50, jm_M51, jm_M52, jm_M53, jm_M54, jm_M55, jm_M56, jm_M57, jm_M58, jm_M59, jm_M60, jm_M61, jm_M62, jm_M63], jm_ok jm_YN M := List.forall_mem_cons.mpr ⟨jm_ok48, List.forall_mem_cons.mpr ⟨jm_ok49, List.forall_mem_cons.mpr ⟨jm_ok50, List.forall_mem_cons.mpr ⟨jm_ok51, List.forall_mem_cons.mpr ⟨jm_ok52, List.forall_mem_cons.mpr ⟨jm_ok53, List.forall_mem_cons.mpr ⟨jm_ok54, List.forall_mem_cons.mpr ⟨jm_ok55, List.forall_mem_cons.mpr ⟨jm_ok56, List.forall_mem_cons.mpr ⟨jm_ok57, List.forall_mem_cons.mpr ⟨jm_ok58, List.forall_mem_cons.mpr ⟨jm_ok59, List.forall_mem_cons.mpr ⟨jm_ok60, List.forall_mem_cons.mpr ⟨jm_ok61, List.forall_mem_cons.mpr ⟨jm_ok62, List.forall_mem_cons.mpr ⟨jm_ok63, fun _ h => absurd h List.not_mem_nil⟩⟩⟩⟩⟩⟩⟩⟩⟩⟩⟩⟩⟩⟩⟩⟩
theorem jm_okr4 : ∀ M ∈ [jm_M64, jm_M65, jm_M66, jm_M67, jm_M68, jm_M69, jm_M70, jm_M71, jm_M72, jm_M73, jm_M74, jm_M75, jm_M76, jm_M77, jm_M78, jm_M79], jm_ok jm_YN M := List.forall_mem_cons.mpr ⟨jm_ok64, List.forall_mem_cons.mpr ⟨jm_ok65, List.forall_mem_cons.mpr ⟨jm_ok66, List.forall_mem_cons.mpr ⟨jm_ok67, List.forall_mem_cons.mpr ⟨jm_ok68, List.forall_mem_cons.mpr ⟨jm_ok69, List.forall_mem_cons.mpr ⟨jm_ok70, List.forall_mem_cons.mpr ⟨jm_ok71, List.forall_mem_cons.mpr ⟨jm_ok72, List.forall_mem_cons.mpr ⟨jm_ok73, List.forall_mem_cons.mpr ⟨jm_ok74, List.forall_mem_cons.mpr ⟨jm_ok75, List.forall_mem_cons.mpr ⟨jm_ok76, List.forall_mem_cons.mpr ⟨jm_ok77, List.forall_mem_cons.mpr ⟨jm_ok78, List.forall_mem_cons.mpr ⟨jm_ok79, fun _ h => absurd h List.not_mem_nil⟩⟩⟩⟩⟩⟩⟩⟩⟩⟩⟩⟩⟩⟩⟩⟩
theorem jm_okr5 : ∀ M ∈ [jm_M80, jm_M81, jm_M82, jm_M83, jm_M84, jm_M85, jm_M86, jm_M87, jm_M88, jm_M89, jm_M90, jm_M91, jm_M92, jm_M93, jm_M94, jm_M95], jm_ok jm_YN M := List.forall_mem_cons.mpr ⟨jm_ok80, List.forall_mem_cons.mpr ⟨jm_ok81, List.forall_mem_cons.mpr ⟨jm_ok82, List.forall_mem_cons.mpr ⟨jm_ok83, List.forall_mem_cons.mpr ⟨jm_ok84, List.forall_mem_cons.mpr ⟨jm_ok85, List.forall_mem_cons.mpr ⟨jm_ok86, List.forall_mem_cons.mpr ⟨jm_ok87, List.forall_mem_cons.mpr ⟨jm_ok88, List.forall_mem_cons.mpr ⟨jm_ok89, List.forall_mem_cons.mpr ⟨jm_ok90, List.forall_mem_cons.mpr ⟨jm_ok91, List.forall_mem_cons.mpr ⟨jm_ok92, List.forall_mem_cons.mpr ⟨jm_ok93, List.forall_mem_cons.mpr ⟨jm_ok94, List.forall_mem_cons.mpr ⟨jm_ok95, fun _ h => absurd h List.not_mem_nil⟩⟩⟩⟩⟩⟩⟩⟩⟩⟩⟩⟩⟩⟩⟩⟩
theorem jm_okr6 : ∀ M ∈ [jm_M96, jm_M97, jm_M98, jm_M99, jm_M100, jm_M101, jm_M102, jm_M103, jm_M104, jm_M105, jm_M106, jm_M107, jm_M108, jm_M109, jm_M110, jm_M111], jm_ok jm_YN M := List.forall_mem_cons.mpr ⟨jm_ok96, List.forall_mem_cons.mpr ⟨jm_ok97, List.forall_mem_cons.mpr ⟨jm_ok98, List.forall_mem_cons.mpr ⟨jm_ok99, List.forall_mem_cons.mpr ⟨jm_ok100, List.forall_mem_cons.mpr ⟨jm_ok101, List.forall_mem_cons.mpr ⟨jm_ok102, List.forall_mem_cons.mpr ⟨jm_ok103, List.forall_mem_cons.mpr ⟨jm_ok104, List.forall_mem_cons.mpr ⟨jm_ok105, List.forall_mem_cons.mpr ⟨jm_ok106, List.forall_mem_cons.mpr ⟨jm_ok107, List.forall_mem_cons.mpr ⟨jm_ok108, List.forall_mem_cons.mpr ⟨jm_ok109, List.forall_mem_cons.mpr ⟨jm_ok110, List.forall_mem_cons.mpr ⟨jm_ok111, fun _ h => absurd h List.not_mem_nil⟩⟩⟩⟩⟩⟩⟩⟩⟩⟩⟩⟩⟩⟩⟩⟩
theorem jm_okr7 : ∀ M ∈ [jm_M112, jm_M113, jm_M114, jm_M115, jm_M116, jm_M117, jm_M118, jm_M119, jm_M120, jm_M121, jm_M122, jm_M123, jm_M124, jm_M125, jm_M126, jm_M127], jm_ok jm_YN M := List.forall_mem_cons.mpr ⟨jm_ok112, List.forall_mem_cons.mpr ⟨jm_ok113, List.forall_mem_cons.mpr ⟨jm_ok114, List.forall_mem_cons.mpr ⟨jm_ok115, List.forall_mem_cons.mpr ⟨jm_ok116, List.forall_mem_cons.mpr ⟨jm_ok117, List.forall_mem_cons.mpr ⟨jm_ok118, List.forall_mem_cons.mpr ⟨jm_ok119, List.forall_mem_cons.mpr ⟨jm_ok120, List.forall_mem_cons.mpr ⟨jm_ok121, List.forall_mem_cons.mpr ⟨jm_ok122, List.forall_mem_cons.mpr ⟨jm_ok123, List.forall_mem_cons.mpr ⟨jm_ok124, List.forall_mem_cons.mpr ⟨jm_ok125, List.forall_mem_cons.mpr ⟨jm_ok126, List.forall_mem_cons.mpr ⟨jm_ok127, fun _ h => absurd h List.not_mem_nil⟩⟩⟩⟩⟩⟩⟩⟩⟩⟩⟩⟩⟩⟩⟩⟩
theorem jm_okr8 : ∀ M ∈ [jm_M128, jm_M129, jm_M130, jm_M131, jm_M132, jm_M133, jm_M134, jm_M135, jm_M136, jm_M137, jm_M138, jm_M139, jm_M140, jm_M141, jm_M142, jm_M143], jm_ok jm_YN M := List.forall_mem_cons.mpr ⟨jm_ok128, List.forall_mem_cons.mpr ⟨jm_ok129, List.forall_mem_cons.mpr ⟨jm_ok130, List.forall_mem_cons.mpr ⟨jm_ok131, List.forall_mem_cons.mpr ⟨jm_ok132, List.forall_mem_cons.mpr ⟨jm_ok133, List.forall_mem_cons.mpr ⟨jm_ok134, List.forall_mem_cons.mpr ⟨jm_ok135, List.forall_mem_cons.mpr ⟨jm_ok136, List.forall_mem_cons.mpr ⟨jm_ok137, List.forall_mem_cons.mpr ⟨jm_ok138, List.forall_mem_cons.mpr ⟨jm_ok139, List.forall_mem_cons.mpr ⟨jm_ok140, List.forall_mem_cons.mpr ⟨jm_ok141, List.forall_mem_cons.mpr ⟨jm_ok142, List.forall_mem_cons.mpr ⟨jm_ok143, fun _ h => absurd h List.not_mem_nil⟩⟩⟩⟩⟩⟩⟩⟩⟩⟩⟩⟩⟩⟩⟩⟩
theorem jm_okr9 : ∀ M ∈ [jm_M144, jm_M145, jm_M146, jm_M147, jm_M148, jm_M149, jm_M150, jm_M151, jm_M152, jm_M153, jm_M154, jm_M155, jm_M156, jm_M157, jm_M158, jm_M159], jm_ok jm_YN M := List.forall_mem_cons.mpr ⟨jm_ok144, List.forall_mem_cons.mpr ⟨jm_ok145, List.forall_mem_cons.mpr ⟨jm_ok146, List.forall_mem_cons.mpr ⟨jm_ok147, List.forall_mem_cons.mpr ⟨jm_ok148, List.forall_mem_cons.mpr ⟨jm_ok149, List.forall_mem_cons.mpr ⟨jm_ok150, List.forall_mem_cons.mpr ⟨jm_ok151, List.forall_mem_cons.mpr ⟨jm_ok152, List.forall_mem_cons.mpr ⟨jm_ok153, List.forall_mem_cons.mpr ⟨jm_ok154, List.forall_mem_cons.mpr ⟨jm_ok155, List.forall_mem_cons.mpr ⟨jm_ok156, List.forall_mem_cons.mpr ⟨jm_ok157, List.forall_mem_cons.mpr ⟨jm_ok158, List.forall_mem_cons.mpr ⟨jm_ok159, fun _ h => absurd h List.not_mem_nil⟩⟩⟩⟩⟩⟩⟩⟩⟩⟩⟩⟩⟩⟩⟩⟩
theorem jm_okr10 : ∀ M ∈ [jm_M160, jm_M161, jm_M162, jm_M163, jm_M164, jm_M165, jm_M166, jm_M167, jm_M168, jm_M169, jm_M170, jm_M171, jm_M172, jm_M173, jm_M174, jm_M175], jm_ok jm_YN M := List.forall_mem_cons.mpr ⟨jm_ok160, List.forall_mem_cons.mpr ⟨jm_ok161, List.forall_mem_cons.mpr ⟨jm_ok162, List.forall_mem_cons.mpr ⟨jm_ok163, List.forall_mem_cons.mpr ⟨jm_ok164, List.forall_mem_cons.mpr ⟨jm_ok165, List.forall_mem_cons.mpr ⟨jm_ok166, List.forall_mem_cons.mpr ⟨jm_ok167, List.forall_mem_cons.mpr ⟨jm_ok168, List.forall_mem_cons.mpr ⟨jm_ok169, List.forall_mem_cons.mpr ⟨jm_ok170, List.forall_mem_cons.mpr ⟨jm_ok171, List.forall_mem_cons.mpr ⟨jm_ok172, List.forall_mem_cons.mpr ⟨jm_ok173, List.forall_mem_cons.mpr ⟨jm_ok174, List.forall_mem_cons.mpr ⟨jm_ok175, fun _ h => absurd h List.not_mem_nil⟩⟩⟩⟩⟩⟩⟩⟩⟩⟩⟩⟩⟩⟩⟩⟩
theorem jm_okr11 : ∀ M ∈ [jm_M176, jm_M177, jm_M178, jm_M179, jm_M180, jm_M181, jm_M182, jm_M183, jm_M184, jm_M185, jm_M186, jm_M187, jm_M188, jm_M189, jm_M190, jm_M191], jm_ok jm_YN M := List.forall_mem_cons.mpr ⟨jm_ok176, List.forall_mem_cons.mpr ⟨jm_ok177, List.forall_mem_cons.mpr ⟨jm_ok178, List.forall_mem_cons.mpr ⟨jm_ok179, List.forall_mem_cons.mpr ⟨jm_ok180, List.forall_mem_cons.mpr ⟨jm_ok181, List.forall_mem_cons.mpr ⟨jm_ok182, List.forall_mem_cons.mpr ⟨jm_ok183, List.forall_mem_cons.mpr ⟨jm_ok184, List.forall_mem_cons.mpr ⟨jm_ok185, List.forall_mem_cons.mpr ⟨jm_ok186, List.forall_mem_cons.mpr ⟨jm_ok187, List.forall_mem_cons.mpr ⟨jm_ok188, List.forall_mem_cons.mpr ⟨jm_ok189, List.forall_mem_cons.mpr ⟨jm_ok190, List.forall_mem_cons.mpr ⟨jm_ok191, fun _ h => absurd h List.not_mem_nil⟩⟩⟩⟩⟩⟩⟩⟩⟩⟩⟩⟩⟩⟩⟩⟩
theorem jm_okr12 : ∀ M ∈ [jm_M192, jm_M193, jm_M194, jm_M195, jm_M196, jm_M197, jm_M198, jm_M199, jm_M200, jm_M201, jm_M202, jm_M203, jm_M204, jm_M205, jm_M206, jm_M207], jm_ok jm_YN M := List.forall_mem_cons.mpr ⟨jm_ok192, List.forall_mem_cons.mpr ⟨jm_ok193, List.forall_mem_cons.mpr ⟨jm_ok194, List.forall_mem_cons.mpr ⟨jm_ok195, List.forall_mem_cons.mpr ⟨jm_ok196, List.forall_mem_cons.mpr ⟨jm_ok197, List.forall_mem_cons.mpr ⟨jm_ok198, List.forall_mem_cons.mpr ⟨jm_ok199, List.forall_mem_cons.mpr ⟨jm_ok200, List.forall_mem_cons.mpr ⟨jm_ok201, List.forall_mem_cons.mpr ⟨jm_ok202, List.forall_mem_cons.mpr ⟨jm_ok203, List.forall_mem_cons.mpr ⟨jm_ok204, List.forall_mem_cons.mpr ⟨jm_ok205, List.forall_mem_cons.mpr ⟨jm_ok206, List.forall_mem_cons.mpr ⟨jm_ok207, fun _ h => absurd h List.not_mem_nil⟩⟩⟩⟩⟩⟩⟩⟩⟩⟩⟩⟩⟩⟩⟩⟩
theorem jm_okr13 : ∀ M ∈ [jm_M208, jm_M209, jm_M210, jm_M211, jm_M212, jm_M213, jm_M214, jm_M215, jm_M216, jm_M217, jm_M218, jm_M219, jm_M220, jm_M221, jm_M222, jm_M223], jm_ok jm_YN M := List.forall_mem_cons.mpr ⟨jm_ok208, List.forall_mem_cons.mpr ⟨jm_ok209, List.forall_mem_cons.mpr ⟨jm_ok210, List.forall_mem_cons.mpr ⟨jm_ok211, List.forall_mem_cons.mpr ⟨jm_ok212, List.forall_mem_cons.mpr ⟨jm_ok213, List.forall_mem_cons.mpr ⟨jm_ok214, List.forall_mem_cons.mpr ⟨jm_ok215, List.forall_mem_cons.mpr ⟨jm_ok216, List.forall_mem_cons.mpr ⟨jm_ok217, List.forall_mem_cons.mpr ⟨jm_ok218, List.forall_mem_cons.mpr ⟨jm_ok219, List.forall_mem_cons.mpr ⟨jm_ok220, List.forall_mem_cons.mpr ⟨jm_ok221, List.forall_mem_cons.mpr ⟨jm_ok222, List.forall_mem_cons.mpr ⟨jm_ok223, fun _ h => absurd h List.not_mem_nil⟩⟩⟩⟩⟩⟩⟩⟩⟩⟩⟩⟩⟩⟩⟩⟩
theorem jm_okr14 : ∀ M ∈ [jm_M224, jm_M225, jm_M226, jm_M227, jm_M228, jm_M229, jm_M230, jm_M231, jm_M232, jm_M233, jm_M234, jm_M235, jm_M236, jm_M237, jm_M238, jm_M239], jm_ok jm_YN M := List.forall_mem_cons.mpr ⟨jm_ok224, List.forall_mem_cons.mpr ⟨jm_ok225, List.forall_mem_cons.mpr ⟨jm_ok226, List.forall_mem_cons.mpr ⟨jm_ok227, List.forall_mem_cons.mpr ⟨jm_ok228, List.forall_mem_cons.mpr ⟨jm_ok229, List.forall_mem_cons.mpr ⟨jm_ok230, List.forall_mem_cons.mpr ⟨jm_ok231, List.forall_mem_cons.mpr ⟨jm_ok232, List.forall_mem_cons.mpr ⟨jm_ok233, List.forall_mem_cons.mpr ⟨jm_ok234, List.forall_mem_cons.mpr ⟨jm_ok235, List.forall_mem_cons.mpr ⟨jm_ok236, List.forall_mem_cons.mpr ⟨jm_ok237, List.forall_mem_cons.mpr ⟨jm_ok238, List.forall_mem_cons.mpr ⟨jm_ok239, fun _ h => absurd h List.not_mem_nil⟩⟩⟩⟩⟩⟩⟩⟩⟩⟩⟩⟩⟩⟩⟩⟩
theorem jm_okr15 : ∀ M ∈ [jm_M240, jm_M241, jm_M242, jm_M243, jm_M244, jm_M245, jm_M246, jm_M247, jm_M248, jm_M249, jm_M250, jm_M251, jm_M252, jm_M253, jm_M254, jm_M255], jm_ok jm_YN M := List.forall_mem_cons.mpr ⟨jm_ok240, List.forall_mem_cons.mpr ⟨jm_ok241, List.forall_mem_cons.mpr ⟨jm_ok242, List.forall_mem_cons.mpr ⟨jm_ok243, List.forall_mem_cons.mpr ⟨jm_ok244, List.forall_mem_cons.mpr ⟨jm_ok245, List.forall_mem_cons.mpr ⟨jm_ok246, List.forall_mem_cons.mpr ⟨jm_ok247, List.forall_mem_cons.mpr ⟨jm_ok248, List.forall_mem_cons.mpr ⟨jm_ok249, List.forall_mem_cons.mpr ⟨jm_ok250, List.forall_mem_cons.mpr ⟨jm_ok251, List.forall_mem_cons.mpr ⟨jm_ok252, List.forall_mem_cons.mpr ⟨jm_ok253, List.forall_mem_cons.mpr ⟨jm_ok254, List.forall_mem_cons.mpr ⟨jm_ok255, fun _ h => absurd h List.not_mem_nil⟩⟩⟩⟩⟩⟩⟩⟩⟩⟩⟩⟩⟩⟩⟩⟩
theorem jm_TBok0 : ∀ M ∈ [jm_M0, jm_M1, jm_M2, jm_M3, jm_M4, jm_M5, jm_M6, jm_M7, jm_M8, jm_M9, jm_M10, jm_M11, jm_M12, jm_M13, jm_M14, jm_M15] ++ ([jm_M16, jm_M17, jm_M18, jm_M19, jm_M20, jm_M21, jm_M22, jm_M23, jm_M24, jm_M25, jm_M26, jm_M27, jm_M28, jm_M29, jm_M30, jm_M31] ++ ([jm_M32, jm_M33, jm_M34, jm_M35, jm_M36, jm_M37, jm_M38, jm_M39, jm_M40, jm_M41, jm_M42, jm_M43, jm_M44, jm_M45, jm_M46, jm_M47] ++ ([jm_M48, jm_M49, jm_M50, jm_M51, jm_M52, jm_M53, jm_M54, jm_M55, jm_M56, jm_M57, jm_M58, jm_M59, jm_M60, jm_M61, jm_M62, jm_M63] ++ ([jm_M64, jm_M65, jm_M66, jm_M67, jm_M68, jm_M69, jm_M70, jm_M71, jm_M72, jm_M73, jm_M74, jm_M75, jm_M76, jm_M77, jm_M78, jm_M79] ++ ([jm_M80, jm_M81, jm_M82, jm_M83, jm_M84, jm_M85, jm_M86, jm_M87, jm_M88, jm_M89, jm_M90, jm_M91, jm_M92, jm_M93, jm_M94, jm_M95] ++ ([jm_M96, jm_M97, jm_M98, jm_M99, jm_M100, jm_M101, jm_M102, jm_M103, jm_M104, jm_M105, jm_M106, jm_M107, jm_M108, jm_M109, jm_M110, jm_M111] ++ ([jm_M112, jm_M113, jm_M114, jm_M115, jm_M116, jm_M117, jm_M118, jm_M119, jm_M120, jm_M121, jm_M122, jm_M123, jm_M124, jm_M125, jm_M126, jm_M127] ++ ([jm_M128, jm_M129, jm_M130, jm_M131, jm_M132, jm_M133, jm_M134, jm_M135, jm_M136, jm_M137, jm_M138, jm_M139, jm_M140, jm_M141, jm_M142, jm_M143] ++ ([jm_M144, jm_M145, jm_M146, jm_M147, jm_M148, jm_M149, jm_M150, jm_M151, jm_M152, jm_M153, jm_M154, jm_M155, jm_M156, jm_M157, jm_M158, jm_M159] ++ ([jm_M160, jm_M161, jm_M162, jm_M163, jm_M164, jm_M165, jm_M166, jm_M167, jm_M168, jm_M169, jm_M170, jm_M171, jm_M172, jm_M173, jm_M174, jm_M175] ++ ([jm_M176, jm_M177, jm_M178, jm_M179, jm_M180, jm_M181, jm_M182, jm_M183, jm_M184, jm_M185, jm_M186, jm_M187, jm_M188, jm_M189, jm_M190, jm_M191] ++ ([jm_M192, jm_M193, jm_M194, jm_M195, jm_M196, jm_M197, jm_M198, jm_M199, jm_M200, jm_M201, jm_M202, jm_M203, jm_M204, jm_M205, jm_M206, jm_M207] ++ ([jm_M208, jm_M209, jm_M210, jm_M211, jm_M212, jm_M213, jm_M214, jm_M215, jm_M216, jm_M217, jm_M218, jm_M219, jm_M220, jm_M221, jm_M222, jm_M223] ++ ([jm_M224, jm_M225, jm_M226, jm_M227, jm_M228, jm_M229, jm_M230, jm_M231, jm_M232, jm_M233, jm_M234, jm_M235, jm_M236, jm_M237, jm_M238, jm_M239] ++ ([jm_M240, jm_M241, jm_M242, jm_M243, jm_M244, jm_M245, jm_M246, jm_M247, jm_M248, jm_M249, jm_M250, jm_M251, jm_M252, jm_M253, jm_M254, jm_M255]))))))))))))))), jm_ok jm_YN M := List.forall_mem_append.mpr ⟨jm_okr0, List.forall_mem_append.mpr ⟨jm_okr1, List.forall_mem_append.mpr ⟨jm_okr2, List.forall_mem_append.mpr ⟨jm_okr3, List.forall_mem_append.mpr ⟨jm_okr4, List.forall_mem_append.mpr ⟨jm_okr5, List.forall_mem_append.mpr ⟨jm_okr6, List.forall_mem_append.mpr ⟨jm_okr7, List.forall_mem_append.mpr ⟨jm_okr8, List.forall_mem_append.mpr ⟨jm_okr9, List.forall_mem_append.mpr ⟨jm_okr10, List.forall_mem_append.mpr ⟨jm_okr11, List.forall_mem_append.mpr ⟨jm_okr12, List.forall_mem_append.mpr ⟨jm_okr13, List.forall_mem_append.mpr ⟨jm_okr14, jm_okr15⟩⟩⟩⟩⟩⟩⟩⟩⟩⟩⟩⟩⟩⟩⟩
theorem jm_TBok (k : Nat) (M : jm_M) (h : jm_TB[k]? = some M) : jm_ok jm_YN M := jm_TBok0 M (List.mem_of_getElem? h)
end
