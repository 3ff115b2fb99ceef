/-- a private method of a class that the tables say can be made, by its rows of tables_1 -/
def lw_okq (q : MethodName × Nat) : Prop := (q.1.cls ≠ "java/lang/invoke/MethodHandle" ∧ q.1.cls ≠ "java/lang/invoke/VarHandle") ∧ Cond.instantiable q.1.cls q.2 ∈ tables_1 ∧ Cond.privateMethod q.1 ∈ tables_1 ∧ Cond.instanceMethod q.1 ∈ tables_1
/-- a word of the tables by its place -/
def lw_lk (i : Nat) : Option Cond := bif Nat.blt i 240 then tables_1_1[i]? else bif Nat.blt i 480 then tables_1_2[i - 240]? else bif Nat.blt i 720 then tables_1_3[i - 480]? else bif Nat.blt i 960 then tables_1_4[i - 720]? else bif Nat.blt i 1200 then tables_1_5[i - 960]? else bif Nat.blt i 1440 then tables_1_6[i - 1200]? else tables_1_7[i - 1440]?
theorem lw_lk_mem {i : Nat} {w : Cond} (h : lw_lk i = some w) : w ∈ tables_1 := by
  unfold lw_lk at h
  cases h0 : Nat.blt i 240 with
  | true => rw [h0, cond_true] at h; exact (List.mem_append_left _ (List.mem_of_getElem? h))
  | false =>
    rw [h0, cond_false] at h
    cases h1 : Nat.blt i 480 with
    | true => rw [h1, cond_true] at h; exact (List.mem_append_right _ (List.mem_append_left _ (List.mem_of_getElem? h)))
    | false =>
      rw [h1, cond_false] at h
      cases h2 : Nat.blt i 720 with
      | true => rw [h2, cond_true] at h; exact (List.mem_append_right _ (List.mem_append_right _ (List.mem_append_left _ (List.mem_of_getElem? h))))
      | false =>
        rw [h2, cond_false] at h
        cases h3 : Nat.blt i 960 with
        | true => rw [h3, cond_true] at h; exact (List.mem_append_right _ (List.mem_append_right _ (List.mem_append_right _ (List.mem_append_left _ (List.mem_of_getElem? h)))))
        | false =>
          rw [h3, cond_false] at h
          cases h4 : Nat.blt i 1200 with
          | true => rw [h4, cond_true] at h; exact (List.mem_append_right _ (List.mem_append_right _ (List.mem_append_right _ (List.mem_append_right _ (List.mem_append_left _ (List.mem_of_getElem? h))))))
          | false =>
            rw [h4, cond_false] at h
            cases h5 : Nat.blt i 1440 with
            | true => rw [h5, cond_true] at h; exact (List.mem_append_right _ (List.mem_append_right _ (List.mem_append_right _ (List.mem_append_right _ (List.mem_append_right _ (List.mem_append_left _ (List.mem_of_getElem? h)))))))
            | false =>
              rw [h5, cond_false] at h
              exact (List.mem_append_right _ (List.mem_append_right _ (List.mem_append_right _ (List.mem_append_right _ (List.mem_append_right _ (List.mem_append_right _ (List.mem_of_getElem? h)))))))
theorem lw_p0 : lw_okq (⟨"FallMarket$Text", "addPlainLaw", "(II)V"⟩, 15) := ⟨⟨by decide +kernel, by decide +kernel⟩, lw_lk_mem (i := 29) (by decide +kernel), lw_lk_mem (i := 39) (by decide +kernel), lw_lk_mem (i := 40) (by decide +kernel)⟩
theorem lw_p1 : lw_okq (⟨"FallMarket", "begin", "()V"⟩, 15) := ⟨⟨by decide +kernel, by decide +kernel⟩, lw_lk_mem (i := 21) (by decide +kernel), lw_lk_mem (i := 393) (by decide +kernel), lw_lk_mem (i := 394) (by decide +kernel)⟩
theorem lw_p2 : lw_okq (⟨"FallMarket$Laws", "worked", "(LFallMarket$Text;I)I"⟩, 2) := ⟨⟨by decide +kernel, by decide +kernel⟩, lw_lk_mem (i := 242) (by decide +kernel), lw_lk_mem (i := 419) (by decide +kernel), lw_lk_mem (i := 420) (by decide +kernel)⟩
theorem lw_p3 : lw_okq (⟨"FallMarket", "append", "(I)V"⟩, 15) := ⟨⟨by decide +kernel, by decide +kernel⟩, lw_lk_mem (i := 21) (by decide +kernel), lw_lk_mem (i := 498) (by decide +kernel), lw_lk_mem (i := 499) (by decide +kernel)⟩
theorem lw_p4 : lw_okq (⟨"FallMarket$Tokens", "cutOne", "(I[BII)I"⟩, 4) := ⟨⟨by decide +kernel, by decide +kernel⟩, lw_lk_mem (i := 138) (by decide +kernel), lw_lk_mem (i := 522) (by decide +kernel), lw_lk_mem (i := 523) (by decide +kernel)⟩
theorem lw_p5 : lw_okq (⟨"FallMarket$Tokens", "cutWord", "(I[BII)I"⟩, 4) := ⟨⟨by decide +kernel, by decide +kernel⟩, lw_lk_mem (i := 138) (by decide +kernel), lw_lk_mem (i := 529) (by decide +kernel), lw_lk_mem (i := 530) (by decide +kernel)⟩
theorem lw_p6 : lw_okq (⟨"FallMarket$Tokens", "wordKind", "(J)I"⟩, 4) := ⟨⟨by decide +kernel, by decide +kernel⟩, lw_lk_mem (i := 138) (by decide +kernel), lw_lk_mem (i := 533) (by decide +kernel), lw_lk_mem (i := 534) (by decide +kernel)⟩
theorem lw_p7 : lw_okq (⟨"FallMarket$Tokens", "cutNumber", "(I[BII)I"⟩, 4) := ⟨⟨by decide +kernel, by decide +kernel⟩, lw_lk_mem (i := 138) (by decide +kernel), lw_lk_mem (i := 540) (by decide +kernel), lw_lk_mem (i := 541) (by decide +kernel)⟩
theorem lw_p8 : lw_okq (⟨"FallMarket$Parser", "parseFruit", "()Z"⟩, 10) := ⟨⟨by decide +kernel, by decide +kernel⟩, lw_lk_mem (i := 132) (by decide +kernel), lw_lk_mem (i := 553) (by decide +kernel), lw_lk_mem (i := 554) (by decide +kernel)⟩
theorem lw_p9 : lw_okq (⟨"FallMarket$Parser", "refuse", "(I)Z"⟩, 10) := ⟨⟨by decide +kernel, by decide +kernel⟩, lw_lk_mem (i := 132) (by decide +kernel), lw_lk_mem (i := 557) (by decide +kernel), lw_lk_mem (i := 558) (by decide +kernel)⟩
theorem lw_p10 : lw_okq (⟨"FallMarket$Parser", "take", "(I)Z"⟩, 10) := ⟨⟨by decide +kernel, by decide +kernel⟩, lw_lk_mem (i := 132) (by decide +kernel), lw_lk_mem (i := 561) (by decide +kernel), lw_lk_mem (i := 562) (by decide +kernel)⟩
theorem lw_p11 : lw_okq (⟨"FallMarket$Parser", "takeName", "()Z"⟩, 10) := ⟨⟨by decide +kernel, by decide +kernel⟩, lw_lk_mem (i := 132) (by decide +kernel), lw_lk_mem (i := 565) (by decide +kernel), lw_lk_mem (i := 566) (by decide +kernel)⟩
theorem lw_p12 : lw_okq (⟨"FallMarket$Parser", "markLater", "(I)V"⟩, 10) := ⟨⟨by decide +kernel, by decide +kernel⟩, lw_lk_mem (i := 132) (by decide +kernel), lw_lk_mem (i := 573) (by decide +kernel), lw_lk_mem (i := 574) (by decide +kernel)⟩
theorem lw_p13 : lw_okq (⟨"FallMarket$Parser", "takeNumber", "(III)Z"⟩, 10) := ⟨⟨by decide +kernel, by decide +kernel⟩, lw_lk_mem (i := 132) (by decide +kernel), lw_lk_mem (i := 581) (by decide +kernel), lw_lk_mem (i := 582) (by decide +kernel)⟩
theorem lw_p14 : lw_okq (⟨"FallMarket$Parser", "parseBuyer", "()Z"⟩, 10) := ⟨⟨by decide +kernel, by decide +kernel⟩, lw_lk_mem (i := 132) (by decide +kernel), lw_lk_mem (i := 592) (by decide +kernel), lw_lk_mem (i := 593) (by decide +kernel)⟩
theorem lw_p15 : lw_okq (⟨"FallMarket$Parser", "parseLaw", "(II)Z"⟩, 10) := ⟨⟨by decide +kernel, by decide +kernel⟩, lw_lk_mem (i := 132) (by decide +kernel), lw_lk_mem (i := 600) (by decide +kernel), lw_lk_mem (i := 601) (by decide +kernel)⟩
def lw_privs_1 : List (MethodName × Nat) := [(⟨"FallMarket$Text", "addPlainLaw", "(II)V"⟩, 15), (⟨"FallMarket", "begin", "()V"⟩, 15), (⟨"FallMarket$Laws", "worked", "(LFallMarket$Text;I)I"⟩, 2), (⟨"FallMarket", "append", "(I)V"⟩, 15), (⟨"FallMarket$Tokens", "cutOne", "(I[BII)I"⟩, 4), (⟨"FallMarket$Tokens", "cutWord", "(I[BII)I"⟩, 4), (⟨"FallMarket$Tokens", "wordKind", "(J)I"⟩, 4), (⟨"FallMarket$Tokens", "cutNumber", "(I[BII)I"⟩, 4), (⟨"FallMarket$Parser", "parseFruit", "()Z"⟩, 10), (⟨"FallMarket$Parser", "refuse", "(I)Z"⟩, 10), (⟨"FallMarket$Parser", "take", "(I)Z"⟩, 10), (⟨"FallMarket$Parser", "takeName", "()Z"⟩, 10), (⟨"FallMarket$Parser", "markLater", "(I)V"⟩, 10), (⟨"FallMarket$Parser", "takeNumber", "(III)Z"⟩, 10), (⟨"FallMarket$Parser", "parseBuyer", "()Z"⟩, 10), (⟨"FallMarket$Parser", "parseLaw", "(II)Z"⟩, 10)]
theorem lw_r1 : ∀ q ∈ lw_privs_1, lw_okq q := List.forall_mem_cons.mpr ⟨lw_p0, List.forall_mem_cons.mpr ⟨lw_p1, List.forall_mem_cons.mpr ⟨lw_p2, List.forall_mem_cons.mpr ⟨lw_p3, List.forall_mem_cons.mpr ⟨lw_p4, List.forall_mem_cons.mpr ⟨lw_p5, List.forall_mem_cons.mpr ⟨lw_p6, List.forall_mem_cons.mpr ⟨lw_p7, List.forall_mem_cons.mpr ⟨lw_p8, List.forall_mem_cons.mpr ⟨lw_p9, List.forall_mem_cons.mpr ⟨lw_p10, List.forall_mem_cons.mpr ⟨lw_p11, List.forall_mem_cons.mpr ⟨lw_p12, List.forall_mem_cons.mpr ⟨lw_p13, List.forall_mem_cons.mpr ⟨lw_p14, List.forall_mem_cons.mpr ⟨lw_p15, fun _ h => absurd h List.not_mem_nil⟩⟩⟩⟩⟩⟩⟩⟩⟩⟩⟩⟩⟩⟩⟩⟩
theorem lw_p16 : lw_okq (⟨"FallMarket$Parser", "parseIf", "(I)Z"⟩, 10) := ⟨⟨by decide +kernel, by decide +kernel⟩, lw_lk_mem (i := 132) (by decide +kernel), lw_lk_mem (i := 604) (by decide +kernel), lw_lk_mem (i := 605) (by decide +kernel)⟩
theorem lw_p17 : lw_okq (⟨"FallMarket$Parser", "parseSum", "(II)Z"⟩, 10) := ⟨⟨by decide +kernel, by decide +kernel⟩, lw_lk_mem (i := 132) (by decide +kernel), lw_lk_mem (i := 608) (by decide +kernel), lw_lk_mem (i := 609) (by decide +kernel)⟩
theorem lw_p18 : lw_okq (⟨"FallMarket$Parser", "parseProduct", "(II)Z"⟩, 10) := ⟨⟨by decide +kernel, by decide +kernel⟩, lw_lk_mem (i := 132) (by decide +kernel), lw_lk_mem (i := 612) (by decide +kernel), lw_lk_mem (i := 613) (by decide +kernel)⟩
theorem lw_p19 : lw_okq (⟨"FallMarket$Parser", "parseUnit", "(II)Z"⟩, 10) := ⟨⟨by decide +kernel, by decide +kernel⟩, lw_lk_mem (i := 132) (by decide +kernel), lw_lk_mem (i := 616) (by decide +kernel), lw_lk_mem (i := 617) (by decide +kernel)⟩
theorem lw_p20 : lw_okq (⟨"FallMarket$Parser", "parseSetting", "(I)Z"⟩, 10) := ⟨⟨by decide +kernel, by decide +kernel⟩, lw_lk_mem (i := 132) (by decide +kernel), lw_lk_mem (i := 628) (by decide +kernel), lw_lk_mem (i := 629) (by decide +kernel)⟩
theorem lw_p21 : lw_okq (⟨"FallMarket", "isFruit", "(I)Z"⟩, 15) := ⟨⟨by decide +kernel, by decide +kernel⟩, lw_lk_mem (i := 21) (by decide +kernel), lw_lk_mem (i := 644) (by decide +kernel), lw_lk_mem (i := 645) (by decide +kernel)⟩
theorem lw_p22 : lw_okq (⟨"FallMarket", "isBuyer", "(I)Z"⟩, 15) := ⟨⟨by decide +kernel, by decide +kernel⟩, lw_lk_mem (i := 21) (by decide +kernel), lw_lk_mem (i := 652) (by decide +kernel), lw_lk_mem (i := 653) (by decide +kernel)⟩
theorem lw_p23 : lw_okq (⟨"FallMarket", "boughtBits", "(I)I"⟩, 15) := ⟨⟨by decide +kernel, by decide +kernel⟩, lw_lk_mem (i := 21) (by decide +kernel), lw_lk_mem (i := 656) (by decide +kernel), lw_lk_mem (i := 657) (by decide +kernel)⟩
theorem lw_p24 : lw_okq (⟨"FallMarket", "lookAtNow", "(I)V"⟩, 15) := ⟨⟨by decide +kernel, by decide +kernel⟩, lw_lk_mem (i := 21) (by decide +kernel), lw_lk_mem (i := 664) (by decide +kernel), lw_lk_mem (i := 665) (by decide +kernel)⟩
theorem lw_p25 : lw_okq (⟨"FallMarket$Clock", "sellOrKeep", "(LFallMarket$Text;LFallMarket$Ground;I)V"⟩, 1) := ⟨⟨by decide +kernel, by decide +kernel⟩, lw_lk_mem (i := 257) (by decide +kernel), lw_lk_mem (i := 727) (by decide +kernel), lw_lk_mem (i := 728) (by decide +kernel)⟩
theorem lw_p26 : lw_okq (⟨"FallMarket$Clock", "letFall", "(LFallMarket$Text;LFallMarket$Ground;I)V"⟩, 1) := ⟨⟨by decide +kernel, by decide +kernel⟩, lw_lk_mem (i := 257) (by decide +kernel), lw_lk_mem (i := 742) (by decide +kernel), lw_lk_mem (i := 743) (by decide +kernel)⟩
theorem lw_p27 : lw_okq (⟨"FallMarket$Outlook", "meanWorth", "(I)J"⟩, 4) := ⟨⟨by decide +kernel, by decide +kernel⟩, lw_lk_mem (i := 267) (by decide +kernel), lw_lk_mem (i := 793) (by decide +kernel), lw_lk_mem (i := 794) (by decide +kernel)⟩
theorem lw_p28 : lw_okq (⟨"FallMarket", "catchesAt", "(II)J"⟩, 15) := ⟨⟨by decide +kernel, by decide +kernel⟩, lw_lk_mem (i := 21) (by decide +kernel), lw_lk_mem (i := 798) (by decide +kernel), lw_lk_mem (i := 799) (by decide +kernel)⟩
theorem lw_p29 : lw_okq (⟨"FallMarket", "goAhead", "(I)V"⟩, 15) := ⟨⟨by decide +kernel, by decide +kernel⟩, lw_lk_mem (i := 21) (by decide +kernel), lw_lk_mem (i := 850) (by decide +kernel), lw_lk_mem (i := 851) (by decide +kernel)⟩
theorem lw_p30 : lw_okq (⟨"FallMarket$Told", "isFit", "(LFallMarket$Text;II)Z"⟩, 3) := ⟨⟨by decide +kernel, by decide +kernel⟩, lw_lk_mem (i := 375) (by decide +kernel), lw_lk_mem (i := 902) (by decide +kernel), lw_lk_mem (i := 903) (by decide +kernel)⟩
theorem lw_p31 : lw_okq (⟨"FallMarket$Told", "alikeAhead", "(I)I"⟩, 3) := ⟨⟨by decide +kernel, by decide +kernel⟩, lw_lk_mem (i := 375) (by decide +kernel), lw_lk_mem (i := 906) (by decide +kernel), lw_lk_mem (i := 907) (by decide +kernel)⟩
def lw_privs_2 : List (MethodName × Nat) := [(⟨"FallMarket$Parser", "parseIf", "(I)Z"⟩, 10), (⟨"FallMarket$Parser", "parseSum", "(II)Z"⟩, 10), (⟨"FallMarket$Parser", "parseProduct", "(II)Z"⟩, 10), (⟨"FallMarket$Parser", "parseUnit", "(II)Z"⟩, 10), (⟨"FallMarket$Parser", "parseSetting", "(I)Z"⟩, 10), (⟨"FallMarket", "isFruit", "(I)Z"⟩, 15), (⟨"FallMarket", "isBuyer", "(I)Z"⟩, 15), (⟨"FallMarket", "boughtBits", "(I)I"⟩, 15), (⟨"FallMarket", "lookAtNow", "(I)V"⟩, 15), (⟨"FallMarket$Clock", "sellOrKeep", "(LFallMarket$Text;LFallMarket$Ground;I)V"⟩, 1), (⟨"FallMarket$Clock", "letFall", "(LFallMarket$Text;LFallMarket$Ground;I)V"⟩, 1), (⟨"FallMarket$Outlook", "meanWorth", "(I)J"⟩, 4), (⟨"FallMarket", "catchesAt", "(II)J"⟩, 15), (⟨"FallMarket", "goAhead", "(I)V"⟩, 15), (⟨"FallMarket$Told", "isFit", "(LFallMarket$Text;II)Z"⟩, 3), (⟨"FallMarket$Told", "alikeAhead", "(I)I"⟩, 3)]
theorem lw_r2 : ∀ q ∈ lw_privs_2, lw_okq q := List.forall_mem_cons.mpr ⟨lw_p16, List.forall_mem_cons.mpr ⟨lw_p17, List.forall_mem_cons.mpr ⟨lw_p18, List.forall_mem_cons.mpr ⟨lw_p19, List.forall_mem_cons.mpr ⟨lw_p20, List.forall_mem_cons.mpr ⟨lw_p21, List.forall_mem_cons.mpr ⟨lw_p22, List.forall_mem_cons.mpr ⟨lw_p23, List.forall_mem_cons.mpr ⟨lw_p24, List.forall_mem_cons.mpr ⟨lw_p25, List.forall_mem_cons.mpr ⟨lw_p26, List.forall_mem_cons.mpr ⟨lw_p27, List.forall_mem_cons.mpr ⟨lw_p28, List.forall_mem_cons.mpr ⟨lw_p29, List.forall_mem_cons.mpr ⟨lw_p30, List.forall_mem_cons.mpr ⟨lw_p31, fun _ h => absurd h List.not_mem_nil⟩⟩⟩⟩⟩⟩⟩⟩⟩⟩⟩⟩⟩⟩⟩⟩
theorem lw_p32 : lw_okq (⟨"FallMarket", "heldSlots", "()I"⟩, 15) := ⟨⟨by decide +kernel, by decide +kernel⟩, lw_lk_mem (i := 21) (by decide +kernel), lw_lk_mem (i := 942) (by decide +kernel), lw_lk_mem (i := 943) (by decide +kernel)⟩
theorem lw_p33 : lw_okq (⟨"FallMarket", "allCoins", "()I"⟩, 15) := ⟨⟨by decide +kernel, by decide +kernel⟩, lw_lk_mem (i := 21) (by decide +kernel), lw_lk_mem (i := 946) (by decide +kernel), lw_lk_mem (i := 947) (by decide +kernel)⟩
theorem lw_p34 : lw_okq (⟨"FallMarket", "proppedBits", "()I"⟩, 15) := ⟨⟨by decide +kernel, by decide +kernel⟩, lw_lk_mem (i := 21) (by decide +kernel), lw_lk_mem (i := 950) (by decide +kernel), lw_lk_mem (i := 951) (by decide +kernel)⟩
theorem lw_p35 : lw_okq (⟨"FallMarket", "hangingRipeness", "()I"⟩, 15) := ⟨⟨by decide +kernel, by decide +kernel⟩, lw_lk_mem (i := 21) (by decide +kernel), lw_lk_mem (i := 954) (by decide +kernel), lw_lk_mem (i := 955) (by decide +kernel)⟩
theorem lw_p36 : lw_okq (⟨"FallMarketModel", "plain", "(I)V"⟩, 69) := ⟨⟨by decide +kernel, by decide +kernel⟩, lw_lk_mem (i := 958) (by decide +kernel), lw_lk_mem (i := 964) (by decide +kernel), lw_lk_mem (i := 965) (by decide +kernel)⟩
theorem lw_p37 : lw_okq (⟨"FallMarketModel", "begins", "()V"⟩, 69) := ⟨⟨by decide +kernel, by decide +kernel⟩, lw_lk_mem (i := 958) (by decide +kernel), lw_lk_mem (i := 975) (by decide +kernel), lw_lk_mem (i := 976) (by decide +kernel)⟩
theorem lw_p38 : lw_okq (⟨"FallMarketModel", "keepsRow", "()V"⟩, 69) := ⟨⟨by decide +kernel, by decide +kernel⟩, lw_lk_mem (i := 958) (by decide +kernel), lw_lk_mem (i := 979) (by decide +kernel), lw_lk_mem (i := 980) (by decide +kernel)⟩
theorem lw_p39 : lw_okq (⟨"FallMarketModel", "put", "(I)V"⟩, 69) := ⟨⟨by decide +kernel, by decide +kernel⟩, lw_lk_mem (i := 958) (by decide +kernel), lw_lk_mem (i := 1194) (by decide +kernel), lw_lk_mem (i := 1195) (by decide +kernel)⟩
theorem lw_p40 : lw_okq (⟨"FallMarketModel", "cut", "()V"⟩, 69) := ⟨⟨by decide +kernel, by decide +kernel⟩, lw_lk_mem (i := 958) (by decide +kernel), lw_lk_mem (i := 1206) (by decide +kernel), lw_lk_mem (i := 1207) (by decide +kernel)⟩
theorem lw_p41 : lw_okq (⟨"FallMarketModel", "byteAt", "(I)I"⟩, 69) := ⟨⟨by decide +kernel, by decide +kernel⟩, lw_lk_mem (i := 958) (by decide +kernel), lw_lk_mem (i := 1210) (by decide +kernel), lw_lk_mem (i := 1211) (by decide +kernel)⟩
theorem lw_p42 : lw_okq (⟨"FallMarketModel", "token", "(IIIJ)V"⟩, 69) := ⟨⟨by decide +kernel, by decide +kernel⟩, lw_lk_mem (i := 958) (by decide +kernel), lw_lk_mem (i := 1214) (by decide +kernel), lw_lk_mem (i := 1215) (by decide +kernel)⟩
theorem lw_p43 : lw_okq (⟨"FallMarketModel", "sign", "(III)I"⟩, 69) := ⟨⟨by decide +kernel, by decide +kernel⟩, lw_lk_mem (i := 958) (by decide +kernel), lw_lk_mem (i := 1224) (by decide +kernel), lw_lk_mem (i := 1225) (by decide +kernel)⟩
theorem lw_p44 : lw_okq (⟨"FallMarketModel", "is", "(I)Z"⟩, 69) := ⟨⟨by decide +kernel, by decide +kernel⟩, lw_lk_mem (i := 958) (by decide +kernel), lw_lk_mem (i := 1228) (by decide +kernel), lw_lk_mem (i := 1229) (by decide +kernel)⟩
theorem lw_p45 : lw_okq (⟨"FallMarketModel", "tellOne", "()V"⟩, 69) := ⟨⟨by decide +kernel, by decide +kernel⟩, lw_lk_mem (i := 958) (by decide +kernel), lw_lk_mem (i := 1232) (by decide +kernel), lw_lk_mem (i := 1233) (by decide +kernel)⟩
theorem lw_p46 : lw_okq (⟨"FallMarketModel", "roomFor", "(II)V"⟩, 69) := ⟨⟨by decide +kernel, by decide +kernel⟩, lw_lk_mem (i := 958) (by decide +kernel), lw_lk_mem (i := 1236) (by decide +kernel), lw_lk_mem (i := 1237) (by decide +kernel)⟩
theorem lw_p47 : lw_okq (⟨"FallMarketModel", "fail", "(I)V"⟩, 69) := ⟨⟨by decide +kernel, by decide +kernel⟩, lw_lk_mem (i := 958) (by decide +kernel), lw_lk_mem (i := 1240) (by decide +kernel), lw_lk_mem (i := 1241) (by decide +kernel)⟩
def lw_privs_3 : List (MethodName × Nat) := [(⟨"FallMarket", "heldSlots", "()I"⟩, 15), (⟨"FallMarket", "allCoins", "()I"⟩, 15), (⟨"FallMarket", "proppedBits", "()I"⟩, 15), (⟨"FallMarket", "hangingRipeness", "()I"⟩, 15), (⟨"FallMarketModel", "plain", "(I)V"⟩, 69), (⟨"FallMarketModel", "begins", "()V"⟩, 69), (⟨"FallMarketModel", "keepsRow", "()V"⟩, 69), (⟨"FallMarketModel", "put", "(I)V"⟩, 69), (⟨"FallMarketModel", "cut", "()V"⟩, 69), (⟨"FallMarketModel", "byteAt", "(I)I"⟩, 69), (⟨"FallMarketModel", "token", "(IIIJ)V"⟩, 69), (⟨"FallMarketModel", "sign", "(III)I"⟩, 69), (⟨"FallMarketModel", "is", "(I)Z"⟩, 69), (⟨"FallMarketModel", "tellOne", "()V"⟩, 69), (⟨"FallMarketModel", "roomFor", "(II)V"⟩, 69), (⟨"FallMarketModel", "fail", "(I)V"⟩, 69)]
theorem lw_r3 : ∀ q ∈ lw_privs_3, lw_okq q := List.forall_mem_cons.mpr ⟨lw_p32, List.forall_mem_cons.mpr ⟨lw_p33, List.forall_mem_cons.mpr ⟨lw_p34, List.forall_mem_cons.mpr ⟨lw_p35, List.forall_mem_cons.mpr ⟨lw_p36, List.forall_mem_cons.mpr ⟨lw_p37, List.forall_mem_cons.mpr ⟨lw_p38, List.forall_mem_cons.mpr ⟨lw_p39, List.forall_mem_cons.mpr ⟨lw_p40, List.forall_mem_cons.mpr ⟨lw_p41, List.forall_mem_cons.mpr ⟨lw_p42, List.forall_mem_cons.mpr ⟨lw_p43, List.forall_mem_cons.mpr ⟨lw_p44, List.forall_mem_cons.mpr ⟨lw_p45, List.forall_mem_cons.mpr ⟨lw_p46, List.forall_mem_cons.mpr ⟨lw_p47, fun _ h => absurd h List.not_mem_nil⟩⟩⟩⟩⟩⟩⟩⟩⟩⟩⟩⟩⟩⟩⟩⟩
theorem lw_p48 : lw_okq (⟨"FallMarketModel", "goesOn", "()V"⟩, 69) := ⟨⟨by decide +kernel, by decide +kernel⟩, lw_lk_mem (i := 958) (by decide +kernel), lw_lk_mem (i := 1244) (by decide +kernel), lw_lk_mem (i := 1245) (by decide +kernel)⟩
theorem lw_p49 : lw_okq (⟨"FallMarketModel", "tellFruit", "()V"⟩, 69) := ⟨⟨by decide +kernel, by decide +kernel⟩, lw_lk_mem (i := 958) (by decide +kernel), lw_lk_mem (i := 1248) (by decide +kernel), lw_lk_mem (i := 1249) (by decide +kernel)⟩
theorem lw_p50 : lw_okq (⟨"FallMarketModel", "named", "()I"⟩, 69) := ⟨⟨by decide +kernel, by decide +kernel⟩, lw_lk_mem (i := 958) (by decide +kernel), lw_lk_mem (i := 1252) (by decide +kernel), lw_lk_mem (i := 1253) (by decide +kernel)⟩
theorem lw_p51 : lw_okq (⟨"FallMarketModel", "must", "(I)V"⟩, 69) := ⟨⟨by decide +kernel, by decide +kernel⟩, lw_lk_mem (i := 958) (by decide +kernel), lw_lk_mem (i := 1256) (by decide +kernel), lw_lk_mem (i := 1257) (by decide +kernel)⟩
theorem lw_p52 : lw_okq (⟨"FallMarketModel", "wrong", "(II)V"⟩, 69) := ⟨⟨by decide +kernel, by decide +kernel⟩, lw_lk_mem (i := 958) (by decide +kernel), lw_lk_mem (i := 1260) (by decide +kernel), lw_lk_mem (i := 1261) (by decide +kernel)⟩
theorem lw_p53 : lw_okq (⟨"FallMarketModel", "bounded", "(II)I"⟩, 69) := ⟨⟨by decide +kernel, by decide +kernel⟩, lw_lk_mem (i := 958) (by decide +kernel), lw_lk_mem (i := 1264) (by decide +kernel), lw_lk_mem (i := 1265) (by decide +kernel)⟩
theorem lw_p54 : lw_okq (⟨"FallMarketModel", "ends", "(I)V"⟩, 69) := ⟨⟨by decide +kernel, by decide +kernel⟩, lw_lk_mem (i := 958) (by decide +kernel), lw_lk_mem (i := 1268) (by decide +kernel), lw_lk_mem (i := 1269) (by decide +kernel)⟩
theorem lw_p55 : lw_okq (⟨"FallMarketModel", "tellBuyer", "()V"⟩, 69) := ⟨⟨by decide +kernel, by decide +kernel⟩, lw_lk_mem (i := 958) (by decide +kernel), lw_lk_mem (i := 1272) (by decide +kernel), lw_lk_mem (i := 1273) (by decide +kernel)⟩
theorem lw_p56 : lw_okq (⟨"FallMarketModel", "toldInt", "(II)I"⟩, 69) := ⟨⟨by decide +kernel, by decide +kernel⟩, lw_lk_mem (i := 958) (by decide +kernel), lw_lk_mem (i := 1276) (by decide +kernel), lw_lk_mem (i := 1277) (by decide +kernel)⟩
theorem lw_p57 : lw_okq (⟨"FallMarketModel", "tellLaw", "(I)V"⟩, 69) := ⟨⟨by decide +kernel, by decide +kernel⟩, lw_lk_mem (i := 958) (by decide +kernel), lw_lk_mem (i := 1280) (by decide +kernel), lw_lk_mem (i := 1281) (by decide +kernel)⟩
theorem lw_p58 : lw_okq (⟨"FallMarketModel", "expression", "()V"⟩, 69) := ⟨⟨by decide +kernel, by decide +kernel⟩, lw_lk_mem (i := 958) (by decide +kernel), lw_lk_mem (i := 1284) (by decide +kernel), lw_lk_mem (i := 1285) (by decide +kernel)⟩
theorem lw_p59 : lw_okq (⟨"FallMarketModel", "unit", "()V"⟩, 69) := ⟨⟨by decide +kernel, by decide +kernel⟩, lw_lk_mem (i := 958) (by decide +kernel), lw_lk_mem (i := 1288) (by decide +kernel), lw_lk_mem (i := 1289) (by decide +kernel)⟩
theorem lw_p60 : lw_okq (⟨"FallMarketModel", "emit", "(II)V"⟩, 69) := ⟨⟨by decide +kernel, by decide +kernel⟩, lw_lk_mem (i := 958) (by decide +kernel), lw_lk_mem (i := 1292) (by decide +kernel), lw_lk_mem (i := 1293) (by decide +kernel)⟩
theorem lw_p61 : lw_okq (⟨"FallMarketModel", "comesOut", "(Z)V"⟩, 69) := ⟨⟨by decide +kernel, by decide +kernel⟩, lw_lk_mem (i := 958) (by decide +kernel), lw_lk_mem (i := 1296) (by decide +kernel), lw_lk_mem (i := 1297) (by decide +kernel)⟩
theorem lw_p62 : lw_okq (⟨"FallMarketModel", "term", "()V"⟩, 69) := ⟨⟨by decide +kernel, by decide +kernel⟩, lw_lk_mem (i := 958) (by decide +kernel), lw_lk_mem (i := 1300) (by decide +kernel), lw_lk_mem (i := 1301) (by decide +kernel)⟩
theorem lw_p63 : lw_okq (⟨"FallMarketModel", "isFruit", "(I)Z"⟩, 69) := ⟨⟨by decide +kernel, by decide +kernel⟩, lw_lk_mem (i := 958) (by decide +kernel), lw_lk_mem (i := 1312) (by decide +kernel), lw_lk_mem (i := 1313) (by decide +kernel)⟩
def lw_privs_4 : List (MethodName × Nat) := [(⟨"FallMarketModel", "goesOn", "()V"⟩, 69), (⟨"FallMarketModel", "tellFruit", "()V"⟩, 69), (⟨"FallMarketModel", "named", "()I"⟩, 69), (⟨"FallMarketModel", "must", "(I)V"⟩, 69), (⟨"FallMarketModel", "wrong", "(II)V"⟩, 69), (⟨"FallMarketModel", "bounded", "(II)I"⟩, 69), (⟨"FallMarketModel", "ends", "(I)V"⟩, 69), (⟨"FallMarketModel", "tellBuyer", "()V"⟩, 69), (⟨"FallMarketModel", "toldInt", "(II)I"⟩, 69), (⟨"FallMarketModel", "tellLaw", "(I)V"⟩, 69), (⟨"FallMarketModel", "expression", "()V"⟩, 69), (⟨"FallMarketModel", "unit", "()V"⟩, 69), (⟨"FallMarketModel", "emit", "(II)V"⟩, 69), (⟨"FallMarketModel", "comesOut", "(Z)V"⟩, 69), (⟨"FallMarketModel", "term", "()V"⟩, 69), (⟨"FallMarketModel", "isFruit", "(I)Z"⟩, 69)]
theorem lw_r4 : ∀ q ∈ lw_privs_4, lw_okq q := List.forall_mem_cons.mpr ⟨lw_p48, List.forall_mem_cons.mpr ⟨lw_p49, List.forall_mem_cons.mpr ⟨lw_p50, List.forall_mem_cons.mpr ⟨lw_p51, List.forall_mem_cons.mpr ⟨lw_p52, List.forall_mem_cons.mpr ⟨lw_p53, List.forall_mem_cons.mpr ⟨lw_p54, List.forall_mem_cons.mpr ⟨lw_p55, List.forall_mem_cons.mpr ⟨lw_p56, List.forall_mem_cons.mpr ⟨lw_p57, List.forall_mem_cons.mpr ⟨lw_p58, List.forall_mem_cons.mpr ⟨lw_p59, List.forall_mem_cons.mpr ⟨lw_p60, List.forall_mem_cons.mpr ⟨lw_p61, List.forall_mem_cons.mpr ⟨lw_p62, List.forall_mem_cons.mpr ⟨lw_p63, fun _ h => absurd h List.not_mem_nil⟩⟩⟩⟩⟩⟩⟩⟩⟩⟩⟩⟩⟩⟩⟩⟩
theorem lw_p64 : lw_okq (⟨"FallMarketModel", "isBuyer", "(I)Z"⟩, 69) := ⟨⟨by decide +kernel, by decide +kernel⟩, lw_lk_mem (i := 958) (by decide +kernel), lw_lk_mem (i := 1323) (by decide +kernel), lw_lk_mem (i := 1324) (by decide +kernel)⟩
theorem lw_p65 : lw_okq (⟨"FallMarketModel", "copies", "()V"⟩, 69) := ⟨⟨by decide +kernel, by decide +kernel⟩, lw_lk_mem (i := 958) (by decide +kernel), lw_lk_mem (i := 1331) (by decide +kernel), lw_lk_mem (i := 1332) (by decide +kernel)⟩
theorem lw_p66 : lw_okq (⟨"FallMarketModel", "blowsNow", "()I"⟩, 69) := ⟨⟨by decide +kernel, by decide +kernel⟩, lw_lk_mem (i := 958) (by decide +kernel), lw_lk_mem (i := 1335) (by decide +kernel), lw_lk_mem (i := 1336) (by decide +kernel)⟩
theorem lw_p67 : lw_okq (⟨"FallMarketModel", "leftNow", "()I"⟩, 69) := ⟨⟨by decide +kernel, by decide +kernel⟩, lw_lk_mem (i := 958) (by decide +kernel), lw_lk_mem (i := 1339) (by decide +kernel), lw_lk_mem (i := 1340) (by decide +kernel)⟩
theorem lw_p68 : lw_okq (⟨"FallMarketModel", "bitsOf", "(I)I"⟩, 69) := ⟨⟨by decide +kernel, by decide +kernel⟩, lw_lk_mem (i := 958) (by decide +kernel), lw_lk_mem (i := 1343) (by decide +kernel), lw_lk_mem (i := 1344) (by decide +kernel)⟩
theorem lw_p69 : lw_okq (⟨"FallMarketModel", "windBy", "(II)I"⟩, 69) := ⟨⟨by decide +kernel, by decide +kernel⟩, lw_lk_mem (i := 958) (by decide +kernel), lw_lk_mem (i := 1350) (by decide +kernel), lw_lk_mem (i := 1351) (by decide +kernel)⟩
theorem lw_p70 : lw_okq (⟨"FallMarketModel", "looks", "(II)V"⟩, 69) := ⟨⟨by decide +kernel, by decide +kernel⟩, lw_lk_mem (i := 958) (by decide +kernel), lw_lk_mem (i := 1354) (by decide +kernel), lw_lk_mem (i := 1355) (by decide +kernel)⟩
theorem lw_p71 : lw_okq (⟨"FallMarketModel", "asks", "(IIII)I"⟩, 69) := ⟨⟨by decide +kernel, by decide +kernel⟩, lw_lk_mem (i := 958) (by decide +kernel), lw_lk_mem (i := 1358) (by decide +kernel), lw_lk_mem (i := 1359) (by decide +kernel)⟩
theorem lw_p72 : lw_okq (⟨"FallMarketModel", "lawTells", "(I)I"⟩, 69) := ⟨⟨by decide +kernel, by decide +kernel⟩, lw_lk_mem (i := 958) (by decide +kernel), lw_lk_mem (i := 1362) (by decide +kernel), lw_lk_mem (i := 1363) (by decide +kernel)⟩
theorem lw_p73 : lw_okq (⟨"FallMarketModel", "termOf", "(II)I"⟩, 69) := ⟨⟨by decide +kernel, by decide +kernel⟩, lw_lk_mem (i := 958) (by decide +kernel), lw_lk_mem (i := 1366) (by decide +kernel), lw_lk_mem (i := 1367) (by decide +kernel)⟩
theorem lw_p74 : lw_okq (⟨"FallMarketModel", "tellsOf", "(IIII)I"⟩, 69) := ⟨⟨by decide +kernel, by decide +kernel⟩, lw_lk_mem (i := 958) (by decide +kernel), lw_lk_mem (i := 1373) (by decide +kernel), lw_lk_mem (i := 1374) (by decide +kernel)⟩
theorem lw_p75 : lw_okq (⟨"FallMarketModel", "hangsBy", "(IIIIIIII)I"⟩, 69) := ⟨⟨by decide +kernel, by decide +kernel⟩, lw_lk_mem (i := 958) (by decide +kernel), lw_lk_mem (i := 1377) (by decide +kernel), lw_lk_mem (i := 1378) (by decide +kernel)⟩
theorem lw_p76 : lw_okq (⟨"FallMarketModel", "looksAt", "(IIII)V"⟩, 69) := ⟨⟨by decide +kernel, by decide +kernel⟩, lw_lk_mem (i := 958) (by decide +kernel), lw_lk_mem (i := 1381) (by decide +kernel), lw_lk_mem (i := 1382) (by decide +kernel)⟩
theorem lw_p77 : lw_okq (⟨"FallMarketModel", "worthBy", "(IIIII)I"⟩, 69) := ⟨⟨by decide +kernel, by decide +kernel⟩, lw_lk_mem (i := 958) (by decide +kernel), lw_lk_mem (i := 1385) (by decide +kernel), lw_lk_mem (i := 1386) (by decide +kernel)⟩
theorem lw_p78 : lw_okq (⟨"FallMarketModel", "bouncesBy", "(IIII)I"⟩, 69) := ⟨⟨by decide +kernel, by decide +kernel⟩, lw_lk_mem (i := 958) (by decide +kernel), lw_lk_mem (i := 1389) (by decide +kernel), lw_lk_mem (i := 1390) (by decide +kernel)⟩
theorem lw_p79 : lw_okq (⟨"FallMarketModel", "records", "()V"⟩, 69) := ⟨⟨by decide +kernel, by decide +kernel⟩, lw_lk_mem (i := 958) (by decide +kernel), lw_lk_mem (i := 1397) (by decide +kernel), lw_lk_mem (i := 1398) (by decide +kernel)⟩
def lw_privs_5 : List (MethodName × Nat) := [(⟨"FallMarketModel", "isBuyer", "(I)Z"⟩, 69), (⟨"FallMarketModel", "copies", "()V"⟩, 69), (⟨"FallMarketModel", "blowsNow", "()I"⟩, 69), (⟨"FallMarketModel", "leftNow", "()I"⟩, 69), (⟨"FallMarketModel", "bitsOf", "(I)I"⟩, 69), (⟨"FallMarketModel", "windBy", "(II)I"⟩, 69), (⟨"FallMarketModel", "looks", "(II)V"⟩, 69), (⟨"FallMarketModel", "asks", "(IIII)I"⟩, 69), (⟨"FallMarketModel", "lawTells", "(I)I"⟩, 69), (⟨"FallMarketModel", "termOf", "(II)I"⟩, 69), (⟨"FallMarketModel", "tellsOf", "(IIII)I"⟩, 69), (⟨"FallMarketModel", "hangsBy", "(IIIIIIII)I"⟩, 69), (⟨"FallMarketModel", "looksAt", "(IIII)V"⟩, 69), (⟨"FallMarketModel", "worthBy", "(IIIII)I"⟩, 69), (⟨"FallMarketModel", "bouncesBy", "(IIII)I"⟩, 69), (⟨"FallMarketModel", "records", "()V"⟩, 69)]
theorem lw_r5 : ∀ q ∈ lw_privs_5, lw_okq q := List.forall_mem_cons.mpr ⟨lw_p64, List.forall_mem_cons.mpr ⟨lw_p65, List.forall_mem_cons.mpr ⟨lw_p66, List.forall_mem_cons.mpr ⟨lw_p67, List.forall_mem_cons.mpr ⟨lw_p68, List.forall_mem_cons.mpr ⟨lw_p69, List.forall_mem_cons.mpr ⟨lw_p70, List.forall_mem_cons.mpr ⟨lw_p71, List.forall_mem_cons.mpr ⟨lw_p72, List.forall_mem_cons.mpr ⟨lw_p73, List.forall_mem_cons.mpr ⟨lw_p74, List.forall_mem_cons.mpr ⟨lw_p75, List.forall_mem_cons.mpr ⟨lw_p76, List.forall_mem_cons.mpr ⟨lw_p77, List.forall_mem_cons.mpr ⟨lw_p78, List.forall_mem_cons.mpr ⟨lw_p79, fun _ h => absurd h List.not_mem_nil⟩⟩⟩⟩⟩⟩⟩⟩⟩⟩⟩⟩⟩⟩⟩⟩
theorem lw_p80 : lw_okq (⟨"FallMarketModel", "lotOf", "(I)I"⟩, 69) := ⟨⟨by decide +kernel, by decide +kernel⟩, lw_lk_mem (i := 958) (by decide +kernel), lw_lk_mem (i := 1410) (by decide +kernel), lw_lk_mem (i := 1411) (by decide +kernel)⟩
theorem lw_p81 : lw_okq (⟨"FallMarketModel", "goes", "(I)V"⟩, 69) := ⟨⟨by decide +kernel, by decide +kernel⟩, lw_lk_mem (i := 958) (by decide +kernel), lw_lk_mem (i := 1422) (by decide +kernel), lw_lk_mem (i := 1423) (by decide +kernel)⟩
theorem lw_p82 : lw_okq (⟨"FallMarketModel", "hourGoes", "()V"⟩, 69) := ⟨⟨by decide +kernel, by decide +kernel⟩, lw_lk_mem (i := 958) (by decide +kernel), lw_lk_mem (i := 1426) (by decide +kernel), lw_lk_mem (i := 1427) (by decide +kernel)⟩
theorem lw_p83 : lw_okq (⟨"FallMarketModel", "looksOn", "()V"⟩, 69) := ⟨⟨by decide +kernel, by decide +kernel⟩, lw_lk_mem (i := 958) (by decide +kernel), lw_lk_mem (i := 1430) (by decide +kernel), lw_lk_mem (i := 1431) (by decide +kernel)⟩
theorem lw_p84 : lw_okq (⟨"FallMarketModel", "lies", "(I)V"⟩, 69) := ⟨⟨by decide +kernel, by decide +kernel⟩, lw_lk_mem (i := 958) (by decide +kernel), lw_lk_mem (i := 1434) (by decide +kernel), lw_lk_mem (i := 1435) (by decide +kernel)⟩
theorem lw_p85 : lw_okq (⟨"FallMarketModel", "sells", "(III)V"⟩, 69) := ⟨⟨by decide +kernel, by decide +kernel⟩, lw_lk_mem (i := 958) (by decide +kernel), lw_lk_mem (i := 1438) (by decide +kernel), lw_lk_mem (i := 1439) (by decide +kernel)⟩
theorem lw_p86 : lw_okq (⟨"FallMarketModel", "falls", "(I)V"⟩, 69) := ⟨⟨by decide +kernel, by decide +kernel⟩, lw_lk_mem (i := 958) (by decide +kernel), lw_lk_mem (i := 1442) (by decide +kernel), lw_lk_mem (i := 1443) (by decide +kernel)⟩
theorem lw_p87 : lw_okq (⟨"FallMarketModel", "catcherOf", "(II)I"⟩, 69) := ⟨⟨by decide +kernel, by decide +kernel⟩, lw_lk_mem (i := 958) (by decide +kernel), lw_lk_mem (i := 1446) (by decide +kernel), lw_lk_mem (i := 1447) (by decide +kernel)⟩
theorem lw_p88 : lw_okq (⟨"FallMarketModel", "fillsOdds", "(III)V"⟩, 69) := ⟨⟨by decide +kernel, by decide +kernel⟩, lw_lk_mem (i := 958) (by decide +kernel), lw_lk_mem (i := 1464) (by decide +kernel), lw_lk_mem (i := 1465) (by decide +kernel)⟩
theorem lw_p89 : lw_okq (⟨"FallMarketModel", "meanAt", "(III)J"⟩, 69) := ⟨⟨by decide +kernel, by decide +kernel⟩, lw_lk_mem (i := 958) (by decide +kernel), lw_lk_mem (i := 1479) (by decide +kernel), lw_lk_mem (i := 1480) (by decide +kernel)⟩
theorem lw_p90 : lw_okq (⟨"FallMarketModel", "fallsIn", "(I)J"⟩, 69) := ⟨⟨by decide +kernel, by decide +kernel⟩, lw_lk_mem (i := 958) (by decide +kernel), lw_lk_mem (i := 1483) (by decide +kernel), lw_lk_mem (i := 1484) (by decide +kernel)⟩
theorem lw_p91 : lw_okq (⟨"FallMarketModel", "fillsRows", "(I)V"⟩, 69) := ⟨⟨by decide +kernel, by decide +kernel⟩, lw_lk_mem (i := 958) (by decide +kernel), lw_lk_mem (i := 1555) (by decide +kernel), lw_lk_mem (i := 1556) (by decide +kernel)⟩
theorem lw_p92 : lw_okq (⟨"FallMarketModel", "isRow", "(II)Z"⟩, 69) := ⟨⟨by decide +kernel, by decide +kernel⟩, lw_lk_mem (i := 958) (by decide +kernel), lw_lk_mem (i := 1562) (by decide +kernel), lw_lk_mem (i := 1563) (by decide +kernel)⟩
def lw_privs_6 : List (MethodName × Nat) := [(⟨"FallMarketModel", "lotOf", "(I)I"⟩, 69), (⟨"FallMarketModel", "goes", "(I)V"⟩, 69), (⟨"FallMarketModel", "hourGoes", "()V"⟩, 69), (⟨"FallMarketModel", "looksOn", "()V"⟩, 69), (⟨"FallMarketModel", "lies", "(I)V"⟩, 69), (⟨"FallMarketModel", "sells", "(III)V"⟩, 69), (⟨"FallMarketModel", "falls", "(I)V"⟩, 69), (⟨"FallMarketModel", "catcherOf", "(II)I"⟩, 69), (⟨"FallMarketModel", "fillsOdds", "(III)V"⟩, 69), (⟨"FallMarketModel", "meanAt", "(III)J"⟩, 69), (⟨"FallMarketModel", "fallsIn", "(I)J"⟩, 69), (⟨"FallMarketModel", "fillsRows", "(I)V"⟩, 69), (⟨"FallMarketModel", "isRow", "(II)Z"⟩, 69)]
theorem lw_r6 : ∀ q ∈ lw_privs_6, lw_okq q := List.forall_mem_cons.mpr ⟨lw_p80, List.forall_mem_cons.mpr ⟨lw_p81, List.forall_mem_cons.mpr ⟨lw_p82, List.forall_mem_cons.mpr ⟨lw_p83, List.forall_mem_cons.mpr ⟨lw_p84, List.forall_mem_cons.mpr ⟨lw_p85, List.forall_mem_cons.mpr ⟨lw_p86, List.forall_mem_cons.mpr ⟨lw_p87, List.forall_mem_cons.mpr ⟨lw_p88, List.forall_mem_cons.mpr ⟨lw_p89, List.forall_mem_cons.mpr ⟨lw_p90, List.forall_mem_cons.mpr ⟨lw_p91, List.forall_mem_cons.mpr ⟨lw_p92, fun _ h => absurd h List.not_mem_nil⟩⟩⟩⟩⟩⟩⟩⟩⟩⟩⟩⟩⟩
def lw_privs : List (MethodName × Nat) := lw_privs_1 ++ (lw_privs_2 ++ (lw_privs_3 ++ (lw_privs_4 ++ (lw_privs_5 ++ (lw_privs_6)))))
def lw_tbl : List Cond := k2_sels lw_privs ++ tables_1
theorem lw_privs_ok : ∀ q ∈ lw_privs, lw_okq q := by
  show ∀ q ∈ lw_privs_1 ++ (lw_privs_2 ++ (lw_privs_3 ++ (lw_privs_4 ++ (lw_privs_5 ++ (lw_privs_6))))), lw_okq q
  exact List.forall_mem_append.mpr ⟨lw_r1, List.forall_mem_append.mpr ⟨lw_r2, List.forall_mem_append.mpr ⟨lw_r3, List.forall_mem_append.mpr ⟨lw_r4, List.forall_mem_append.mpr ⟨lw_r5, lw_r6⟩⟩⟩⟩⟩

def RX0 : String := "FallMarket$Clock"
def TX0 : u_T := fun k => match k with
  | _ => ("FallMarket$Clock", "laws", "LFallMarket$Laws;", true)
def tyX0 : Nat → FieldType := fun k => match k with
  | _ => .object "FallMarket$Laws"
abbrev wsX00 : List Cond := u_ws RX0 TX0 1
theorem nmX0 : ∀ a, a < 1 → ∀ b, b < 1 → a ≠ b → (TX0 a).2.1 ≠ (TX0 b).2.1 := by decide +kernel
theorem tyX0_ok : ∀ k, k < 1 → parseFieldDescriptor (TX0 k).2.2.1 = some (tyX0 k) := by decide +kernel

def RX1 : String := "FallMarket$Ground"
def TX1 : u_T := fun k => match k with
  | 0 => ("FallMarket$Ground", "hour", "I", false)
  | 1 => ("FallMarket$Ground", "shakes", "I", false)
  | 2 => ("FallMarket$Ground", "found", "I", false)
  | 3 => ("FallMarket$Ground", "ripe", "[I", true)
  | 4 => ("FallMarket$Ground", "how", "[I", true)
  | 5 => ("FallMarket$Ground", "owner", "[I", true)
  | 6 => ("FallMarket$Ground", "lain", "[I", true)
  | 7 => ("FallMarket$Ground", "propped", "[I", true)
  | 8 => ("FallMarket$Ground", "shaken", "[I", true)
  | 9 => ("FallMarket$Ground", "liesAt", "[I", true)
  | 10 => ("FallMarket$Ground", "standsAt", "[I", true)
  | _ => ("FallMarket$Ground", "coins", "[I", true)
def tyX1 : Nat → FieldType := fun k => match k with
  | 0 => .int
  | 1 => .int
  | 2 => .int
  | 3 => .array .int
  | 4 => .array .int
  | 5 => .array .int
  | 6 => .array .int
  | 7 => .array .int
  | 8 => .array .int
  | 9 => .array .int
  | 10 => .array .int
  | _ => .array .int
abbrev wsX10 : List Cond := u_ws RX1 TX1 12
theorem nmX1 : ∀ a, a < 12 → ∀ b, b < 12 → a ≠ b → (TX1 a).2.1 ≠ (TX1 b).2.1 := by decide +kernel
theorem tyX1_ok : ∀ k, k < 12 → parseFieldDescriptor (TX1 k).2.2.1 = some (tyX1 k) := by decide +kernel

def RX2 : String := "FallMarket$Laws"
def TX2 : u_T := fun k => match k with
  | 0 => ("FallMarket$Laws", "vars", "[I", true)
  | _ => ("FallMarket$Laws", "stack", "[I", true)
def tyX2 : Nat → FieldType := fun k => match k with
  | 0 => .array .int
  | _ => .array .int
abbrev wsX20 : List Cond := u_ws RX2 TX2 2
theorem nmX2 : ∀ a, a < 2 → ∀ b, b < 2 → a ≠ b → (TX2 a).2.1 ≠ (TX2 b).2.1 := by decide +kernel
theorem tyX2_ok : ∀ k, k < 2 → parseFieldDescriptor (TX2 k).2.2.1 = some (tyX2 k) := by decide +kernel

def RX3 : String := "FallMarket$Outlook"
def TX3 : u_T := fun k => match k with
  | 0 => ("FallMarket$Outlook", "falls", "[I", true)
  | 1 => ("FallMarket$Outlook", "worth", "[I", true)
  | 2 => ("FallMarket$Outlook", "weights", "[J", true)
  | _ => ("FallMarket$Outlook", "laws", "LFallMarket$Laws;", true)
def tyX3 : Nat → FieldType := fun k => match k with
  | 0 => .array .int
  | 1 => .array .int
  | 2 => .array .long
  | _ => .object "FallMarket$Laws"
abbrev wsX30 : List Cond := u_ws RX3 TX3 4
theorem nmX3 : ∀ a, a < 4 → ∀ b, b < 4 → a ≠ b → (TX3 a).2.1 ≠ (TX3 b).2.1 := by decide +kernel
theorem tyX3_ok : ∀ k, k < 4 → parseFieldDescriptor (TX3 k).2.2.1 = some (tyX3 k) := by decide +kernel

def RX4 : String := "FallMarket$Parser"
def TX4 : u_T := fun k => match k with
  | 0 => ("FallMarket$Parser", "tokens", "LFallMarket$Tokens;", true)
  | 1 => ("FallMarket$Parser", "into", "LFallMarket$Text;", false)
  | 2 => ("FallMarket$Parser", "at", "I", false)
  | 3 => ("FallMarket$Parser", "fault", "I", false)
  | 4 => ("FallMarket$Parser", "faultAt", "I", false)
  | 5 => ("FallMarket$Parser", "laterFault", "I", false)
  | 6 => ("FallMarket$Parser", "laterFaultAt", "I", false)
  | 7 => ("FallMarket$Parser", "names", "[J", true)
  | 8 => ("FallMarket$Parser", "nameCount", "I", false)
  | _ => ("FallMarket$Parser", "numbers", "[I", true)
def tyX4 : Nat → FieldType := fun k => match k with
  | 0 => .object "FallMarket$Tokens"
  | 1 => .object "FallMarket$Text"
  | 2 => .int
  | 3 => .int
  | 4 => .int
  | 5 => .int
  | 6 => .int
  | 7 => .array .long
  | 8 => .int
  | _ => .array .int
abbrev wsX40 : List Cond := u_ws RX4 TX4 10
theorem nmX4 : ∀ a, a < 10 → ∀ b, b < 10 → a ≠ b → (TX4 a).2.1 ≠ (TX4 b).2.1 := by decide +kernel
theorem tyX4_ok : ∀ k, k < 10 → parseFieldDescriptor (TX4 k).2.2.1 = some (tyX4 k) := by decide +kernel

def RX5 : String := "FallMarket$Text"
def TX5 : u_T := fun k => match k with
  | 0 => ("FallMarket$Text", "fruits", "I", false)
  | 1 => ("FallMarket$Text", "hungAt", "[I", true)
  | 2 => ("FallMarket$Text", "high", "[I", true)
  | 3 => ("FallMarket$Text", "ripe", "[I", true)
  | 4 => ("FallMarket$Text", "rests", "[I", true)
  | 5 => ("FallMarket$Text", "buyers", "I", false)
  | 6 => ("FallMarket$Text", "standsAt", "[I", true)
  | 7 => ("FallMarket$Text", "reach", "[I", true)
  | 8 => ("FallMarket$Text", "coins", "[I", true)
  | 9 => ("FallMarket$Text", "fine", "I", false)
  | 10 => ("FallMarket$Text", "keeps", "I", false)
  | 11 => ("FallMarket$Text", "seed", "I", false)
  | 12 => ("FallMarket$Text", "lawStart", "[I", true)
  | 13 => ("FallMarket$Text", "code", "[I", true)
  | _ => ("FallMarket$Text", "codeSize", "I", false)
def tyX5 : Nat → FieldType := fun k => match k with
  | 0 => .int
  | 1 => .array .int
  | 2 => .array .int
  | 3 => .array .int
  | 4 => .array .int
  | 5 => .int
  | 6 => .array .int
  | 7 => .array .int
  | 8 => .array .int
  | 9 => .int
  | 10 => .int
  | 11 => .int
  | 12 => .array .int
  | 13 => .array .int
  | _ => .int
abbrev wsX50 : List Cond := u_ws RX5 TX5 15
theorem nmX5 : ∀ a, a < 15 → ∀ b, b < 15 → a ≠ b → (TX5 a).2.1 ≠ (TX5 b).2.1 := by decide +kernel
theorem tyX5_ok : ∀ k, k < 15 → parseFieldDescriptor (TX5 k).2.2.1 = some (tyX5 k) := by decide +kernel

def RX6 : String := "FallMarket$Tokens"
def TX6 : u_T := fun k => match k with
  | 0 => ("FallMarket$Tokens", "kinds", "[I", true)
  | 1 => ("FallMarket$Tokens", "starts", "[I", true)
  | 2 => ("FallMarket$Tokens", "values", "[J", true)
  | _ => ("FallMarket$Tokens", "words", "[J", true)
def tyX6 : Nat → FieldType := fun k => match k with
  | 0 => .array .int
  | 1 => .array .int
  | 2 => .array .long
  | _ => .array .long
abbrev wsX60 : List Cond := u_ws RX6 TX6 4
theorem nmX6 : ∀ a, a < 4 → ∀ b, b < 4 → a ≠ b → (TX6 a).2.1 ≠ (TX6 b).2.1 := by decide +kernel
theorem tyX6_ok : ∀ k, k < 4 → parseFieldDescriptor (TX6 k).2.2.1 = some (tyX6 k) := by decide +kernel

def RX7 : String := "FallMarket$Told"
def TX7 : u_T := fun k => match k with
  | 0 => ("FallMarket$Told", "high", "[I", true)
  | 1 => ("FallMarket$Told", "x", "[I", true)
  | _ => ("FallMarket$Told", "size", "I", false)
def tyX7 : Nat → FieldType := fun k => match k with
  | 0 => .array .int
  | 1 => .array .int
  | _ => .int
abbrev wsX70 : List Cond := u_ws RX7 TX7 3
theorem nmX7 : ∀ a, a < 3 → ∀ b, b < 3 → a ≠ b → (TX7 a).2.1 ≠ (TX7 b).2.1 := by decide +kernel
theorem tyX7_ok : ∀ k, k < 3 → parseFieldDescriptor (TX7 k).2.2.1 = some (tyX7 k) := by decide +kernel

def RX8 : String := "FallMarket$Trail"
def TX8 : u_T := fun k => match k with
  | 0 => ("FallMarket$Trail", "cells", "[I", true)
  | 1 => ("FallMarket$Trail", "oldest", "I", false)
  | _ => ("FallMarket$Trail", "size", "I", false)
def tyX8 : Nat → FieldType := fun k => match k with
  | 0 => .array .int
  | 1 => .int
  | _ => .int
abbrev wsX80 : List Cond := u_ws RX8 TX8 3
theorem nmX8 : ∀ a, a < 3 → ∀ b, b < 3 → a ≠ b → (TX8 a).2.1 ≠ (TX8 b).2.1 := by decide +kernel
theorem tyX8_ok : ∀ k, k < 3 → parseFieldDescriptor (TX8 k).2.2.1 = some (tyX8 k) := by decide +kernel

def RX9 : String := "FallMarket"
def TX9 : u_T := fun k => match k with
  | 0 => ("FallMarket", "tape", "[B", true)
  | 1 => ("FallMarket", "taped", "I", false)
  | 2 => ("FallMarket", "faultPlace", "I", false)
  | 3 => ("FallMarket", "text", "LFallMarket$Text;", false)
  | 4 => ("FallMarket", "spare", "LFallMarket$Text;", false)
  | 5 => ("FallMarket", "parser", "LFallMarket$Parser;", true)
  | 6 => ("FallMarket", "laws", "LFallMarket$Laws;", true)
  | 7 => ("FallMarket", "clock", "LFallMarket$Clock;", true)
  | 8 => ("FallMarket", "outlook", "LFallMarket$Outlook;", true)
  | 9 => ("FallMarket", "now", "LFallMarket$Ground;", true)
  | 10 => ("FallMarket", "ahead", "LFallMarket$Ground;", true)
  | 11 => ("FallMarket", "trail", "LFallMarket$Trail;", true)
  | 12 => ("FallMarket", "slots", "[I", true)
  | 13 => ("FallMarket", "held", "[Z", true)
  | _ => ("FallMarket", "told", "LFallMarket$Told;", true)
def tyX9 : Nat → FieldType := fun k => match k with
  | 0 => .array .byte
  | 1 => .int
  | 2 => .int
  | 3 => .object "FallMarket$Text"
  | 4 => .object "FallMarket$Text"
  | 5 => .object "FallMarket$Parser"
  | 6 => .object "FallMarket$Laws"
  | 7 => .object "FallMarket$Clock"
  | 8 => .object "FallMarket$Outlook"
  | 9 => .object "FallMarket$Ground"
  | 10 => .object "FallMarket$Ground"
  | 11 => .object "FallMarket$Trail"
  | 12 => .array .int
  | 13 => .array .boolean
  | _ => .object "FallMarket$Told"
abbrev wsX90 : List Cond := u_ws RX9 TX9 15
theorem nmX9 : ∀ a, a < 15 → ∀ b, b < 15 → a ≠ b → (TX9 a).2.1 ≠ (TX9 b).2.1 := by decide +kernel
theorem tyX9_ok : ∀ k, k < 15 → parseFieldDescriptor (TX9 k).2.2.1 = some (tyX9 k) := by decide +kernel

def RX10 : String := "FallMarketModel"
def TX10 : u_T := fun k => match k with
  | 0 => ("FallMarketModel", "thrown", "I", false)
  | 1 => ("FallMarketModel", "tape", "[B", true)
  | 2 => ("FallMarketModel", "taped", "I", false)
  | 3 => ("FallMarketModel", "text", "[B", true)
  | 4 => ("FallMarketModel", "size", "I", false)
  | 5 => ("FallMarketModel", "tKind", "[I", true)
  | 6 => ("FallMarketModel", "tPlace", "[I", true)
  | 7 => ("FallMarketModel", "tValue", "[I", true)
  | 8 => ("FallMarketModel", "tName", "[J", true)
  | 9 => ("FallMarketModel", "keys", "[J", true)
  | 10 => ("FallMarketModel", "tokens", "I", false)
  | 11 => ("FallMarketModel", "t", "I", false)
  | 12 => ("FallMarketModel", "open", "I", false)
  | 13 => ("FallMarketModel", "fault", "I", false)
  | 14 => ("FallMarketModel", "faultPlace", "I", false)
  | 15 => ("FallMarketModel", "worst", "I", false)
  | 16 => ("FallMarketModel", "worstPlace", "I", false)
  | 17 => ("FallMarketModel", "place", "I", false)
  | 18 => ("FallMarketModel", "live", "I", false)
  | 19 => ("FallMarketModel", "side", "I", false)
  | 20 => ("FallMarketModel", "names", "I", false)
  | 21 => ("FallMarketModel", "nameOf", "[J", true)
  | 22 => ("FallMarketModel", "fruits", "[I", true)
  | 23 => ("FallMarketModel", "xOf", "[I", true)
  | 24 => ("FallMarketModel", "highOf", "[I", true)
  | 25 => ("FallMarketModel", "ripeTold", "[I", true)
  | 26 => ("FallMarketModel", "buyers", "[I", true)
  | 27 => ("FallMarketModel", "xTold", "[I", true)
  | 28 => ("FallMarketModel", "reachOf", "[I", true)
  | 29 => ("FallMarketModel", "coinsTold", "[I", true)
  | 30 => ("FallMarketModel", "fine", "[I", true)
  | 31 => ("FallMarketModel", "keepsFor", "[I", true)
  | 32 => ("FallMarketModel", "seed", "[I", true)
  | 33 => ("FallMarketModel", "lawFirst", "[I", true)
  | 34 => ("FallMarketModel", "lawLast", "[I", true)
  | 35 => ("FallMarketModel", "branches", "I", false)
  | 36 => ("FallMarketModel", "hasTest", "[Z", true)
  | 37 => ("FallMarketModel", "testFrom", "[I", true)
  | 38 => ("FallMarketModel", "testMid", "[I", true)
  | 39 => ("FallMarketModel", "testTo", "[I", true)
  | 40 => ("FallMarketModel", "termTo", "[I", true)
  | 41 => ("FallMarketModel", "codes", "I", false)
  | 42 => ("FallMarketModel", "code", "[I", true)
  | 43 => ("FallMarketModel", "codeInt", "[I", true)
  | 44 => ("FallMarketModel", "waits", "[I", true)
  | 45 => ("FallMarketModel", "waiting", "I", false)
  | 46 => ("FallMarketModel", "variables", "[I", true)
  | 47 => ("FallMarketModel", "pile", "[I", true)
  | 48 => ("FallMarketModel", "isBroken", "Z", false)
  | 49 => ("FallMarketModel", "now", "[I", true)
  | 50 => ("FallMarketModel", "row", "[I", true)
  | 51 => ("FallMarketModel", "lots", "I", false)
  | 52 => ("FallMarketModel", "fallsNow", "[Z", true)
  | 53 => ("FallMarketModel", "ripeThen", "[I", true)
  | 54 => ("FallMarketModel", "worthNow", "[I", true)
  | 55 => ("FallMarketModel", "bounceNow", "[I", true)
  | 56 => ("FallMarketModel", "hasSold", "Z", false)
  | 57 => ("FallMarketModel", "undos", "I", false)
  | 58 => ("FallMarketModel", "history", "[I", true)
  | 59 => ("FallMarketModel", "oddsBy", "[I", true)
  | 60 => ("FallMarketModel", "worthIn", "[I", true)
  | 61 => ("FallMarketModel", "tolds", "I", false)
  | 62 => ("FallMarketModel", "toldHigh", "[I", true)
  | 63 => ("FallMarketModel", "toldX", "[I", true)
  | 64 => ("FallMarketModel", "liesAt", "[I", true)
  | 65 => ("FallMarketModel", "rowsBy", "[I", true)
  | 66 => ("FallMarketModel", "rowsAll", "I", false)
  | 67 => ("FallMarketModel", "isHeld", "[Z", true)
  | _ => ("FallMarketModel", "heldRows", "[I", true)
def tyX10 : Nat → FieldType := fun k => match k with
  | 0 => .int
  | 1 => .array .byte
  | 2 => .int
  | 3 => .array .byte
  | 4 => .int
  | 5 => .array .int
  | 6 => .array .int
  | 7 => .array .int
  | 8 => .array .long
  | 9 => .array .long
  | 10 => .int
  | 11 => .int
  | 12 => .int
  | 13 => .int
  | 14 => .int
  | 15 => .int
  | 16 => .int
  | 17 => .int
  | 18 => .int
  | 19 => .int
  | 20 => .int
  | 21 => .array .long
  | 22 => .array .int
  | 23 => .array .int
  | 24 => .array .int
  | 25 => .array .int
  | 26 => .array .int
  | 27 => .array .int
  | 28 => .array .int
  | 29 => .array .int
  | 30 => .array .int
  | 31 => .array .int
  | 32 => .array .int
  | 33 => .array .int
  | 34 => .array .int
  | 35 => .int
  | 36 => .array .boolean
  | 37 => .array .int
  | 38 => .array .int
  | 39 => .array .int
  | 40 => .array .int
  | 41 => .int
  | 42 => .array .int
  | 43 => .array .int
  | 44 => .array .int
  | 45 => .int
  | 46 => .array .int
  | 47 => .array .int
  | 48 => .boolean
  | 49 => .array .int
  | 50 => .array .int
  | 51 => .int
  | 52 => .array .boolean
  | 53 => .array .int
  | 54 => .array .int
  | 55 => .array .int
  | 56 => .boolean
  | 57 => .int
  | 58 => .array .int
  | 59 => .array .int
  | 60 => .array .int
  | 61 => .int
  | 62 => .array .int
  | 63 => .array .int
  | 64 => .array .int
  | 65 => .array .int
  | 66 => .int
  | 67 => .array .boolean
  | _ => .array .int
abbrev wsX100 : List Cond := u_ws RX10 TX10 69
theorem nmX10 : ∀ a, a < 69 → ∀ b, b < 69 → a ≠ b → (TX10 a).2.1 ≠ (TX10 b).2.1 := by decide +kernel
theorem tyX10_ok : ∀ k, k < 69 → parseFieldDescriptor (TX10 k).2.2.1 = some (tyX10 k) := by decide +kernel

abbrev vwCl : List vw_C := [(RX0, TX0, 1), (RX1, TX1, 12), (RX2, TX2, 2), (RX3, TX3, 4), (RX4, TX4, 10), (RX5, TX5, 15), (RX6, TX6, 4), (RX7, TX7, 3), (RX8, TX8, 3), (RX9, TX9, 15), (RX10, TX10, 69)]
